/-! ===== one call on either side: the calls that write ===== -/
theorem st_pass {d : Nat} {n : Int32} {σ : XH} {S : SS} {ρ : List Nat} {K : XV → XH → Prop} (w : WW σ S ρ) (hd : 45 ≤ d) (h : ∀ x g, Same σ g → (∀ e (K2 : XV → XH → Prop), 45 ≤ e → (∀ g' S' ρ', WW g' S' ρ' → Same σ g' → K2 (vI x) g') → Ec e 0 0 m_X11_pass [vR (some (12, 0)), vI n] g K2) → K (vI x) g) : Ec d 0 0 m_X10_pass [vR (some (11, 0)), vI n] σ K := by
  refine sp_X10_pass (by omega) w.c.sc fun g hF0 hsc => ?_
  have hF := hF0.fr
  have hS := sa_pass S n
  obtain ⟨e1, e2, e3⟩ := w.mid hF (rsb_tl (by decide)) rfl
  have hC : CA g (passF S n).2 ρ := ⟨w.c.x.fi hF0 rfl rfl rfl, w.c.ll.trs hF hS (by decide) (by decide), w.c.st.tr hF hS (by decide) (by decide) (by decide), w.c.cl.tr hF hS (by decide) (by decide) (by decide), w.c.rd.tr hF hS (by decide) (by decide) (by decide), hsc, w.c.tp.tr hF hS (by decide) (by decide) (by decide), w.c.tb.tr hF hS (by decide) (by decide) (by decide), w.c.le.tr hF hS (by decide) (by decide) (by decide), w.c.pl.tr hF hS (by decide) (by decide) (by decide), w.c.tx.tr hF hS (by decide) (by decide) (by decide), w.c.ar.tr hF hS (by decide) (by decide) (by decide), w.c.ru.tr w.v.1.l25 hF hS (by decide) (by decide) rfl⟩
  refine h _ _ e3 fun e K2 he k2 => ?_
  rw [← e1]
  exact sp_X11_pass (by omega) e2 (k2 _ _ _ (WW.fin e2 hC (w.v.pass n) (w.t.sa hS rfl rfl) (w.u.sa hS rfl rfl rfl)) (e3.up _))
theorem st_station {d : Nat} {l : Int32} {b : Int32} {σ : XH} {S : SS} {ρ : List Nat} {K : XV → XH → Prop} (w : WW σ S ρ) (hd : 45 ≤ d) (h : ∀ x g, Same σ g → (∀ e (K2 : XV → XH → Prop), 45 ≤ e → (∀ g' S' ρ', WW g' S' ρ' → Same σ g' → K2 (vI x) g') → Ec e 0 0 m_X11_station [vR (some (12, 0)), vI l, vI b] g K2) → K (vI x) g) : Ec d 3 210 m_X10_station [vR (some (11, 0)), vI l, vI b] σ K := by
  refine sp_X10_station (by omega) w.c.x w.c.ll w.v.1 w.c.st w.v.2.2.2.1.lev fun g hF0 hll hst => ?_
  have hF := hF0
  have hS := sa_station S l b
  obtain ⟨e1, e2, e3⟩ := w.mid hF (rsb_tl (by decide)) rfl
  have hC : CA g (stationF S l b).2 ρ := ⟨w.c.x.fr hF (by decide), hll, hst, w.c.cl.tr hF hS (by decide) (by decide) (by decide), w.c.rd.tr hF hS (by decide) (by decide) (by decide), w.c.sc.tr hF hS (by decide) (by decide) (by decide), w.c.tp.tr hF hS (by decide) (by decide) (by decide), w.c.tb.tr hF hS (by decide) (by decide) (by decide), w.c.le.tr hF hS (by decide) (by decide) (by decide), w.c.pl.tr hF hS (by decide) (by decide) (by decide), w.c.tx.tr hF hS (by decide) (by decide) (by decide), w.c.ar.tr hF hS (by decide) (by decide) (by decide), w.c.ru.tr w.v.1.l25 hF hS (by decide) (by decide) rfl⟩
  refine h _ _ e3 fun e K2 he k2 => ?_
  rw [← e1]
  exact sp_X11_station (by omega) e2 (slot_in w.v.1.n1 w.v.1.l1 (by decide) (by decide)) (k2 _ _ _ (WW.fin e2 hC (w.v.station l b) (w.t.sa hS rfl rfl) (w.u.sa hS rfl rfl rfl)) (e3.up _))
theorem st_clock {d : Nat} {s : Int32} {σ : XH} {S : SS} {ρ : List Nat} {K : XV → XH → Prop} (w : WW σ S ρ) (hd : 45 ≤ d) (h : ∀ x g, Same σ g → (∀ e (K2 : XV → XH → Prop), 45 ≤ e → (∀ g' S' ρ', WW g' S' ρ' → Same σ g' → K2 (vI x) g') → Ec e 0 0 m_X11_clock [vR (some (12, 0)), vI s] g K2) → K (vI x) g) : Ec d 4 386 m_X10_clock [vR (some (11, 0)), vI s] σ K := by
  refine sp_X10_clock (by omega) w.c.base w.v.1 fun g hF0 hll hst hcl => ?_
  have hF := hF0
  have hS := sa_clock S s
  obtain ⟨e1, e2, e3⟩ := w.mid hF (rsb_tl (by decide)) rfl
  have hC : CA g (clockF S s).2 ρ := ⟨w.c.x.fr hF (by decide), hll, hst, hcl, w.c.rd.tr hF hS (by decide) (by decide) (by decide), w.c.sc.tr hF hS (by decide) (by decide) (by decide), w.c.tp.tr hF hS (by decide) (by decide) (by decide), w.c.tb.tr hF hS (by decide) (by decide) (by decide), w.c.le.tr hF hS (by decide) (by decide) (by decide), w.c.pl.tr hF hS (by decide) (by decide) (by decide), w.c.tx.tr hF hS (by decide) (by decide) (by decide), w.c.ar.tr hF hS (by decide) (by decide) (by decide), w.c.ru.tr w.v.1.l25 hF hS (by decide) (by decide) rfl⟩
  refine h _ _ e3 fun e K2 he k2 => ?_
  rw [← e1]
  exact sp_X11_clock (by omega) e2 (slot_in w.v.1.n2 w.v.1.l2 (by decide) (by decide)) (k2 _ _ _ (WW.fin e2 hC (w.v.clock s) (w.t.sa hS rfl rfl) (w.u.sa hS rfl rfl rfl)) (e3.up _))
theorem st_stop {d : Nat} {c : Int32} {t : Int32} {σ : XH} {S : SS} {ρ : List Nat} {K : XV → XH → Prop} (w : WW σ S ρ) (hd : 45 ≤ d) (h : ∀ x g, Same σ g → (∀ e (K2 : XV → XH → Prop), 45 ≤ e → (∀ g' S' ρ', WW g' S' ρ' → Same σ g' → K2 (vI x) g') → Ec e 0 0 m_X11_stop [vR (some (12, 0)), vI c, vI t] g K2) → K (vI x) g) : Ec d 0 0 m_X10_stop [vR (some (11, 0)), vI c, vI t] σ K := by
  refine sp_X10_stop (by omega) w.c.base w.v.1 (w.v.stop c t).1 fun g hF0 hB => ?_
  have hF := hF0.fr
  have hS := sa_stop S c t
  obtain ⟨e1, e2, e3⟩ := w.mid hF (rsb_tl (by decide)) rfl
  have hC : CA g (stopF S c t).2 ρ := ⟨hB.1, hB.2.1, hB.2.2.1, hB.2.2.2.1, hB.2.2.2.2, w.c.sc.tr hF hS (by decide) (by decide) (by decide), w.c.tp.tr hF hS (by decide) (by decide) (by decide), w.c.tb.tr hF hS (by decide) (by decide) (by decide), w.c.le.tr hF hS (by decide) (by decide) (by decide), w.c.pl.tr hF hS (by decide) (by decide) (by decide), w.c.tx.tr hF hS (by decide) (by decide) (by decide), w.c.ar.tr hF hS (by decide) (by decide) (by decide), w.c.ru.tr w.v.1.l25 hF hS (by decide) (by decide) rfl⟩
  refine h _ _ e3 fun e K2 he k2 => ?_
  rw [← e1]
  exact sp_X11_stop (by omega) e2 (fun z => vp_mono (w.v.1.isCl z) w.v.1.l2) (k2 _ _ _ (WW.fin e2 hC (w.v.stop c t) (w.t.sa hS rfl rfl) (w.u.sa hS rfl rfl rfl)) (e3.up _))
theorem st_reading {d : Nat} {k : Int32} {c : Int32} {y : Int32} {s : Int32} {m : Int32} {σ : XH} {S : SS} {ρ : List Nat} {K : XV → XH → Prop} (w : WW σ S ρ) (hd : 45 ≤ d) (h : ∀ x g, Same σ g → (∀ e (K2 : XV → XH → Prop), 45 ≤ e → (∀ g' S' ρ', WW g' S' ρ' → Same σ g' → K2 (vI x) g') → Ec e 0 0 m_X11_reading [vR (some (12, 0)), vI k, vI c, vI y, vI s, vI m] g K2) → K (vI x) g) : Ec d 2 211 m_X10_reading [vR (some (11, 0)), vI k, vI c, vI y, vI s, vI m] σ K := by
  refine sp_X10_reading (by omega) w.c.base w.c.sc w.v.1 (w.v.reading k c y s m).1 fun g hF0 hB hsc => ?_
  have hF := hF0
  have hS := sa_reading w.v.1 k c y s m
  obtain ⟨e1, e2, e3⟩ := w.mid hF (rsb_tl (by decide)) rfl
  have hC : CA g (readingF S k c y s m).2 ρ := ⟨hB.1, hB.2.1, hB.2.2.1, hB.2.2.2.1, hB.2.2.2.2, hsc, w.c.tp.tr hF hS (by decide) (by decide) (by decide), w.c.tb.tr hF hS (by decide) (by decide) (by decide), w.c.le.tr hF hS (by decide) (by decide) (by decide), w.c.pl.tr hF hS (by decide) (by decide) (by decide), w.c.tx.tr hF hS (by decide) (by decide) (by decide), w.c.ar.tr hF hS (by decide) (by decide) (by decide), w.c.ru.tr w.v.1.l25 hF hS (by decide) (by decide) rfl⟩
  refine h _ _ e3 fun e K2 he k2 => ?_
  rw [← e1]
  exact sp_X11_reading (by omega) e2 (slot_in w.v.1.n8 w.v.1.l8 (by decide) (by decide)) (k2 _ _ _ (WW.fin e2 hC (w.v.reading k c y s m) (w.t.sa hS rfl rfl) (w.u.sa hS rfl rfl rfl)) (e3.up _))
theorem st_copied {d : Nat} {r : Int32} {s : Int32} {σ : XH} {S : SS} {ρ : List Nat} {K : XV → XH → Prop} (w : WW σ S ρ) (hd : 45 ≤ d) (h : ∀ x g, Same σ g → (∀ e (K2 : XV → XH → Prop), 45 ≤ e → (∀ g' S' ρ', WW g' S' ρ' → Same σ g' → K2 (vI x) g') → Ec e 0 0 m_X11_copied [vR (some (12, 0)), vI r, vI s] g K2) → K (vI x) g) : Ec d 2 211 m_X10_copied [vR (some (11, 0)), vI r, vI s] σ K := by
  refine sp_X10_copied (by omega) w.c.base w.c.sc w.v.1 fun g hF0 hB hsc => ?_
  have hF := hF0
  have hS := sa_copied w.v.1 r s
  obtain ⟨e1, e2, e3⟩ := w.mid hF (rsb_tl (by decide)) rfl
  have hC : CA g (copiedF S r s).2 ρ := ⟨hB.1, hB.2.1, hB.2.2.1, hB.2.2.2.1, hB.2.2.2.2, hsc, w.c.tp.tr hF hS (by decide) (by decide) (by decide), w.c.tb.tr hF hS (by decide) (by decide) (by decide), w.c.le.tr hF hS (by decide) (by decide) (by decide), w.c.pl.tr hF hS (by decide) (by decide) (by decide), w.c.tx.tr hF hS (by decide) (by decide) (by decide), w.c.ar.tr hF hS (by decide) (by decide) (by decide), w.c.ru.tr w.v.1.l25 hF hS (by decide) (by decide) rfl⟩
  refine h _ _ e3 fun e K2 he k2 => ?_
  rw [← e1]
  exact sp_X11_copied (by omega) e2 (rd_in w.v.1) (slot_in w.v.1.n8 w.v.1.l8 (by decide) (by decide)) (k2 _ _ _ (WW.fin e2 hC (w.v.copied r s) (w.t.sa hS rfl rfl) (w.u.sa hS rfl rfl rfl)) (e3.up _))
theorem st_withdraw {d : Nat} {r : Int32} {σ : XH} {S : SS} {ρ : List Nat} {K : XV → XH → Prop} (w : WW σ S ρ) (hd : 45 ≤ d) (h : ∀ x g, Same σ g → (∀ e (K2 : XV → XH → Prop), 45 ≤ e → (∀ g' S' ρ', WW g' S' ρ' → Same σ g' → K2 (vI x) g') → Ec e 0 0 m_X11_withdraw [vR (some (12, 0)), vI r] g K2) → K (vI x) g) : Ec d 0 0 m_X10_withdraw [vR (some (11, 0)), vI r] σ K := by
  refine sp_X10_withdraw (by omega) w.c.base w.c.sc w.v.1 (w.v.withdraw r).1 fun g hF0 hB hsc => ?_
  have hF := hF0.fr
  have hS := sa_withdraw S r
  obtain ⟨e1, e2, e3⟩ := w.mid hF (rsb_tl (by decide)) rfl
  have hC : CA g (withdrawF S r).2 ρ := ⟨hB.1, hB.2.1, hB.2.2.1, hB.2.2.2.1, hB.2.2.2.2, hsc, w.c.tp.tr hF hS (by decide) (by decide) (by decide), w.c.tb.tr hF hS (by decide) (by decide) (by decide), w.c.le.tr hF hS (by decide) (by decide) (by decide), w.c.pl.tr hF hS (by decide) (by decide) (by decide), w.c.tx.tr hF hS (by decide) (by decide) (by decide), w.c.ar.tr hF hS (by decide) (by decide) (by decide), w.c.ru.tr w.v.1.l25 hF hS (by decide) (by decide) rfl⟩
  refine h _ _ e3 fun e K2 he k2 => ?_
  rw [← e1]
  exact sp_X11_withdraw (by omega) e2 (rd_in w.v.1) (k2 _ _ _ (WW.fin e2 hC (w.v.withdraw r) (w.t.sa hS rfl rfl) (w.u.sa hS rfl rfl rfl)) (e3.up _))
theorem st_number {d : Nat} {r : Int32} {n : Int32} {σ : XH} {S : SS} {ρ : List Nat} {K : XV → XH → Prop} (w : WW σ S ρ) (hd : 45 ≤ d) (h : ∀ x g, Same σ g → (∀ e (K2 : XV → XH → Prop), 45 ≤ e → (∀ g' S' ρ', WW g' S' ρ' → Same σ g' → K2 (vI x) g') → Ec e 0 0 m_X11_number [vR (some (12, 0)), vI r, vI n] g K2) → K (vI x) g) : Ec d 0 0 m_X10_number [vR (some (11, 0)), vI r, vI n] σ K := by
  refine sp_X10_number (by omega) w.c.base w.v.1 fun g hF0 hrd => ?_
  have hF := hF0.fr
  have hS := sa_number S r n
  obtain ⟨e1, e2, e3⟩ := w.mid hF (rsb_tl (by decide)) rfl
  have hC : CA g (numberF S r n).2 ρ := ⟨w.c.x.fi hF0 rfl rfl rfl, w.c.ll.trs hF hS (by decide) (by decide), w.c.st.tr hF hS (by decide) (by decide) (by decide), w.c.cl.tr hF hS (by decide) (by decide) (by decide), hrd, w.c.sc.tr hF hS (by decide) (by decide) (by decide), w.c.tp.tr hF hS (by decide) (by decide) (by decide), w.c.tb.tr hF hS (by decide) (by decide) (by decide), w.c.le.tr hF hS (by decide) (by decide) (by decide), w.c.pl.tr hF hS (by decide) (by decide) (by decide), w.c.tx.tr hF hS (by decide) (by decide) (by decide), w.c.ar.tr hF hS (by decide) (by decide) (by decide), w.c.ru.tr w.v.1.l25 hF hS (by decide) (by decide) rfl⟩
  refine h _ _ e3 fun e K2 he k2 => ?_
  rw [← e1]
  exact sp_X11_number (by omega) e2 (rd_in w.v.1) (k2 _ _ _ (WW.fin e2 hC (w.v.number r n) (w.t.sa hS rfl rfl) (w.u.sa hS rfl rfl rfl)) (e3.up _))
theorem st_letter {d : Nat} {s : Int32} {b : Int32} {n : Int32} {σ : XH} {S : SS} {ρ : List Nat} {K : XV → XH → Prop} (w : WW σ S ρ) (hd : 45 ≤ d) (h : ∀ x g, Same σ g → (∀ e (K2 : XV → XH → Prop), 45 ≤ e → (∀ g' S' ρ', WW g' S' ρ' → Same σ g' → K2 (vI x) g') → Ec e 0 0 m_X11_letter [vR (some (12, 0)), vI s, vI b, vI n] g K2) → K (vI x) g) : Ec d 2 204 m_X10_letter [vR (some (11, 0)), vI s, vI b, vI n] σ K := by
  refine sp_X10_letter (by omega) w.c.x w.c.ll w.v.1 w.c.st w.c.le w.c.sc fun g hF0 hx hll hle hsc => ?_
  have hF := hF0
  have hS := sa_letter S s b n
  obtain ⟨e1, e2, e3⟩ := w.mid hF (rsb_tl (by decide)) rfl
  have hC : CA g (letterF S s b n).2 ρ := ⟨hx, hll, w.c.st.tr hF hS (by decide) (by decide) (by decide), w.c.cl.tr hF hS (by decide) (by decide) (by decide), w.c.rd.tr hF hS (by decide) (by decide) (by decide), hsc, w.c.tp.tr hF hS (by decide) (by decide) (by decide), w.c.tb.tr hF hS (by decide) (by decide) (by decide), hle, w.c.pl.tr hF hS (by decide) (by decide) (by decide), w.c.tx.tr hF hS (by decide) (by decide) (by decide), w.c.ar.tr hF hS (by decide) (by decide) (by decide), w.c.ru.tr w.v.1.l25 hF hS (by decide) (by decide) rfl⟩
  refine h _ _ e3 fun e K2 he k2 => ?_
  rw [← e1]
  exact sp_X11_letter (by omega) e2 (slot_in w.v.1.n20 w.v.1.l20 (by decide) (by decide)) (k2 _ _ _ (WW.fin e2 hC (w.v.letter s b n) (w.t.sa hS rfl rfl) (w.u.sa hS rfl rfl rfl)) (e3.up _))
theorem st_table {d : Nat} {n : Int32} {t : Int32} {σ : XH} {S : SS} {ρ : List Nat} {K : XV → XH → Prop} (w : WW σ S ρ) (hd : 45 ≤ d) (h : ∀ x g, Same σ g → (∀ e (K2 : XV → XH → Prop), 45 ≤ e → (∀ g' S' ρ', WW g' S' ρ' → Same σ g' → K2 (vI x) g') → Ec e 0 0 m_X11_table [vR (some (12, 0)), vI n, vI t] g K2) → K (vI x) g) : Ec d 0 0 m_X10_table [vR (some (11, 0)), vI n, vI t] σ K := by
  refine sp_X10_table (by omega) w.c.x w.c.tb fun g hF0 htb => ?_
  have hF := hF0.fr
  have hS := sa_table S n t
  obtain ⟨e1, e2, e3⟩ := w.mid hF (rsb_tl (by decide)) rfl
  have hC : CA g (tableF S n t).2 ρ := ⟨w.c.x.fi hF0 rfl rfl rfl, w.c.ll.trs hF hS (by decide) (by decide), w.c.st.tr hF hS (by decide) (by decide) (by decide), w.c.cl.tr hF hS (by decide) (by decide) (by decide), w.c.rd.tr hF hS (by decide) (by decide) (by decide), w.c.sc.tr hF hS (by decide) (by decide) (by decide), w.c.tp.tr hF hS (by decide) (by decide) (by decide), htb, w.c.le.tr hF hS (by decide) (by decide) (by decide), w.c.pl.tr hF hS (by decide) (by decide) (by decide), w.c.tx.tr hF hS (by decide) (by decide) (by decide), w.c.ar.tr hF hS (by decide) (by decide) (by decide), w.c.ru.tr w.v.1.l25 hF hS (by decide) (by decide) rfl⟩
  refine h _ _ e3 fun e K2 he k2 => ?_
  rw [← e1]
  exact sp_X11_table (by omega) e2 (fun z => inP_c z (by decide) (by decide)) (k2 _ _ _ (WW.fin e2 hC (w.v.table n t) (w.t.sa hS rfl rfl) (w.u.sa hS rfl rfl rfl)) (e3.up _))
theorem st_lever {d : Nat} {s : Int32} {n : Int32} {q : Int32} {σ : XH} {S : SS} {ρ : List Nat} {K : XV → XH → Prop} (w : WW σ S ρ) (hd : 45 ≤ d) (h : ∀ x g, Same σ g → (∀ e (K2 : XV → XH → Prop), 45 ≤ e → (∀ g' S' ρ', WW g' S' ρ' → Same σ g' → K2 (vI x) g') → Ec e 0 0 m_X11_lever [vR (some (12, 0)), vI s, vI n, vI q] g K2) → K (vI x) g) : Ec d 0 0 m_X10_lever [vR (some (11, 0)), vI s, vI n, vI q] σ K := by
  refine sp_X10_lever (by omega) w.c.x w.c.ll w.v.1 w.c.st fun g hF0 hst => ?_
  have hF := hF0.fr
  have hS := sa_lever S s n q
  obtain ⟨e1, e2, e3⟩ := w.mid hF (rsb_tl (by decide)) rfl
  have hC : CA g (leverF S s n q).2 ρ := ⟨w.c.x.fi hF0 rfl rfl rfl, w.c.ll.trs hF hS (by decide) (by decide), hst, w.c.cl.tr hF hS (by decide) (by decide) (by decide), w.c.rd.tr hF hS (by decide) (by decide) (by decide), w.c.sc.tr hF hS (by decide) (by decide) (by decide), w.c.tp.tr hF hS (by decide) (by decide) (by decide), w.c.tb.tr hF hS (by decide) (by decide) (by decide), w.c.le.tr hF hS (by decide) (by decide) (by decide), w.c.pl.tr hF hS (by decide) (by decide) (by decide), w.c.tx.tr hF hS (by decide) (by decide) (by decide), w.c.ar.tr hF hS (by decide) (by decide) (by decide), w.c.ru.tr w.v.1.l25 hF hS (by decide) (by decide) rfl⟩
  refine h _ _ e3 fun e K2 he k2 => ?_
  rw [← e1]
  exact sp_X11_lever (by omega) e2 (lever_in w.v.1) (k2 _ _ _ (WW.fin e2 hC (w.v.lever s n q) (w.t.sa hS rfl rfl) (w.u.sa hS rfl rfl rfl)) (e3.up _))
theorem st_place {d : Nat} {l : Int32} {c : Int32} {q : Int32} {σ : XH} {S : SS} {ρ : List Nat} {K : XV → XH → Prop} (w : WW σ S ρ) (hd : 45 ≤ d) (h : ∀ x g, Same σ g → (∀ e (K2 : XV → XH → Prop), 45 ≤ e → (∀ g' S' ρ', WW g' S' ρ' → Same σ g' → K2 (vI x) g') → Ec e 0 0 m_X11_place [vR (some (12, 0)), vI l, vI c, vI q] g K2) → K (vI x) g) : Ec d 2 202 m_X10_place [vR (some (11, 0)), vI l, vI c, vI q] σ K := by
  refine sp_X10_place (by omega) w.c.x w.c.ll w.v.1 w.c.pl fun g hF0 hll hpl => ?_
  have hF := hF0
  have hS := sa_place S l c q
  obtain ⟨e1, e2, e3⟩ := w.mid hF (rsb_tl (by decide)) rfl
  have hC : CA g (placeF S l c q).2 ρ := ⟨w.c.x.fr hF (by decide), hll, w.c.st.tr hF hS (by decide) (by decide) (by decide), w.c.cl.tr hF hS (by decide) (by decide) (by decide), w.c.rd.tr hF hS (by decide) (by decide) (by decide), w.c.sc.tr hF hS (by decide) (by decide) (by decide), w.c.tp.tr hF hS (by decide) (by decide) (by decide), w.c.tb.tr hF hS (by decide) (by decide) (by decide), w.c.le.tr hF hS (by decide) (by decide) (by decide), hpl, w.c.tx.tr hF hS (by decide) (by decide) (by decide), w.c.ar.tr hF hS (by decide) (by decide) (by decide), w.c.ru.tr w.v.1.l25 hF hS (by decide) (by decide) rfl⟩
  refine h _ _ e3 fun e K2 he k2 => ?_
  rw [← e1]
  exact sp_X11_place (by omega) e2 (slot_in w.v.1.n59 w.v.1.l59 (by decide) (by decide)) (k2 _ _ _ (WW.fin e2 hC (w.v.place l c q) (w.t.sa hS rfl rfl) (w.u.sa hS rfl rfl rfl)) (e3.up _))
theorem st_item {d : Nat} {t : Int32} {i : Int32} {q : Int32} {σ : XH} {S : SS} {ρ : List Nat} {K : XV → XH → Prop} (w : WW σ S ρ) (hd : 45 ≤ d) (h : ∀ x g, Same σ g → (∀ e (K2 : XV → XH → Prop), 45 ≤ e → (∀ g' S' ρ', WW g' S' ρ' → Same σ g' → K2 (vI x) g') → Ec e 0 0 m_X11_item [vR (some (12, 0)), vI t, vI i, vI q] g K2) → K (vI x) g) : Ec d 0 0 m_X10_item [vR (some (11, 0)), vI t, vI i, vI q] σ K := by
  refine sp_X10_item (by omega) w.c.x w.v.2.1 w.c.tp fun g hF0 htp => ?_
  have hF := hF0.fr
  have hS := sa_item S t i q
  obtain ⟨e1, e2, e3⟩ := w.mid hF (rsb_tl (by decide)) rfl
  have hC : CA g (itemF S t i q).2 ρ := ⟨w.c.x.fi hF0 rfl rfl rfl, w.c.ll.trs hF hS (by decide) (by decide), w.c.st.tr hF hS (by decide) (by decide) (by decide), w.c.cl.tr hF hS (by decide) (by decide) (by decide), w.c.rd.tr hF hS (by decide) (by decide) (by decide), w.c.sc.tr hF hS (by decide) (by decide) (by decide), htp, w.c.tb.tr hF hS (by decide) (by decide) (by decide), w.c.le.tr hF hS (by decide) (by decide) (by decide), w.c.pl.tr hF hS (by decide) (by decide) (by decide), w.c.tx.tr hF hS (by decide) (by decide) (by decide), w.c.ar.tr hF hS (by decide) (by decide) (by decide), w.c.ru.tr w.v.1.l25 hF hS (by decide) (by decide) rfl⟩
  refine h _ _ e3 fun e K2 he k2 => ?_
  rw [← e1]
  exact sp_X11_item (by omega) e2 (fun z => inP_c z (by decide) (by decide)) (tape_in w.v.2.1) (k2 _ _ _ (WW.fin e2 hC (w.v.item t i q) (w.t.sa hS rfl rfl) (w.u.sa hS rfl rfl rfl)) (e3.up _))
theorem st_blank {d : Nat} {t : Int32} {i : Int32} {σ : XH} {S : SS} {ρ : List Nat} {K : XV → XH → Prop} (w : WW σ S ρ) (hd : 45 ≤ d) (h : ∀ x g, Same σ g → (∀ e (K2 : XV → XH → Prop), 45 ≤ e → (∀ g' S' ρ', WW g' S' ρ' → Same σ g' → K2 (vI x) g') → Ec e 0 0 m_X11_blank [vR (some (12, 0)), vI t, vI i] g K2) → K (vI x) g) : Ec d 0 0 m_X10_blank [vR (some (11, 0)), vI t, vI i] σ K := by
  refine sp_X10_blank (by omega) w.c.x w.v.2.1 w.c.tp fun g hF0 htp => ?_
  have hF := hF0.fr
  have hS := sa_blank S t i
  obtain ⟨e1, e2, e3⟩ := w.mid hF (rsb_tl (by decide)) rfl
  have hC : CA g (blankF S t i).2 ρ := ⟨w.c.x.fi hF0 rfl rfl rfl, w.c.ll.trs hF hS (by decide) (by decide), w.c.st.tr hF hS (by decide) (by decide) (by decide), w.c.cl.tr hF hS (by decide) (by decide) (by decide), w.c.rd.tr hF hS (by decide) (by decide) (by decide), w.c.sc.tr hF hS (by decide) (by decide) (by decide), htp, w.c.tb.tr hF hS (by decide) (by decide) (by decide), w.c.le.tr hF hS (by decide) (by decide) (by decide), w.c.pl.tr hF hS (by decide) (by decide) (by decide), w.c.tx.tr hF hS (by decide) (by decide) (by decide), w.c.ar.tr hF hS (by decide) (by decide) (by decide), w.c.ru.tr w.v.1.l25 hF hS (by decide) (by decide) rfl⟩
  refine h _ _ e3 fun e K2 he k2 => ?_
  rw [← e1]
  exact sp_X11_blank (by omega) e2 (fun z => inP_c z (by decide) (by decide)) (tape_in w.v.2.1) (k2 _ _ _ (WW.fin e2 hC (w.v.blank t i) (w.t.sa hS rfl rfl) (w.u.sa hS rfl rfl rfl)) (e3.up _))
theorem st_tape {d : Nat} {t : Int32} {of_ : Int32} {n : Int32} {σ : XH} {S : SS} {ρ : List Nat} {K : XV → XH → Prop} (w : WW σ S ρ) (hd : 45 ≤ d) (h : ∀ x g, Same σ g → (∀ e (K2 : XV → XH → Prop), 45 ≤ e → (∀ g' S' ρ', WW g' S' ρ' → Same σ g' → K2 (vI x) g') → Ec e 0 0 m_X11_tape [vR (some (12, 0)), vI t, vI of_, vI n] g K2) → K (vI x) g) : Ec d 0 0 m_X10_tape [vR (some (11, 0)), vI t, vI of_, vI n] σ K := by
  refine sp_X10_tape (by omega) w.c.x w.c.tp fun g hF0 htp => ?_
  have hF := hF0.fr
  have hS := sa_tape S t of_ n
  obtain ⟨e1, e2, e3⟩ := w.mid hF (rsb_tl (by decide)) rfl
  have hC : CA g (tapeF S t of_ n).2 ρ := ⟨w.c.x.fi hF0 rfl rfl rfl, w.c.ll.trs hF hS (by decide) (by decide), w.c.st.tr hF hS (by decide) (by decide) (by decide), w.c.cl.tr hF hS (by decide) (by decide) (by decide), w.c.rd.tr hF hS (by decide) (by decide) (by decide), w.c.sc.tr hF hS (by decide) (by decide) (by decide), htp, w.c.tb.tr hF hS (by decide) (by decide) (by decide), w.c.le.tr hF hS (by decide) (by decide) (by decide), w.c.pl.tr hF hS (by decide) (by decide) (by decide), w.c.tx.tr hF hS (by decide) (by decide) (by decide), w.c.ar.tr hF hS (by decide) (by decide) (by decide), w.c.ru.tr w.v.1.l25 hF hS (by decide) (by decide) rfl⟩
  refine h _ _ e3 fun e K2 he k2 => ?_
  rw [← e1]
  exact sp_X11_tape (by omega) e2 (k2 _ _ _ (WW.fin e2 hC (w.v.tape t of_ n) (w.t.sa hS rfl rfl) (w.u.sa hS rfl rfl rfl)) (e3.up _))
theorem st_shift {d : Nat} {t : Int32} {i : Int32} {q : Int32} {j : Int32} {n : Int32} {σ : XH} {S : SS} {ρ : List Nat} {K : XV → XH → Prop} (w : WW σ S ρ) (hd : 45 ≤ d) (h : ∀ x g, Same σ g → (∀ e (K2 : XV → XH → Prop), 45 ≤ e → (∀ g' S' ρ', WW g' S' ρ' → Same σ g' → K2 (vI x) g') → Ec e 0 0 m_X11_shift [vR (some (12, 0)), vI t, vI i, vI q, vI j, vI n] g K2) → K (vI x) g) : Ec d 0 0 m_X10_shift [vR (some (11, 0)), vI t, vI i, vI q, vI j, vI n] σ K := by
  refine sp_X10_shift (by omega) w.c.x w.v.2.1 w.c.tp fun g hF0 htp => ?_
  have hF := hF0.fr
  have hS := sa_shift S t i q j n
  obtain ⟨e1, e2, e3⟩ := w.mid hF (rsb_tl (by decide)) rfl
  have hC : CA g (shiftF S t i q j n).2 ρ := ⟨w.c.x.fi hF0 rfl rfl rfl, w.c.ll.trs hF hS (by decide) (by decide), w.c.st.tr hF hS (by decide) (by decide) (by decide), w.c.cl.tr hF hS (by decide) (by decide) (by decide), w.c.rd.tr hF hS (by decide) (by decide) (by decide), w.c.sc.tr hF hS (by decide) (by decide) (by decide), htp, w.c.tb.tr hF hS (by decide) (by decide) (by decide), w.c.le.tr hF hS (by decide) (by decide) (by decide), w.c.pl.tr hF hS (by decide) (by decide) (by decide), w.c.tx.tr hF hS (by decide) (by decide) (by decide), w.c.ar.tr hF hS (by decide) (by decide) (by decide), w.c.ru.tr w.v.1.l25 hF hS (by decide) (by decide) rfl⟩
  refine h _ _ e3 fun e K2 he k2 => ?_
  rw [← e1]
  exact sp_X11_shift (by omega) e2 w.v.2.1 (k2 _ _ _ (WW.fin e2 hC (w.v.shift t i q j n) (w.t.sa hS rfl rfl) (w.u.sa hS rfl rfl rfl)) (e3.up _))
theorem st_act {d : Nat} {r : Int32} {a : Int32} {y : Int32} {σ : XH} {S : SS} {ρ : List Nat} {K : XV → XH → Prop} (w : WW σ S ρ) (hd : 45 ≤ d) (h : ∀ x g, Same σ g → (∀ e (K2 : XV → XH → Prop), 45 ≤ e → (∀ g' S' ρ', WW g' S' ρ' → Same σ g' → K2 (vI x) g') → Ec e 0 0 m_X11_act [vR (some (12, 0)), vI r, vI a, vI y] g K2) → K (vI x) g) : Ec d 0 0 m_X10_act [vR (some (11, 0)), vI r, vI a, vI y] σ K := by
  refine sp_X10_act (by omega) w.c.base w.v.1 fun g hF0 har => ?_
  have hF := hF0.fr
  have hS := sa_act S r a y
  obtain ⟨e1, e2, e3⟩ := w.mid hF (rsb_tl (by decide)) rfl
  have hC : CA g (actF S r a y).2 ρ := ⟨w.c.x.fi hF0 rfl rfl rfl, w.c.ll.trs hF hS (by decide) (by decide), w.c.st.tr hF hS (by decide) (by decide) (by decide), w.c.cl.tr hF hS (by decide) (by decide) (by decide), w.c.rd.tr hF hS (by decide) (by decide) (by decide), w.c.sc.tr hF hS (by decide) (by decide) (by decide), w.c.tp.tr hF hS (by decide) (by decide) (by decide), w.c.tb.tr hF hS (by decide) (by decide) (by decide), w.c.le.tr hF hS (by decide) (by decide) (by decide), w.c.pl.tr hF hS (by decide) (by decide) (by decide), w.c.tx.tr hF hS (by decide) (by decide) (by decide), har, w.c.ru.tr w.v.1.l25 hF hS (by decide) (by decide) rfl⟩
  refine h _ _ e3 fun e K2 he k2 => ?_
  rw [← e1]
  exact sp_X11_act (by omega) e2 w.v.1 (k2 _ _ _ (WW.fin e2 hC (w.v.act r a y) (w.t.sa hS rfl rfl) (w.u.sa hS rfl rfl rfl)) (e3.up _))
theorem st_book {d : Nat} {c : Int32} {hh : Int32} {f : Int32} {t : Int32} {i : Int32} {n : Int32} {σ : XH} {S : SS} {ρ : List Nat} {K : XV → XH → Prop} (w : WW σ S ρ) (hd : 45 ≤ d) (h : ∀ x g, Same σ g → (∀ e (K2 : XV → XH → Prop), 45 ≤ e → (∀ g' S' ρ', WW g' S' ρ' → Same σ g' → K2 (vI x) g') → Ec e 0 0 m_X11_book [vR (some (12, 0)), vI c, vI hh, vI f, vI t, vI i, vI n] g K2) → K (vI x) g) : Ec d 80 8440 m_X10_book [vR (some (11, 0)), vI c, vI hh, vI f, vI t, vI i, vI n] σ K := by
  refine sp_X10_book (by omega) w.c.bk w.v.1 w.v.2.1 fun g hF0 hB => ?_
  have hF := hF0
  have hS := sa_book w.v c hh f t i n
  obtain ⟨e1, e2, e3⟩ := w.mid hF (rsb_tl (by decide)) rfl
  have hC : CA g (bookF S c hh f t i n).2 ρ := ⟨hB.1.1, hB.1.2.1, hB.1.2.2.1, hB.1.2.2.2.1, hB.1.2.2.2.2, hB.2.1, hB.2.2, w.c.tb.tr hF hS (by decide) (by decide) (by decide), w.c.le.tr hF hS (by decide) (by decide) (by decide), w.c.pl.tr hF hS (by decide) (by decide) (by decide), w.c.tx.tr hF hS (by decide) (by decide) (by decide), w.c.ar.tr hF hS (by decide) (by decide) (by decide), w.c.ru.tr w.v.1.l25 hF hS (by decide) (by decide) rfl⟩
  refine h _ _ e3 fun e K2 he k2 => ?_
  rw [← e1]
  exact sp_X11_book (by omega) e2 w.v.1 w.v.2.1 (k2 _ _ _ (WW.fin e2 hC (w.v.book c hh f t i n) (w.t.sa hS rfl rfl) (w.u.sa hS rfl rfl rfl)) (e3.up _))
theorem st_feed {d : Nat} {b : Int32} {n : Int32} {σ : XH} {S : SS} {ρ : List Nat} {K : XV → XH → Prop} (w : WW σ S ρ) (hd : 45 ≤ d) (h : ∀ x g, Same σ g → (∀ e (K2 : XV → XH → Prop), 45 ≤ e → (∀ g' S' ρ', WW g' S' ρ' → Same σ g' → K2 (vI x) g') → Ec e 0 0 m_X11_feed [vR (some (12, 0)), vI b, vI n] g K2) → K (vI x) g) : Ec d 0 0 m_X10_feed [vR (some (11, 0)), vI b, vI n] σ K := by
  refine sp_X10_feed (by omega) w.c.x w.v.1 w.c.tx fun g hF0 htx => ?_
  have hF := hF0.fr
  have hS := sa_feed S b n
  obtain ⟨e1, e2, e3⟩ := w.mid hF (rsb_tl (by decide)) rfl
  have hC : CA g (feedF S b n).2 ρ := ⟨w.c.x.fi hF0 rfl rfl rfl, w.c.ll.trs hF hS (by decide) (by decide), w.c.st.tr hF hS (by decide) (by decide) (by decide), w.c.cl.tr hF hS (by decide) (by decide) (by decide), w.c.rd.tr hF hS (by decide) (by decide) (by decide), w.c.sc.tr hF hS (by decide) (by decide) (by decide), w.c.tp.tr hF hS (by decide) (by decide) (by decide), w.c.tb.tr hF hS (by decide) (by decide) (by decide), w.c.le.tr hF hS (by decide) (by decide) (by decide), w.c.pl.tr hF hS (by decide) (by decide) (by decide), htx, w.c.ar.tr hF hS (by decide) (by decide) (by decide), w.c.ru.feed w.u w.v.1.l25 hF (by decide) (hS.k rfl) (hS.a (by decide) rfl) (hS.a (by decide) rfl) (fun j _ => by rw [hS.a (s := 137) (by decide) rfl]) (w.t.feed w.v.1 b n).2⟩
  refine h _ _ e3 fun e K2 he k2 => ?_
  rw [← e1]
  exact sp_X11_feed (by omega) e2 w.v.1 (k2 _ _ _ (WW.fin e2 hC (w.v.feed b n) (w.t.feed w.v.1 b n).1 (w.u.txs w.v.1.l25 (hS.k rfl) (fun j _ => by rw [hS.a (s := 137) (by decide) rfl]) (w.t.feed w.v.1 b n).2).1) (e3.up _))
