/-! ===== one call on either side: the calls that ask, and the rule ===== -/
theorem WW.here {σ : XH} {S : SS} {ρ : List Nat} (w : WW σ S ρ) : WW (up σ S) S ρ := by
  rw [w.e]
  exact w
theorem Same.rf (σ : XH) : Same σ σ := ⟨rfl, rfl⟩
theorem Same.fi {T : Nat → Bool} {a b c : XH} (h : Same a b) (hF : Fi T b c) (t : T 503 = false) : Same a c := ⟨(congrFun hF.n 503).trans h.1, (hF.i t).trans h.2⟩
theorem CAr.nn {σ : XH} {S : SS} (h : CAr σ S) : ¬ S 12 63 < 0 := by
  obtain ⟨_, t, h2, h3, _⟩ := h
  rw [h2]
  exact neg_nn (by omega)
theorem st_beside {d : Nat} {c : Int32} {σ : XH} {S : SS} {ρ : List Nat} {K : XV → XH → Prop} (w : WW σ S ρ) (hd : 45 ≤ d) (h : ∀ x g, Same σ g → (∀ e (K2 : XV → XH → Prop), 45 ≤ e → (∀ g' S' ρ', WW g' S' ρ' → Same σ g' → K2 (vI x) g') → Ec e 0 0 m_X11_beside [vR (some (12, 0)), vI c] g K2) → K (vI x) g) : Ec d 0 0 m_X10_beside [vR (some (11, 0)), vI c] σ K := by
  refine sp_X10_beside (by omega) w.c.base w.v.1 (h _ _ (Same.rf _) fun e K2 he k2 => ?_)
  rw [← w.e]
  exact sp_X11_beside (by omega) w.m w.v.1 (k2 _ _ _ w.here ((Same.rf _).up _))
theorem st_count {d : Nat} {k : Int32} {σ : XH} {S : SS} {ρ : List Nat} {K : XV → XH → Prop} (w : WW σ S ρ) (hd : 45 ≤ d) (h : ∀ x g, Same σ g → (∀ e (K2 : XV → XH → Prop), 45 ≤ e → (∀ g' S' ρ', WW g' S' ρ' → Same σ g' → K2 (vI x) g') → Ec e 0 0 m_X11_count [vR (some (12, 0)), vI k] g K2) → K (vI x) g) : Ec d 0 0 m_X10_count [vR (some (11, 0)), vI k] σ K := by
  refine sp_X10_count (by omega) w.c.base w.v.1 w.c.ru.2.1 w.c.sc w.c.tx w.c.ar.ac (h _ _ (Same.rf _) fun e K2 he k2 => ?_)
  rw [← w.e]
  exact sp_X11_count (by omega) w.m (k2 _ _ _ w.here ((Same.rf _).up _))
theorem st_difference {d : Nat} {a : Int32} {b : Int32} {σ : XH} {S : SS} {ρ : List Nat} {K : XV → XH → Prop} (w : WW σ S ρ) (hd : 45 ≤ d) (h : ∀ x g, Same σ g → (∀ e (K2 : XV → XH → Prop), 45 ≤ e → (∀ g' S' ρ', WW g' S' ρ' → Same σ g' → K2 (vL x) g') → Ec e 0 0 m_X11_difference [vR (some (12, 0)), vI a, vI b] g K2) → K (vL x) g) : Ec d 0 0 m_X10_difference [vR (some (11, 0)), vI a, vI b] σ K := by
  refine sp_X10_difference (by omega) w.c.base w.v.1 (h _ _ (Same.rf _) fun e K2 he k2 => ?_)
  rw [← w.e]
  exact sp_X11_difference (by omega) w.m w.v.1 (seO_sub w.v.1 w.v.2.2.2.1) (k2 _ _ _ w.here ((Same.rf _).up _))
theorem st_ended {d : Nat}  {σ : XH} {S : SS} {ρ : List Nat} {K : XV → XH → Prop} (w : WW σ S ρ) (hd : 45 ≤ d) (h : ∀ x g, Same σ g → (∀ e (K2 : XV → XH → Prop), 45 ≤ e → (∀ g' S' ρ', WW g' S' ρ' → Same σ g' → K2 (vI x) g') → Ec e 0 0 m_X11_ended [vR (some (12, 0))] g K2) → K (vI x) g) : Ec d 0 0 m_X10_ended [vR (some (11, 0))] σ K := by
  refine sp_X10_ended w.c.sc (h _ _ (Same.rf _) fun e K2 he k2 => ?_)
  rw [← w.e]
  exact sp_X11_ended (by omega) w.m (k2 _ _ _ w.here ((Same.rf _).up _))
theorem st_go {d : Nat} {a : Int32} {b : Int32} {c : Int32} {σ : XH} {S : SS} {ρ : List Nat} {K : XV → XH → Prop} (w : WW σ S ρ) (hd : 45 ≤ d) (h : ∀ x g, Same σ g → (∀ e (K2 : XV → XH → Prop), 45 ≤ e → (∀ g' S' ρ', WW g' S' ρ' → Same σ g' → K2 (vI x) g') → Ec e 0 0 m_X11_go [vR (some (12, 0)), vI a, vI b, vI c] g K2) → K (vI x) g) : Ec d 0 0 m_X10_go [vR (some (11, 0)), vI a, vI b, vI c] σ K := by
  refine sp_X10_go (by omega) w.c.x w.c.ll w.v.1 w.v.2.2.2.2.2.1 w.c.pl (h _ _ (Same.rf _) fun e K2 he k2 => ?_)
  rw [← w.e]
  exact sp_X11_go (by omega) w.m w.v.1 (k2 _ _ _ w.here ((Same.rf _).up _))
theorem st_lost {d : Nat} {a : Int32} {b : Int32} {c : Int32} {σ : XH} {S : SS} {ρ : List Nat} {K : XV → XH → Prop} (w : WW σ S ρ) (hd : 45 ≤ d) (h : ∀ x g, Same σ g → (∀ e (K2 : XV → XH → Prop), 45 ≤ e → (∀ g' S' ρ', WW g' S' ρ' → Same σ g' → K2 (vI x) g') → Ec e 0 0 m_X11_lost [vR (some (12, 0)), vI a, vI b, vI c] g K2) → K (vI x) g) : Ec d 0 0 m_X10_lost [vR (some (11, 0)), vI a, vI b, vI c] σ K := by
  refine sp_X10_lost (by omega) w.c.x w.c.ll w.v.1 w.v.2.2.2.2.2.1 w.c.pl (h _ _ (Same.rf _) fun e K2 he k2 => ?_)
  rw [← w.e]
  exact sp_X11_lost (by omega) w.m w.v.1 (k2 _ _ _ w.here ((Same.rf _).up _))
theorem st_like {d : Nat} {r : Int32} {σ : XH} {S : SS} {ρ : List Nat} {K : XV → XH → Prop} (w : WW σ S ρ) (hd : 45 ≤ d) (h : ∀ x g, Same σ g → (∀ e (K2 : XV → XH → Prop), 45 ≤ e → (∀ g' S' ρ', WW g' S' ρ' → Same σ g' → K2 (vI x) g') → Ec e 0 0 m_X11_like [vR (some (12, 0)), vI r] g K2) → K (vI x) g) : Ec d 0 0 m_X10_like [vR (some (11, 0)), vI r] σ K := by
  refine sp_X10_like (by omega) w.c.base w.v.1 (h _ _ (Same.rf _) fun e K2 he k2 => ?_)
  rw [← w.e]
  exact sp_X11_like (by omega) w.m (rd_in w.v.1) (like_in w.v.1) (k2 _ _ _ w.here ((Same.rf _).up _))
theorem st_of {d : Nat} {r : Int32} {k : Int32} {σ : XH} {S : SS} {ρ : List Nat} {K : XV → XH → Prop} (w : WW σ S ρ) (hd : 45 ≤ d) (h : ∀ x g, Same σ g → (∀ e (K2 : XV → XH → Prop), 45 ≤ e → (∀ g' S' ρ', WW g' S' ρ' → Same σ g' → K2 (vI x) g') → Ec e 0 0 m_X11_of [vR (some (12, 0)), vI r, vI k] g K2) → K (vI x) g) : Ec d 0 0 m_X10_of [vR (some (11, 0)), vI r, vI k] σ K := by
  refine sp_X10_of (by omega) w.c.base w.v.1 (h _ _ (Same.rf _) fun e K2 he k2 => ?_)
  rw [← w.e]
  exact sp_X11_of (by omega) w.m (rd_in w.v.1) (like_in w.v.1) (k2 _ _ _ w.here ((Same.rf _).up _))
theorem st_longitude {d : Nat} {s : Int32} {σ : XH} {S : SS} {ρ : List Nat} {K : XV → XH → Prop} (w : WW σ S ρ) (hd : 45 ≤ d) (h : ∀ x g, Same σ g → (∀ e (K2 : XV → XH → Prop), 45 ≤ e → (∀ g' S' ρ', WW g' S' ρ' → Same σ g' → K2 (vI x) g') → Ec e 0 0 m_X11_longitude [vR (some (12, 0)), vI s] g K2) → K (vI x) g) : Ec d 0 0 m_X10_longitude [vR (some (11, 0)), vI s] σ K := by
  refine sp_X10_longitude (by omega) w.c.base w.v.1 (h _ _ (Same.rf _) fun e K2 he k2 => ?_)
  rw [← w.e]
  exact sp_X11_longitude (by omega) w.m w.v.1 (k2 _ _ _ w.here ((Same.rf _).up _))
theorem st_seen {d : Nat} {r : Int32} {b : Int32} {σ : XH} {S : SS} {ρ : List Nat} {K : XV → XH → Prop} (w : WW σ S ρ) (hd : 45 ≤ d) (h : ∀ x g, Same σ g → (∀ e (K2 : XV → XH → Prop), 45 ≤ e → (∀ g' S' ρ', WW g' S' ρ' → Same σ g' → K2 (vI x) g') → Ec e 0 0 m_X11_seen [vR (some (12, 0)), vI r, vI b] g K2) → K (vI x) g) : Ec d 0 0 m_X10_seen [vR (some (11, 0)), vI r, vI b] σ K := by
  refine sp_X10_seen (by omega) w.c.base w.v.1 (h _ _ (Same.rf _) fun e K2 he k2 => ?_)
  rw [← w.e]
  exact sp_X11_seen (by omega) w.m w.v.1 (k2 _ _ _ w.here ((Same.rf _).up _))
theorem st_time {d : Nat} {c : Int32} {t : Int32} {σ : XH} {S : SS} {ρ : List Nat} {K : XV → XH → Prop} (w : WW σ S ρ) (hd : 45 ≤ d) (h : ∀ x g, Same σ g → (∀ e (K2 : XV → XH → Prop), 45 ≤ e → (∀ g' S' ρ', WW g' S' ρ' → Same σ g' → K2 (vI x) g') → Ec e 0 0 m_X11_time [vR (some (12, 0)), vI c, vI t] g K2) → K (vI x) g) : Ec d 0 0 m_X10_time [vR (some (11, 0)), vI c, vI t] σ K := by
  refine sp_X10_time (by omega) w.c.base w.v.1 (h _ _ (Same.rf _) fun e K2 he k2 => ?_)
  rw [← w.e]
  exact sp_X11_time (by omega) w.m w.v.1 (k2 _ _ _ w.here ((Same.rf _).up _))
theorem st_read {d : Nat} {t : Int32} {i : Int32} {σ : XH} {S : SS} {ρ : List Nat} {K : XV → XH → Prop} (w : WW σ S ρ) (hd : 45 ≤ d) (h : ∀ x g, Same σ g → (∀ e (K2 : XV → XH → Prop), 45 ≤ e → (∀ g' S' ρ', WW g' S' ρ' → Same σ g' → K2 (vI x) g') → Ec e 0 0 m_X11_read [vR (some (12, 0)), vI t, vI i] g K2) → K (vI x) g) : Ec d 0 0 m_X10_read [vR (some (11, 0)), vI t, vI i] σ K := by
  refine sp_X10_read (by omega) w.c.x w.v.2.1 w.c.tp (h _ _ (Same.rf _) fun e K2 he k2 => ?_)
  rw [← w.e]
  exact sp_X11_read (by omega) w.m (fun z => inP_c z (by decide) (by decide)) (tape_in w.v.2.1) (k2 _ _ _ w.here ((Same.rf _).up _))
theorem st_ruled {d : Nat} {a : Int32} {b : Int32} {c : Int32} {σ : XH} {S : SS} {ρ : List Nat} {K : XV → XH → Prop} (w : WW σ S ρ) (hd : 45 ≤ d) (h : ∀ x g, Same σ g → (∀ e (K2 : XV → XH → Prop), 45 ≤ e → (∀ g' S' ρ', WW g' S' ρ' → Same σ g' → K2 (vI x) g') → Ec e 0 0 m_X11_ruled [vR (some (12, 0)), vI a, vI b, vI c] g K2) → K (vI x) g) : Ec d 0 0 m_X10_ruled [vR (some (11, 0)), vI a, vI b, vI c] σ K := by
  refine sp_X10_ruled (by omega) w.c.x w.c.ll w.v.1 w.c.ru (h _ _ (Same.rf _) fun e K2 he k2 => ?_)
  rw [← w.e]
  exact sp_X11_ruled (by omega) w.m w.v.1 w.u (fun T hS => k2 _ _ _ (WW.fs w.m w.c w.v w.t w.u (Fi.rf (tl [12]) _) (HS.js hS).fs) ((Same.rf _).up _))
theorem st_taken {d : Nat} {r : Int32} {k : Int32} {σ : XH} {S : SS} {ρ : List Nat} {K : XV → XH → Prop} (w : WW σ S ρ) (hd : 45 ≤ d) (h : ∀ x g, Same σ g → (∀ e (K2 : XV → XH → Prop), 45 ≤ e → (∀ g' S' ρ', WW g' S' ρ' → Same σ g' → K2 (vI x) g') → Ec e 0 0 m_X11_taken [vR (some (12, 0)), vI r, vI k] g K2) → K (vI x) g) : Ec d 0 0 m_X10_taken [vR (some (11, 0)), vI r, vI k] σ K := by
  refine sp_X10_taken (by omega) w.c.base w.v.1 (h _ _ (Same.rf _) fun e K2 he k2 => ?_)
  rw [← w.e]
  exact sp_X11_taken (by omega) w.m (rd_in w.v.1) (k2 _ _ _ w.here ((Same.rf _).up _))
theorem st_trace {d : Nat} {i : Int32} {σ : XH} {S : SS} {ρ : List Nat} {K : XV → XH → Prop} (w : WW σ S ρ) (hd : 45 ≤ d) (h : ∀ x g, Same σ g → (∀ e (K2 : XV → XH → Prop), 45 ≤ e → (∀ g' S' ρ', WW g' S' ρ' → Same σ g' → K2 (vI x) g') → Ec e 0 0 m_X11_trace [vR (some (12, 0)), vI i] g K2) → K (vI x) g) : Ec d 0 0 m_X10_trace [vR (some (11, 0)), vI i] σ K := by
  refine sp_X10_trace (by omega) w.c.x w.c.ar.ac w.c.ar.nn (h _ _ (Same.rf _) fun e K2 he k2 => ?_)
  rw [← w.e]
  exact sp_X11_trace (by omega) w.m (fun z => inP_c z (by decide) (by decide)) (k2 _ _ _ w.here ((Same.rf _).up _))
theorem st_has {d : Nat} {a : Int32} {r : Int32} {b : Int32} {σ : XH} {S : SS} {ρ : List Nat} {K : XV → XH → Prop} (w : WW σ S ρ) (hd : 45 ≤ d) (h : ∀ x g, Same σ g → (∀ e (K2 : XV → XH → Prop), 45 ≤ e → (∀ g' S' ρ', WW g' S' ρ' → Same σ g' → K2 (vI x) g') → Ec e 0 0 m_X11_has [vR (some (12, 0)), vI a, vI r, vI b] g K2) → K (vI x) g) : Ec d 0 0 m_X10_has [vR (some (11, 0)), vI a, vI r, vI b] σ K := by
  refine sp_X10_has (by omega) w.c.base w.c.le w.v.1 w.v.2.2.1 fun g hF0 => ?_
  have hC : CA g S ρ := w.c.tr w.v.1 (w.c.x.fi hF0 rfl rfl rfl) hF0.fr (SA.rf (tl []) (tl []) S) (by decide) (by decide) (by decide)
  obtain ⟨e1, e2, e3⟩ := w.mid hF0.fr (rsb_tl (by decide)) rfl
  refine h _ _ e3 fun e K2 he k2 => ?_
  rw [← e1]
  exact sp_X11_has (by omega) e2 w.v.1 (k2 _ _ _ (WW.fin e2 hC w.v w.t w.u) (e3.up _))
theorem st_counted {d : Nat} {a : Int32} {b : Int32} {c : Int32} {σ : XH} {S : SS} {ρ : List Nat} {K : XV → XH → Prop} (w : WW σ S ρ) (hd : 45 ≤ d) (h : ∀ x g, Same σ g → (∀ e (K2 : XV → XH → Prop), 45 ≤ e → (∀ g' S' ρ', WW g' S' ρ' → Same σ g' → K2 (vI x) g') → Ec e 0 0 m_X11_counted [vR (some (12, 0)), vI a, vI b, vI c] g K2) → K (vI x) g) : Ec d 0 0 m_X10_counted [vR (some (11, 0)), vI a, vI b, vI c] σ K := by
  refine sp_X10_counted (by omega) w.v.1 w.v.2.2.1 w.v.2.2.2.1 w.u w.c.ct fun g hF0 => ?_
  have hC : CA g S ρ := w.c.tr w.v.1 (w.c.x.fi hF0 rfl rfl rfl) hF0.fr (SA.rf (tl []) (tl []) S) (by decide) (by decide) (by decide)
  obtain ⟨e1, e2, e3⟩ := w.mid hF0.fr (rsb_tl (by decide)) rfl
  refine h _ _ e3 fun e K2 he k2 => ?_
  rw [← e1]
  exact sp_X11_counted (by omega) e2 w.v.1 w.u (fun T hS => k2 _ _ _ (WW.fs e2 hC w.v w.t w.u (Fi.rf (tl [12]) _) hS) (e3.up _))
theorem st_counts {d : Nat} {a : Int32} {b : Int32} {c : Int32} {σ : XH} {S : SS} {ρ : List Nat} {K : XV → XH → Prop} (w : WW σ S ρ) (hd : 45 ≤ d) (h : ∀ x g, Same σ g → (∀ e (K2 : XV → XH → Prop), 45 ≤ e → (∀ g' S' ρ', WW g' S' ρ' → Same σ g' → K2 (vI x) g') → Ec e 0 0 m_X11_counts [vR (some (12, 0)), vI a, vI b, vI c] g K2) → K (vI x) g) : Ec d 0 0 m_X10_counts [vR (some (11, 0)), vI a, vI b, vI c] σ K := by
  refine sp_X10_counts (by omega) w.v.1 w.v.2.2.1 w.v.2.2.2.1 w.u w.c.ct fun g hF0 => ?_
  have hC : CA g S ρ := w.c.tr w.v.1 (w.c.x.fi hF0 rfl rfl rfl) hF0.fr (SA.rf (tl []) (tl []) S) (by decide) (by decide) (by decide)
  obtain ⟨e1, e2, e3⟩ := w.mid hF0.fr (rsb_tl (by decide)) rfl
  refine h _ _ e3 fun e K2 he k2 => ?_
  rw [← e1]
  exact sp_X11_counts (by omega) e2 w.v.1 w.u (fun T hS => k2 _ _ _ (WW.fs e2 hC w.v w.t w.u (Fi.rf (tl [12]) _) hS) (e3.up _))
theorem st_rest {d : Nat} {a : Int32} {b : Int32} {c : Int32} {p : Int32} {σ : XH} {S : SS} {ρ : List Nat} {K : XV → XH → Prop} (w : WW σ S ρ) (hd : 45 ≤ d) (h : ∀ x g, Same σ g → (∀ e (K2 : XV → XH → Prop), 45 ≤ e → (∀ g' S' ρ', WW g' S' ρ' → Same σ g' → K2 (vI x) g') → Ec e 0 0 m_X11_rest [vR (some (12, 0)), vI a, vI b, vI c, vI p] g K2) → K (vI x) g) : Ec d 0 0 m_X10_rest [vR (some (11, 0)), vI a, vI b, vI c, vI p] σ K := by
  refine sp_X10_rest (by omega) w.v.1 w.v.2.2.1 w.v.2.2.2.1 w.u w.c.ct fun g hF0 => ?_
  have hC : CA g S ρ := w.c.tr w.v.1 (w.c.x.fi hF0 rfl rfl rfl) hF0.fr (SA.rf (tl []) (tl []) S) (by decide) (by decide) (by decide)
  obtain ⟨e1, e2, e3⟩ := w.mid hF0.fr (rsb_tl (by decide)) rfl
  refine h _ _ e3 fun e K2 he k2 => ?_
  rw [← e1]
  exact sp_X11_rest (by omega) e2 w.v.1 w.u (fun T hS => k2 _ _ _ (WW.fs e2 hC w.v w.t w.u (Fi.rf (tl [12]) _) hS) (e3.up _))
theorem st_blunders {d : Nat} {a : Int32} {b : Int32} {σ : XH} {S : SS} {ρ : List Nat} {K : XV → XH → Prop} (w : WW σ S ρ) (hd : 45 ≤ d) (h : ∀ x g, Same σ g → (∀ e (K2 : XV → XH → Prop), 45 ≤ e → (∀ g' S' ρ', WW g' S' ρ' → Same σ g' → K2 (vI x) g') → Ec e 0 0 m_X11_blunders [vR (some (12, 0)), vI a, vI b] g K2) → K (vI x) g) : Ec d 0 0 m_X10_blunders [vR (some (11, 0)), vI a, vI b] σ K := by
  refine sp_X10_blunders (by omega) w.v.1 w.v.2.2.1 w.v.2.2.2.1 w.u w.c.ct fun g hF0 => ?_
  have hC : CA g S ρ := w.c.tr w.v.1 (w.c.x.fi hF0 rfl rfl rfl) hF0.fr (SA.rf (tl []) (tl []) S) (by decide) (by decide) (by decide)
  obtain ⟨e1, e2, e3⟩ := w.mid hF0.fr (rsb_tl (by decide)) rfl
  refine h _ _ e3 fun e K2 he k2 => ?_
  rw [← e1]
  exact sp_X11_blunders (by omega) e2 w.v.1 w.u (fun T g2 hS hF => k2 _ _ _ (WW.fs e2 hC w.v w.t w.u hF hS) ((e3.fi hF rfl).up _))
theorem st_distance {d : Nat} {a : Int32} {b : Int32} {c : Int32} {σ : XH} {S : SS} {ρ : List Nat} {K : XV → XH → Prop} (w : WW σ S ρ) (hd : 45 ≤ d) (h : ∀ x g, Same σ g → (∀ e (K2 : XV → XH → Prop), 45 ≤ e → (∀ g' S' ρ', WW g' S' ρ' → Same σ g' → K2 (vI x) g') → Ec e 0 0 m_X11_distance [vR (some (12, 0)), vI a, vI b, vI c] g K2) → K (vI x) g) : Ec d 0 0 m_X10_distance [vR (some (11, 0)), vI a, vI b, vI c] σ K := by
  refine sp_X10_distance (by omega) w.v.1 w.v.2.2.1 w.v.2.2.2.1 w.u w.c.ct fun g hF0 => ?_
  have hC : CA g S ρ := w.c.tr w.v.1 (w.c.x.fi hF0 rfl rfl rfl) hF0.fr (SA.rf (tl []) (tl []) S) (by decide) (by decide) (by decide)
  obtain ⟨e1, e2, e3⟩ := w.mid hF0.fr (rsb_tl (by decide)) rfl
  refine h _ _ e3 fun e K2 he k2 => ?_
  rw [← e1]
  exact sp_X11_distance (by omega) e2 w.v.1 w.u (fun T g2 hS hF => k2 _ _ _ (WW.fs e2 hC w.v w.t w.u hF hS) ((e3.fi hF rfl).up _))
theorem st_tooWell {d : Nat} {a : Int32} {b : Int32} {c : Int32} {σ : XH} {S : SS} {ρ : List Nat} {K : XV → XH → Prop} (w : WW σ S ρ) (hd : 45 ≤ d) (h : ∀ x g, Same σ g → (∀ e (K2 : XV → XH → Prop), 45 ≤ e → (∀ g' S' ρ', WW g' S' ρ' → Same σ g' → K2 (vI x) g') → Ec e 0 0 m_X11_tooWell [vR (some (12, 0)), vI a, vI b, vI c] g K2) → K (vI x) g) : Ec d 0 0 m_X10_tooWell [vR (some (11, 0)), vI a, vI b, vI c] σ K := by
  refine sp_X10_tooWell (by omega) w.v.1 w.v.2.2.1 w.v.2.2.2.1 w.u w.c.ct fun g hF0 => ?_
  have hC : CA g S ρ := w.c.tr w.v.1 (w.c.x.fi hF0 rfl rfl rfl) hF0.fr (SA.rf (tl []) (tl []) S) (by decide) (by decide) (by decide)
  obtain ⟨e1, e2, e3⟩ := w.mid hF0.fr (rsb_tl (by decide)) rfl
  refine h _ _ e3 fun e K2 he k2 => ?_
  rw [← e1]
  exact sp_X11_tooWell (by omega) e2 w.v.1 w.u (fun T g2 hS hF => k2 _ _ _ (WW.fs e2 hC w.v w.t w.u hF hS) ((e3.fi hF rfl).up _))
theorem st_sum {d : Nat} {a : Int32} {b : Int32} {c : Int32} {σ : XH} {S : SS} {ρ : List Nat} {K : XV → XH → Prop} (w : WW σ S ρ) (hd : 45 ≤ d) (h : ∀ x g, Same σ g → (∀ e (K2 : XV → XH → Prop), 45 ≤ e → (∀ g' S' ρ', WW g' S' ρ' → Same σ g' → K2 (vL x) g') → Ec e 0 0 m_X11_sum [vR (some (12, 0)), vI a, vI b, vI c] g K2) → K (vL x) g) : Ec d 0 0 m_X10_sum [vR (some (11, 0)), vI a, vI b, vI c] σ K := by
  refine sp_X10_sum (by omega) w.v.1 w.v.2.2.1 w.v.2.2.2.1 w.v.2.2.2.2.1 w.u w.c.ct fun g hF0 => ?_
  have hC : CA g S ρ := w.c.tr w.v.1 (w.c.x.fi hF0 rfl rfl rfl) hF0.fr (SA.rf (tl []) (tl []) S) (by decide) (by decide) (by decide)
  obtain ⟨e1, e2, e3⟩ := w.mid hF0.fr (rsb_tl (by decide)) rfl
  refine h _ _ e3 fun e K2 he k2 => ?_
  rw [← e1]
  exact sp_X11_sum (by omega) e2 w.v.1 w.u w.v.2.2.2.1 w.v.2.2.2.2.1 (fun T g2 hS hF => k2 _ _ _ (WW.fs e2 hC w.v w.t w.u hF hS) ((e3.fi hF rfl).up _))
theorem Inv.rul {S S' : SS} (h : Inv S) (sa : SA rA rK S S') (h25 : S' 12 25 = nI (nRu S') ∧ nRu S' ≤ 12) (h26 : S' 12 26 = 0) : Inv S' := by
  obtain ⟨v1, v2, v3, v4, v5, v6, v7⟩ := h
  have a : ∀ s, s ∈ [118, 119, 120, 121, 122, 123, 124, 125, 127, 129] → S' s = S s := fun s hs => sa.a (fun y => by subst y; revert hs; decide) (by revert s; decide)
  have z26 : nFd S' = 0 := by unfold nFd; rw [h26]; rfl
  have i1 : SInv (up2 S 12 26 0) := v1.wr (j0 := 26) (fun s hs => up2_s _ _ _ (fun y => by subst y; revert hs; decide)) (by decide) (fun j _ hj => up2_k _ _ _ hj _) (fun y => by cases y) (fun y => by cases y) (fun y => by cases y) (fun _ => by
    have e : (up2 S 12 26 0) 12 26 = 0 := up2_eq _ _ _ _
    have e2 : nFd (up2 S 12 26 0) = 0 := by unfold nFd; rw [e]; rfl
    rw [e2]
    exact ⟨e, by omega⟩) (fun y => by cases y) (fun y => by cases y)
  refine ⟨i1.wr (j0 := 25) (fun s hs => (a s hs).trans (up2_s S 26 0 (fun y => by subst y; revert hs; decide)).symm) (by decide) (fun j hj h0 => ?_) (fun y => by cases y) (fun y => by cases y) (fun _ => h25) (fun y => by cases y) (fun y => by cases y) (fun y => by cases y), v2.sa sa rfl rfl, v3.sa sa (by decide) (by decide), v4.sa sa (by decide) rfl, v5.sa sa rfl, v6.sa sa (by decide) rfl, v7.sa sa rfl⟩
  by_cases y : j = 26
  · rw [y, h26, up2_eq]
  · rw [up2_k _ _ _ y]
    exact sa.k (by revert j; decide)
theorem tx0 {S' : SS} (h26 : S' 12 26 = 0) : TxI S' := fun k hk => by
  have : nFd S' = 0 := by unfold nFd; rw [h26]; rfl
  omega
theorem ctx0 {g : XH} {S' : SS} (h7 : hi g 7 0 1 = 0) (h26 : S' 12 26 = 0) : CTx g S' := ⟨by rw [h7, h26], fun k hk => by
  have : nFd S' = 0 := by unfold nFd; rw [h26]; rfl
  omega⟩
theorem RuI.add {S S' : SS} {hh dd : Int32} (hI : SInv S) (hu : RuI S) (ht : TxI S) (hs : ruS S S' hh dd) (hlt : nRu S < 12) (hg : (gA (tx S 12) (nFd S)).1 = true) (en : nRu S' = nRu S + 1) : RuI S' := fun k hk => by
  rw [en] at hk
  by_cases y : k = nRu S
  · subst y
    obtain ⟨n1, n2, n3, n4⟩ := ruS.new hI hs hlt
    have l26 := hI.l26
    refine ⟨by rw [n1]; exact n2, by omega, fun j hj => ?_, by rw [n3]; exact hg⟩
    rw [n1] at hj
    rw [n4 j hj]
    exact ht j hj
  · obtain ⟨o1, o2, o3, _, _, o6⟩ := ruS.old hI hs (fun k hk => (hu k hk).2.1) hlt (show k < nRu S by omega)
    obtain ⟨u1, u2, u3, u4⟩ := hu k (by omega)
    refine ⟨by rw [o3, o1]; exact u1, by rw [o1]; exact u2, fun j hj => ?_, by rw [o2]; exact u4⟩
    rw [o1] at hj
    rw [o6 j hj]
    exact u3 j hj
theorem st_rule {d : Nat} {hh : Int32} {dd : Int32} {σ : XH} {S : SS} {ρ : List Nat} {K : XV → XH → Prop} (w : WW σ S ρ) (hd : 45 ≤ d) (h : ∀ x g, Same σ g → (∀ e (K2 : XV → XH → Prop), 45 ≤ e → (∀ g' S' ρ', WW g' S' ρ' → Same σ g' → K2 (vI x) g') → Ec e 0 0 m_X11_rule [vR (some (12, 0)), vI hh, vI dd] g K2) → K (vI x) g) : Ec d 5 499 m_X10_rule [vR (some (11, 0)), vI hh, vI dd] σ K := by
  refine sp_X10_rule (by omega) w.c.x w.c.ll w.v.1 w.c.ru w.c.tx w.t (fun k hk => (w.u k hk).2.1) (fun a => ?_) (fun a b => ?_) (fun a b c => ?_) (fun a b c z g hF hx h7 hru => ?_) (fun a b c z g hF hx h7 hll hru => ?_)
  · refine h _ _ (Same.rf _) fun e K2 he k2 => ?_
    rw [← w.e]
    exact sp_X11_rule (by omega) w.m w.v.1 (fun _ => k2 _ _ _ w.here ((Same.rf _).up _)) (fun y => absurd y a) (fun y => absurd y a) (fun y => absurd y a) (fun y => absurd y a)
  · refine h _ _ (Same.rf _) fun e K2 he k2 => ?_
    rw [← w.e]
    exact sp_X11_rule (by omega) w.m w.v.1 (fun y => absurd a y) (fun _ _ => k2 _ _ _ w.here ((Same.rf _).up _)) (fun _ y => absurd y b) (fun _ y => absurd y b) (fun _ y => absurd y b)
  · refine h _ _ (Same.rf _) fun e K2 he k2 => ?_
    rw [← w.e]
    exact sp_X11_rule (by omega) w.m w.v.1 (fun y => absurd a y) (fun _ y => absurd b y) (fun _ _ _ => k2 _ _ _ w.here ((Same.rf _).up _)) (fun _ _ y => absurd c (by omega)) (fun _ _ y => absurd c (by omega))
  · obtain ⟨e1, e2, e3⟩ := w.mid hF (rsb_tl (by decide)) rfl
    refine h _ _ e3 fun e K2 he k2 => ?_
    rw [← e1]
    refine sp_X11_rule (by omega) e2 w.v.1 (fun y => absurd a y) (fun _ y => absurd b y) (fun _ _ y => absurd c (by omega)) (fun _ _ _ _ S' sa h25 h26 h4 h5 h6 h137 => ?_) (fun _ _ _ y => by rw [z] at y; cases y)
    have en : nRu S' = nRu S := by unfold nRu; rw [h25]
    have hu := (w.u.txs w.v.1.l25 h25 h137 (fun j _ => by rw [h6])).1
    have hv : Inv S' := w.v.rul sa (by rw [en, h25]; exact ⟨w.v.1.n25, w.v.1.l25⟩) h26
    have hC : CA g S' ρ := ⟨hx, w.c.ll.trs hF sa (by decide) (by decide), w.c.st.tr hF sa (by decide) (by decide) (by decide), w.c.cl.tr hF sa (by decide) (by decide) (by decide), w.c.rd.tr hF sa (by decide) (by decide) (by decide), w.c.sc.tr hF sa (by decide) (by decide) (by decide), w.c.tp.tr hF sa (by decide) (by decide) (by decide), w.c.tb.tr hF sa (by decide) (by decide) (by decide), w.c.le.tr hF sa (by decide) (by decide) (by decide), w.c.pl.tr hF sa (by decide) (by decide) (by decide), ctx0 h7 h26, w.c.ar.tr hF sa (by decide) (by decide) (by decide), CRu.feed hru w.u w.v.1.l25 (Fr.rf (tl []) g) (by decide) h25 h4 h5 h137 (fun j _ => by rw [h6])⟩
    exact k2 _ _ _ (WW.fin e2 hC hv (tx0 h26) hu) (e3.up _)
  · obtain ⟨e1, e2, e3⟩ := w.mid hF (rsb_tl (by decide)) rfl
    refine h _ _ e3 fun e K2 he k2 => ?_
    rw [← e1]
    refine sp_X11_rule (by omega) e2 w.v.1 (fun y => absurd a y) (fun _ y => absurd b y) (fun _ _ y => absurd c (by omega)) (fun _ _ _ y => by rw [z] at y; cases y) (fun _ _ _ _ S' sa h25 h26 h6 h137 h4 h5 => ?_)
    have hs : ruS S S' hh dd := ⟨h25, h6, h137, h4, h5⟩
    have en : nRu S' = nRu S + 1 := by unfold nRu; rw [h25, nI_clamp (by omega)]
    have hu := w.u.add w.v.1 w.t hs c z en
    have hv : Inv S' := w.v.rul sa (by rw [en, h25]; exact ⟨rfl, by omega⟩) h26
    have hll' : LL g (EL S' (ρ ++ [hc σ 6])) := by
      rw [EL_cg (sa.k rfl) (sa.k rfl) (sa.k rfl) (sa.k rfl) (sa.k rfl)]
      exact hll
    have hC : CA g S' (ρ ++ [hc σ 6]) := ⟨hx, hll', w.c.st.tr hF sa (by decide) (by decide) (by decide), w.c.cl.tr hF sa (by decide) (by decide) (by decide), w.c.rd.tr hF sa (by decide) (by decide) (by decide), w.c.sc.tr hF sa (by decide) (by decide) (by decide), w.c.tp.tr hF sa (by decide) (by decide) (by decide), w.c.tb.tr hF sa (by decide) (by decide) (by decide), w.c.le.tr hF sa (by decide) (by decide) (by decide), w.c.pl.tr hF sa (by decide) (by decide) (by decide), ctx0 h7 h26, w.c.ar.tr hF sa (by decide) (by decide) (by decide), hru S' hs⟩
    exact k2 _ _ _ (WW.fin e2 hC hv (tx0 h26) hu) (e3.up _)
