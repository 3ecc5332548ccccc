/-! ===== what each call that writes leaves of the logical state ===== -/
theorem sa_pass (S : SS) (n : Int32) : SA (tl []) (tl [0]) S (passF S n).2 := by
  unfold passF
  (repeat' split) <;> first | exact SA.rf _ _ _ | (repeat first | exact SA.rf _ _ _ | refine SA.wk ?_ _ _ rfl | refine SA.wa ?_ _ _ (by decide) rfl)
theorem sa_station (S : SS) (l b : Int32) : SA (tl [116, 117]) (tl [1]) S (stationF S l b).2 := by
  unfold stationF
  (repeat' split) <;> first | exact SA.rf _ _ _ | (repeat first | exact SA.rf _ _ _ | refine SA.wk ?_ _ _ rfl | refine SA.wa ?_ _ _ (by decide) rfl)
theorem sa_clock (S : SS) (s : Int32) : SA (tl [118, 119]) (tl [2]) S (clockF S s).2 := by
  unfold clockF
  (repeat' split) <;> first | exact SA.rf _ _ _ | (repeat first | exact SA.rf _ _ _ | refine SA.wk ?_ _ _ rfl | refine SA.wa ?_ _ _ (by decide) rfl)
theorem sa_stop (S : SS) (c t : Int32) : SA (tl [119]) (tl []) S (stopF S c t).2 := by
  unfold stopF
  (repeat' split) <;> first | exact SA.rf _ _ _ | (repeat first | exact SA.rf _ _ _ | refine SA.wk ?_ _ _ rfl | refine SA.wa ?_ _ _ (by decide) rfl)
theorem sa_number (S : SS) (r n : Int32) : SA (tl [125]) (tl []) S (numberF S r n).2 := by
  unfold numberF
  (repeat' split) <;> first | exact SA.rf _ _ _ | (repeat first | exact SA.rf _ _ _ | refine SA.wk ?_ _ _ rfl | refine SA.wa ?_ _ _ (by decide) rfl)
theorem sa_withdraw (S : SS) (r : Int32) : SA (tl [129]) (tl [3]) S (withdrawF S r).2 := by
  unfold withdrawF
  (repeat' split) <;> first | exact SA.rf _ _ _ | (repeat first | exact SA.rf _ _ _ | refine SA.wk ?_ _ _ rfl | refine SA.wa ?_ _ _ (by decide) rfl)
theorem sa_letter (S : SS) (s b n : Int32) : SA (tl [130, 131, 132, 133]) (tl [3, 20]) S (letterF S s b n).2 := by
  unfold letterF
  (repeat' split) <;> first | exact SA.rf _ _ _ | (repeat first | exact SA.rf _ _ _ | refine SA.wk ?_ _ _ rfl | refine SA.wa ?_ _ _ (by decide) rfl)
theorem sa_table (S : SS) (n t : Int32) : SA (tl [145]) (tl []) S (tableF S n t).2 := by
  unfold tableF
  (repeat' split) <;> first | exact SA.rf _ _ _ | (repeat first | exact SA.rf _ _ _ | refine SA.wk ?_ _ _ rfl | refine SA.wa ?_ _ _ (by decide) rfl)
theorem sa_lever (S : SS) (s n q : Int32) : SA (tl [146]) (tl []) S (leverF S s n q).2 := by
  unfold leverF
  (repeat' split) <;> first | exact SA.rf _ _ _ | (repeat first | exact SA.rf _ _ _ | refine SA.wk ?_ _ _ rfl | refine SA.wa ?_ _ _ (by decide) rfl)
theorem sa_place (S : SS) (l c q : Int32) : SA (tl [147, 148, 149]) (tl [59]) S (placeF S l c q).2 := by
  unfold placeF
  (repeat' split) <;> first | exact SA.rf _ _ _ | (repeat first | exact SA.rf _ _ _ | refine SA.wk ?_ _ _ rfl | refine SA.wa ?_ _ _ (by decide) rfl)
theorem sa_item (S : SS) (t i q : Int32) : SA (tl [153]) (tl []) S (itemF S t i q).2 := by
  unfold itemF
  (repeat' split) <;> first | exact SA.rf _ _ _ | (repeat first | exact SA.rf _ _ _ | refine SA.wk ?_ _ _ rfl | refine SA.wa ?_ _ _ (by decide) rfl)
theorem sa_blank (S : SS) (t i : Int32) : SA (tl [153]) (tl []) S (blankF S t i).2 := by
  unfold blankF
  (repeat' split) <;> first | exact SA.rf _ _ _ | (repeat first | exact SA.rf _ _ _ | refine SA.wk ?_ _ _ rfl | refine SA.wa ?_ _ _ (by decide) rfl)
theorem sa_reading {S : SS} (hI : SInv S) (k c h s m : Int32) : SA (tl [120, 121, 122, 123, 124, 125, 126, 127, 128, 129]) (tl [3, 8]) S (readingF S k c h s m).2 := by
  unfold readingF
  split
  · split
    · split
      · exact SA.rf _ _ _
      · exact SA.add hI
    · exact SA.rf _ _ _
  · exact SA.rf _ _ _
theorem sa_copied {S : SS} (hI : SInv S) (r s : Int32) : SA (tl [120, 121, 122, 123, 124, 125, 126, 127, 128, 129]) (tl [3, 8]) S (copiedF S r s).2 := by
  unfold copiedF
  split
  · split
    · split
      · exact SA.rf _ _ _
      · split
        · exact SA.rf _ _ _
        · exact SA.add hI
    · exact SA.rf _ _ _
  · exact SA.rf _ _ _
theorem sa_bkL {c h f i : Int32} {t : Nat} (hh : inP h 0 5) (hf : inP f 1 4) : ∀ (n k : Nat) (S : SS), k + n ≤ 40 → Inv S → vp_in c (nCl S) → SA (tl [120, 121, 122, 123, 124, 125, 126, 127, 128, 129]) (tl [3, 8, 19]) S (bkL c h f t i n k S)
  | 0, _, S, _, _, _ => SA.rf _ _ S
  | n + 1, k, S, hk, hV, hcl => by
    unfold bkL
    split
    · have sa := SA.bk (c := c) (h := h) (f := f) (t := t) (i := i) (k := k) hV.1
      exact sa.trans (sa_bkL hh hf n (k + 1) _ (by omega) (hV.bk hcl hh hf (by omega)) (by simp only [nCl, sa.k (j := 2) rfl]; exact hcl))
    · exact SA.rf _ _ S
theorem sa_book {S : SS} (hV : Inv S) (c h f t i n : Int32) : SA (tl [120, 121, 122, 123, 124, 125, 126, 127, 128, 129]) (tl [3, 8, 19]) S (bookF S c h f t i n).2 := by
  unfold bookF
  split
  · rename_i c1
    split
    · rename_i c2
      split
      · exact SA.rf _ _ _
      · have v := hV.1.isCl c1.1
        have e2 : nCl (up2 S 12 19 0) = nCl S := by simp only [nCl, up2_k S 12 0 (show 2 ≠ 19 by decide)]
        exact ((SA.rf _ _ S).wk 19 0 rfl).trans (sa_bkL c1.2.1 c2.1 _ 0 _ (by have := (bk_n c2.2).2; omega) (hV.k19 0) (by rw [e2]; exact v))
    · exact SA.rf _ _ _
  · exact SA.rf _ _ _
theorem sa_feed (S : SS) (b n : Int32) : SA (tl [136]) (tl [26]) S (feedF S b n).2 := by
  unfold feedF
  split
  · exact SA.rf _ _ _
  · split
    · exact SA.rf _ _ _
    · exact SA.feed b _ S
theorem sa_act (S : SS) (r a x : Int32) : SA (tl [150]) (tl [63]) S (actF S r a x).2 := by
  unfold actF
  split
  · exact ((SA.rf _ _ S).wk 63 0 rfl).trans (SA.pL _ _)
  · exact (SA.rf _ _ S).wk 63 0 rfl
theorem sa_tape (S : SS) (t of_ n : Int32) : SA (tl [151, 152, 153]) (tl []) S (tapeF S t of_ n).2 := by
  have z : ∀ (T : SS) (a m : Nat), SA (tl [151, 152, 153]) (tl []) S T → SA (tl [151, 152, 153]) (tl []) S (zT T a m) := fun T a m h =>
    h.trans ⟨fun s _ h2 => zT_s (fun y => by rw [y] at h2; cases h2) _, fun k _ => by rw [zT_s (by decide)]⟩
  unfold tapeF
  split
  · split
    · split
      · exact SA.rf _ _ _
      · exact z _ _ _ (((SA.rf _ _ S).wa _ _ (by decide) rfl).wa _ _ (by decide) rfl)
    · exact SA.rf _ _ _
  · exact SA.rf _ _ _
theorem sa_shift (S : SS) (t i q j n : Int32) : SA (tl [153, 154]) (tl []) S (shiftF S t i q j n).2 := by
  have z : ∀ a b m : Nat, SA (tl [153, 154]) (tl []) S (sh2 S a b m (sh1 S a m)) := fun a b m =>
    ⟨fun s _ h2 => sh_s (fun y => by rw [y] at h2; cases h2) (fun y => by rw [y] at h2; cases h2), fun k _ => by rw [sh_s (by decide) (by decide)]⟩
  unfold shiftF
  split
  · split
    · exact SA.rf _ _ _
    · split
      · split
        · exact SA.rf _ _ _
        · exact z _ _ _
      · exact SA.rf _ _ _
  · exact SA.rf _ _ _
/-! ===== all that the class's cells tell ===== -/
def CA (σ : XH) (S : SS) (ρ : List Nat) : Prop := CFX σ ∧ LL σ (EL S ρ) ∧ CSt σ S ∧ CCl σ S ∧ CRd σ S ∧ CSc σ S ∧ CTp σ S ∧ CTb σ S ∧ CLe σ S ∧ CPl σ S ∧ CTx σ S ∧ CAr σ S ∧ CRu σ S ρ
theorem CA.x {σ : XH} {S : SS} {ρ : List Nat} (h : CA σ S ρ) : CFX σ := h.1
theorem CA.ll {σ : XH} {S : SS} {ρ : List Nat} (h : CA σ S ρ) : LL σ (EL S ρ) := h.2.1
theorem CA.st {σ : XH} {S : SS} {ρ : List Nat} (h : CA σ S ρ) : CSt σ S := h.2.2.1
theorem CA.cl {σ : XH} {S : SS} {ρ : List Nat} (h : CA σ S ρ) : CCl σ S := h.2.2.2.1
theorem CA.rd {σ : XH} {S : SS} {ρ : List Nat} (h : CA σ S ρ) : CRd σ S := h.2.2.2.2.1
theorem CA.sc {σ : XH} {S : SS} {ρ : List Nat} (h : CA σ S ρ) : CSc σ S := h.2.2.2.2.2.1
theorem CA.tp {σ : XH} {S : SS} {ρ : List Nat} (h : CA σ S ρ) : CTp σ S := h.2.2.2.2.2.2.1
theorem CA.tb {σ : XH} {S : SS} {ρ : List Nat} (h : CA σ S ρ) : CTb σ S := h.2.2.2.2.2.2.2.1
theorem CA.le {σ : XH} {S : SS} {ρ : List Nat} (h : CA σ S ρ) : CLe σ S := h.2.2.2.2.2.2.2.2.1
theorem CA.pl {σ : XH} {S : SS} {ρ : List Nat} (h : CA σ S ρ) : CPl σ S := h.2.2.2.2.2.2.2.2.2.1
theorem CA.tx {σ : XH} {S : SS} {ρ : List Nat} (h : CA σ S ρ) : CTx σ S := h.2.2.2.2.2.2.2.2.2.2.1
theorem CA.ar {σ : XH} {S : SS} {ρ : List Nat} (h : CA σ S ρ) : CAr σ S := h.2.2.2.2.2.2.2.2.2.2.2.1
theorem CA.ru {σ : XH} {S : SS} {ρ : List Nat} (h : CA σ S ρ) : CRu σ S ρ := h.2.2.2.2.2.2.2.2.2.2.2.2
theorem CA.base {σ : XH} {S : SS} {ρ : List Nat} (h : CA σ S ρ) : CBase σ S ρ := ⟨h.x, h.ll, h.st, h.cl, h.rd⟩
theorem CA.ct {σ : XH} {S : SS} {ρ : List Nat} (h : CA σ S ρ) : CCt σ S ρ := ⟨h.base, h.ru, h.le, h.tb⟩
theorem CA.bk {σ : XH} {S : SS} {ρ : List Nat} (h : CA σ S ρ) : CBk σ S ρ := ⟨h.base, h.sc, h.tp⟩
theorem CAr.ac {σ : XH} {S : SS} (h : CAr σ S) : CAc σ S := by
  obtain ⟨h1, t, h2, h3, h4⟩ := h
  refine ⟨h1, fun k hk hl => h4 k hk ?_⟩
  rw [h2] at hl
  exact (nI_ltI (by omega) (by omega)).mp hl
theorem CAr.tr {σ σ' : XH} {S S' : SS} {T A K : Nat → Bool} (h : CAr σ S) (hF : Fr T σ σ') (hS : SA A K S S') (t : ∀ s, s ∈ [1, 100] → T s = false) (a : ∀ s, s ∈ [150] → s ≠ 12 ∧ A s = false) (k : ∀ j, j ∈ [63] → K j = false) : CAr σ' S' := by
  unfold CAr at *
  rw [hF.i (t 1 (by decide)), hF.i (t 100 (by decide)), hS.a (a 150 (by decide)).1 (a 150 (by decide)).2, hS.k (k 63 (by decide))]
  exact h
/-- cells that the class does not look at -/
theorem CA.tr {σ σ' : XH} {S S' : SS} {ρ : List Nat} {T A K : Nat → Bool} (h : CA σ S ρ) (hI : SInv S) (hX : CFX σ') (hF : Fr T σ σ') (hS : SA A K S S') (t : ∀ s, s ∈ [0, 410, 411, 510, 1, 2, 3, 4, 5, 6, 7, 8, 10, 11, 100, 101, 102, 103, 104, 105, 106, 114, 115, 200] → T s = false) (a : ∀ s, s ∈ [116, 117, 118, 119, 120, 121, 122, 123, 124, 125, 126, 127, 128, 129, 130, 131, 132, 133, 134, 135, 136, 137, 145, 146, 147, 148, 149, 150, 151, 152, 153] → A s = false) (k : ∀ j, j ∈ [0, 1, 2, 3, 8, 19, 20, 25, 26, 59, 63] → K j = false) : CA σ' S' ρ := by
  have tt : ∀ l : List Nat, (∀ s, s ∈ l → s ∈ [0, 410, 411, 510, 1, 2, 3, 4, 5, 6, 7, 8, 10, 11, 100, 101, 102, 103, 104, 105, 106, 114, 115, 200]) → ∀ s, s ∈ l → T s = false := fun l hl s hs => t s (hl s hs)
  have aa : ∀ l : List Nat, (∀ s, s ∈ l → s ∈ [116, 117, 118, 119, 120, 121, 122, 123, 124, 125, 126, 127, 128, 129, 130, 131, 132, 133, 134, 135, 136, 137, 145, 146, 147, 148, 149, 150, 151, 152, 153]) → ∀ s, s ∈ l → s ≠ 12 ∧ A s = false := fun l hl s hs => ⟨fun y => by have := hl s hs; rw [y] at this; revert this; decide, a s (hl s hs)⟩
  have kk : ∀ l : List Nat, (∀ s, s ∈ l → s ∈ [0, 1, 2, 3, 8, 19, 20, 25, 26, 59, 63]) → ∀ s, s ∈ l → K s = false := fun l hl s hs => k s (hl s hs)
  refine ⟨hX, ?_, h.st.tr hF hS (tt _ (by decide)) (aa _ (by decide)) (kk _ (by decide)), h.cl.tr hF hS (tt _ (by decide)) (aa _ (by decide)) (kk _ (by decide)), h.rd.tr hF hS (tt _ (by decide)) (aa _ (by decide)) (kk _ (by decide)), h.sc.tr hF hS (tt _ (by decide)) (fun s hs => nomatch hs) (kk _ (by decide)), h.tp.tr hF hS (tt _ (by decide)) (aa _ (by decide)) (fun s hs => nomatch hs), h.tb.tr hF hS (tt _ (by decide)) (aa _ (by decide)) (fun s hs => nomatch hs), h.le.tr hF hS (tt _ (by decide)) (aa _ (by decide)) (kk _ (by decide)), h.pl.tr hF hS (tt _ (by decide)) (aa _ (by decide)) (kk _ (by decide)), h.tx.tr hF hS (tt _ (by decide)) (aa _ (by decide)) (kk _ (by decide)), h.ar.tr hF hS (tt _ (by decide)) (aa _ (by decide)) (kk _ (by decide)), h.ru.tr hI.l25 hF hS (tt _ (by decide)) (fun s hs => (aa _ (by decide) s hs).2) (k 25 (by decide))⟩
  rw [EL_cg (hS.k (k 1 (by decide))) (hS.k (k 2 (by decide))) (hS.k (k 8 (by decide))) (hS.k (k 20 (by decide))) (hS.k (k 59 (by decide)))]
  exact h.ll.fr hF (t 0 (by decide)) (t 410 (by decide)) (t 411 (by decide)) (t 510 (by decide))
theorem TxI.sa {S S' : SS} {A K : Nat → Bool} (hP : TxI S) (h : SA A K S S') (a : A 136 = false) (k : K 26 = false) : TxI S' := by
  unfold TxI nFd at *
  rw [h.a (s := 136) (by decide) a, h.k k]
  exact hP
theorem RuI.sa {S S' : SS} {A K : Nat → Bool} (hP : RuI S) (h : SA A K S S') (a : A 136 = false) (a2 : A 137 = false) (k : K 25 = false) : RuI S' := by
  have a136 : S' 136 = S 136 := h.a (by decide) a
  have a137 : S' 137 = S 137 := h.a (by decide) a2
  have e : nRu S' = nRu S := by unfold nRu; rw [h.k k]
  unfold RuI
  unfold tx nTx
  rw [e, a136, a137]
  exact hP
/-- the script stands as it was -/
def Same (σ σ' : XH) : Prop := hn σ' 503 = hn σ 503 ∧ hi σ' 503 = hi σ 503
/-- where both sides stand between two calls -/
def WW (σ : XH) (S : SS) (ρ : List Nat) : Prop := MI σ ∧ CA σ S ρ ∧ Inv S ∧ TxI S ∧ RuI S ∧ up σ S = σ
theorem WW.m {σ : XH} {S : SS} {ρ : List Nat} (h : WW σ S ρ) : MI σ := h.1
theorem WW.c {σ : XH} {S : SS} {ρ : List Nat} (h : WW σ S ρ) : CA σ S ρ := h.2.1
theorem WW.v {σ : XH} {S : SS} {ρ : List Nat} (h : WW σ S ρ) : Inv S := h.2.2.1
theorem WW.t {σ : XH} {S : SS} {ρ : List Nat} (h : WW σ S ρ) : TxI S := h.2.2.2.1
theorem WW.u {σ : XH} {S : SS} {ρ : List Nat} (h : WW σ S ρ) : RuI S := h.2.2.2.2.1
theorem WW.e {σ : XH} {S : SS} {ρ : List Nat} (h : WW σ S ρ) : up σ S = σ := h.2.2.2.2.2
theorem rsb_tl {L : List Nat} (h : L.all (fun s => !rsb s) = true) (s : Nat) (hs : rsb s = true) : tl L s = false := by
  cases z : tl L s with
  | false => rfl
  | true =>
    unfold tl at z
    obtain ⟨u, hu, hb⟩ := List.any_eq_true.mp z
    have := List.all_eq_true.mp h u hu
    rw [Nat.eq_of_beq_eq_true hb] at hs
    rw [hs] at this
    cases this
theorem mLk_rsb : ∀ q ∈ mLk, rsb q.2.1 = true := by decide
theorem WW.mid {σ g : XH} {S : SS} {ρ : List Nat} {T : Nat → Bool} (w : WW σ S ρ) (hF : Fr T σ g) (t : ∀ s, rsb s = true → T s = false) (t3 : T 503 = false) : up g S = g ∧ MI g ∧ Same σ g := by
  have k : ∀ s, rsb s = true → ∀ j, S s j = hi σ s 0 j := fun s hs j => by
    have h1 : hi (up σ S) s 0 j = hi σ s 0 j := by rw [w.e]
    rw [← h1]
    show S s j = bif rsb s && Nat.beq 0 0 then S s j else hi σ s 0 j
    rw [hs]
    rfl
  refine ⟨?_, fun q hq => ?_, hF.n t3, hF.i t3⟩
  · refine Prod.ext rfl (Prod.ext rfl (Prod.ext (funext fun s => funext fun i => funext fun j => ?_) rfl))
    show (bif rsb s && Nat.beq i 0 then S s j else hi g s i j) = hi g s i j
    cases z : rsb s && Nat.beq i 0 with
    | false => rfl
    | true =>
      obtain ⟨z1, z2⟩ := Bool.and_eq_true_iff.mp z
      have z3 := Nat.eq_of_beq_eq_true z2
      subst z3
      show S s j = hi g s 0 j
      rw [k s z1, hF.i (t s z1)]
  · rw [hF.r (t 12 rfl), hF.n (t _ (mLk_rsb q hq))]
    exact w.m q hq
theorem Same.trans {a b c : XH} (h : Same a b) (k : Same b c) : Same a c := ⟨k.1.trans h.1, k.2.trans h.2⟩
theorem Same.up {a b : XH} (h : Same a b) (S : SS) : Same a (up b S) := ⟨h.1, (hi_upc b S (s := 503) rfl).trans h.2⟩
theorem WW.fin {g : XH} {S' : SS} {ρ' : List Nat} (hm : MI g) (c : CA g S' ρ') (v : Inv S') (t : TxI S') (u : RuI S') : WW (up g S') S' ρ' :=
  ⟨hm, c.tr v.1 (c.x.fi (Fi.up g S') rfl rfl rfl) (Fi.up g S').fr (SA.rf (tl []) (tl []) S') (by decide) (by decide) (by decide), v, t, u, up_up g S' S'⟩
/-- the reference's own scratch -/
theorem WW.fs {g g' : XH} {S T : SS} {ρ' : List Nat} (hm : MI g) (c : CA g S ρ') (v : Inv S) (t : TxI S) (u : RuI S) (hF : Fi (tl [12]) g g') (hS : FS S T) : WW (up g' T) T ρ' := by
  have hm' : MI g' := hm.of hF.r hF.n
  have c' : CA g' T ρ' := c.tr v.1 (c.x.fi hF rfl rfl rfl) hF.fr hS (by decide) (by decide) (by decide)
  obtain ⟨v1, v2, v3, v4, v5, v6, v7⟩ := v
  exact WW.fin hm' c' ⟨v1.sa hS (by decide) (by decide), v2.sa hS rfl rfl, v3.sa hS (by decide) (by decide), v4.sa hS (by decide) rfl, v5.sa hS rfl, v6.sa hS (by decide) rfl, v7.sa hS rfl⟩ (t.sa hS rfl rfl) (u.sa hS rfl rfl rfl)
