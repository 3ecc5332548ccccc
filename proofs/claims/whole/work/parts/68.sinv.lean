/-! ===== what holds of readings stays when one is added ===== -/
def RdN (S : SS) (r : Nat) : Prop := inP (S 120 r) 1 6 ∧ vp_in (S 121 r) (nCl S) ∧ inP (S 122 r) 0 5 ∧ inP (S 123 r) 0 999999 ∧ (S 120 r = 6 → vp_in (S 127 r) r ∧ ¬ S 120 (S 127 r).toNatClampNeg = 6) ∧ (S 120 r = 4 → inP (S 124 r) 0 999999) ∧ (S 120 r = 5 → inP (S 124 r) (-99) 99) ∧ ((S 120 r = 1 ∨ S 120 r = 2) → inP (S 124 r) 0 999999) ∧ ((S 120 r = 3 ∨ S 120 r = 4 ∨ S 120 r = 5) → inP (S 125 r) 1 4) ∧ (¬ (S 120 r = 3 ∨ S 120 r = 4 ∨ S 120 r = 5) → S 125 r = -1) ∧ (S 120 r = 6 → S 121 r = S 121 (S 127 r).toNatClampNeg ∧ S 122 r = S 122 (S 127 r).toNatClampNeg) ∧ (¬ S 120 r = 6 → S 127 r = -1) ∧ ¬ S 129 r < 0
theorem SInv.rn {S : SS} (h : SInv S) {r : Nat} (hlr : r < nRd S) : RdN S r := h.r hlr
theorem RdN.i {S : SS} {i : Int32} (h : RdN S i.toNatClampNeg) : RdI S i := h
theorem SInv.add {S : SS} {k c h s m num q : Int32} (hI : SInv S) (hn : nRd S < 90) (hk : inP k 1 6) (hcl : vp_in c (nCl S)) (hh : inP h 0 5) (hs : inP s 0 999999) (h6 : k = 6 → vp_in q (nRd S) ∧ ¬ S 120 q.toNatClampNeg = 6 ∧ c = S 121 q.toNatClampNeg ∧ h = S 122 q.toNatClampNeg) (h4 : k = 4 → inP m 0 999999) (h5 : k = 5 → inP m (-99) 99) (h1 : k = 1 ∨ k = 2 → inP m 0 999999) (h3 : (k = 3 ∨ k = 4 ∨ k = 5) → inP num 1 4) (h3' : ¬ (k = 3 ∨ k = 4 ∨ k = 5) → num = -1) (h6' : ¬ k = 6 → q = -1) : SInv (addF S k c h s m num q).2 := by
  obtain ⟨a120, a121, a122, a123, a124, a125, a126, a127, a128, a129, a12, aoth⟩ := addF_s (k := k) (c := c) (h := h) (s := s) (m := m) (n := num) (q := q) hI.n8 (show nRd S < 100000 by omega)
  generalize (addF S k c h s m num q).2 = S' at *
  have w : ∀ p, p ≠ 8 → p ≠ 3 → S' 12 p = S 12 p := fun p h1 h2 => by rw [a12, if_neg h1, if_neg h2]
  have a8 : S' 12 8 = nI (nRd S + 1) := by rw [a12, if_pos rfl]
  have e8 : nRd S' = nRd S + 1 := by
    show (S' 12 8).toNatClampNeg = _
    rw [a8, nI_clamp (by omega)]
  have e1 : nSt S' = nSt S := by simp only [nSt, w 1 (by decide) (by decide)]
  have e2 : nCl S' = nCl S := by simp only [nCl, w 2 (by decide) (by decide)]
  have e20 : nLe S' = nLe S := by simp only [nLe, w 20 (by decide) (by decide)]
  have e25 : nRu S' = nRu S := by simp only [nRu, w 25 (by decide) (by decide)]
  have e26 : nFd S' = nFd S := by simp only [nFd, w 26 (by decide) (by decide)]
  have e59 : nPl S' = nPl S := by simp only [nPl, w 59 (by decide) (by decide)]
  obtain ⟨i1, i2, i3, i4, i5, i6, i7, i8, i9, i10⟩ := id hI
  refine ⟨by rw [e1, w 1 (by decide) (by decide)]; exact i1, by rw [e2, w 2 (by decide) (by decide)]; exact i2, by rw [e8, a8]; exact ⟨rfl, by omega⟩, by rw [e20, w 20 (by decide) (by decide)]; exact i4, by rw [e25, w 25 (by decide) (by decide)]; exact i5, by rw [e26, w 26 (by decide) (by decide)]; exact i6, by rw [e59, w 59 (by decide) (by decide)]; exact i7, by rw [w 0 (by decide) (by decide)]; exact i8, fun i v => ?_, fun i v => ?_⟩
  · rw [e2] at v
    rw [e1]
    unfold gS
    rw [aoth 118 (by decide), aoth 119 (by decide)]
    exact i9 i v
  · rw [e8] at v
    apply RdN.i
    have hlt := vp_lt v
    generalize i.toNatClampNeg = r at *
    unfold RdN
    rw [e2]
    by_cases e : r = nRd S
    · subst e
      simp only [a120, a121, a122, a123, a124, a125, a127, a129, if_true]
      refine ⟨hk, hcl, hh, hs, fun y => ?_, h4, h5, h1, h3, h3', fun y => ?_, h6', by decide⟩
      · obtain ⟨p1, p2, p3, p4⟩ := h6 y
        have := vp_lt p1
        rw [if_neg (by omega)]
        exact ⟨p1, p2⟩
      · obtain ⟨p1, p2, p3, p4⟩ := h6 y
        have := vp_lt p1
        rw [if_neg (by omega), if_neg (by omega)]
        exact ⟨p3, p4⟩
    · obtain ⟨d1, d2, d3, d4, d5, d6, d7, d8, d9, d10, d11, d12, d13⟩ := hI.r (r := r) (by omega)
      simp only [a120, a121, a122, a123, a124, a125, a127, a129, if_neg e]
      refine ⟨d1, d2, d3, d4, fun y => ?_, d6, d7, d8, d9, d10, fun y => ?_, d12, d13⟩
      · obtain ⟨p1, p2⟩ := d5 y
        have := vp_lt p1
        rw [if_neg (by omega)]
        exact ⟨p1, p2⟩
      · obtain ⟨p1, p2⟩ := d5 y
        have := vp_lt p1
        rw [if_neg (by omega), if_neg (by omega)]
        exact d11 y
/-- what other cells and scalars hold does not matter -/
theorem SInv.sa {S S' : SS} {A K : Nat → Bool} (hI : SInv S) (h : SA A K S S') (a : ∀ s, s ∈ [118, 119, 120, 121, 122, 123, 124, 125, 127, 129] → A s = false) (k : ∀ j, j ∈ [0, 1, 2, 8, 20, 25, 26, 59] → K j = false) : SInv S' := by
  have a118 := h.a (s := 118) (by decide) (a 118 (by decide))
  have a119 := h.a (s := 119) (by decide) (a 119 (by decide))
  have a120 := h.a (s := 120) (by decide) (a 120 (by decide))
  have a121 := h.a (s := 121) (by decide) (a 121 (by decide))
  have a122 := h.a (s := 122) (by decide) (a 122 (by decide))
  have a123 := h.a (s := 123) (by decide) (a 123 (by decide))
  have a124 := h.a (s := 124) (by decide) (a 124 (by decide))
  have a125 := h.a (s := 125) (by decide) (a 125 (by decide))
  have a127 := h.a (s := 127) (by decide) (a 127 (by decide))
  have a129 := h.a (s := 129) (by decide) (a 129 (by decide))
  have k0 := h.k (k 0 (by decide))
  have k1 := h.k (k 1 (by decide))
  have k2 := h.k (k 2 (by decide))
  have k8 := h.k (k 8 (by decide))
  have k20 := h.k (k 20 (by decide))
  have k25 := h.k (k 25 (by decide))
  have k26 := h.k (k 26 (by decide))
  have k59 := h.k (k 59 (by decide))
  unfold SInv RdI at *
  simp only [gS, nSt, nCl, nRd, nLe, nRu, nFd, nPl, a118, a119, a120, a121, a122, a123, a124, a125, a127, a129, k0, k1, k2, k8, k20, k25, k26, k59] at *
  exact hI
theorem CBase.tr {σ σ' : XH} {S S' : SS} {ρ : List Nat} {T A K : Nat → Bool} (h : CBase σ S ρ) (hF : Fr T σ σ') (hX : CFX σ') (hS : SA A K S S') (t : ∀ s, s ∈ [8, 106, 2, 101, 102, 5, 0, 410, 411, 510] → T s = false) (a : ∀ s, s ∈ [116, 117, 118, 119, 120, 121, 122, 123, 124, 125, 126, 127, 128, 129, 146] → A s = false) (k : ∀ j, j ∈ [1, 2, 8, 20, 59] → K j = false) : CBase σ' S' ρ := by
  obtain ⟨_, hL, hS1, hC, hR⟩ := h
  have tt : ∀ l : List Nat, (∀ s, s ∈ l → s ∈ [8, 106, 2, 101, 102, 5, 0, 410, 411, 510]) → ∀ s, s ∈ l → T s = false := fun l hl s hs => t s (hl s hs)
  have aa : ∀ l : List Nat, (∀ s, s ∈ l → s ≠ 12 ∧ s ∈ [116, 117, 118, 119, 120, 121, 122, 123, 124, 125, 126, 127, 128, 129, 146]) → ∀ s, s ∈ l → s ≠ 12 ∧ A s = false := fun l hl s hs => ⟨(hl s hs).1, a s (hl s hs).2⟩
  have kk : ∀ l : List Nat, (∀ s, s ∈ l → s ∈ [1, 2, 8, 20, 59]) → ∀ s, s ∈ l → K s = false := fun l hl s hs => k s (hl s hs)
  refine ⟨hX, ?_, hS1.tr hF hS (tt _ (by decide)) (aa _ (by decide)) (kk _ (by decide)), hC.tr hF hS (tt _ (by decide)) (aa _ (by decide)) (kk _ (by decide)), hR.tr hF hS (tt _ (by decide)) (aa _ (by decide)) (kk _ (by decide))⟩
  rw [EL_cg (hS.k (k 1 (by decide))) (hS.k (k 2 (by decide))) (hS.k (k 8 (by decide))) (hS.k (k 20 (by decide))) (hS.k (k 59 (by decide))) ρ]
  exact hL.fr hF (t 0 (by decide)) (t 410 (by decide)) (t 411 (by decide)) (t 510 (by decide))
