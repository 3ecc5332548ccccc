/-! ===== what holds of every logical state that is reached ===== -/
theorem RdN.mono {S S' : SS} {r : Nat} (h : RdN S r) (a : ∀ s, s ∈ [120, 121, 122, 123, 124, 125, 127, 129] → S' s = S s) (hc : nCl S ≤ nCl S') : RdN S' r := by
  obtain ⟨d1, d2, d⟩ := h
  unfold RdN
  rw [a 120 (by decide), a 121 (by decide), a 122 (by decide), a 123 (by decide), a 124 (by decide), a 125 (by decide), a 127 (by decide), a 129 (by decide)]
  exact ⟨d1, vp_mono d2 hc, d⟩
theorem SInv.of {S S' : SS} (hI : SInv S) (h1 : S' 12 1 = nI (nSt S') ∧ nSt S' ≤ 11) (h2 : S' 12 2 = nI (nCl S') ∧ nCl S' ≤ 12) (h8 : S' 12 8 = S 12 8) (h20 : S' 12 20 = nI (nLe S') ∧ nLe S' ≤ 60) (h25 : S' 12 25 = nI (nRu S') ∧ nRu S' ≤ 12) (h26 : S' 12 26 = nI (nFd S') ∧ nFd S' ≤ 140) (h59 : S' 12 59 = nI (nPl S') ∧ nPl S' ≤ 9) (h0 : inP (S' 12 0) 0 9999) (hc : ∀ c, c < nCl S' → vp_in (S' 118 c) (nSt S') ∧ inP (S' 119 c) (-1) 999999) (hrd : ∀ r, r < nRd S → RdN S' r) : SInv S' := by
  have e8 : nRd S' = nRd S := by simp only [nRd, h8]
  refine ⟨h1, h2, by rw [e8, h8]; exact hI.2.2.1, h20, h25, h26, h59, h0, fun i v => hc _ (vp_lt v), fun i v => ?_⟩
  rw [e8] at v
  exact RdN.i (hrd _ (vp_lt v))
/-- a count that stands -/
theorem n_same {S S' : SS} {j N : Nat} (e : S' 12 j = S 12 j) (h : S 12 j = nI (S 12 j).toNatClampNeg ∧ (S 12 j).toNatClampNeg ≤ N) : S' 12 j = nI (S' 12 j).toNatClampNeg ∧ (S' 12 j).toNatClampNeg ≤ N := by
  rw [e]
  exact h
theorem n_inc {y : Int32} {n N : Nat} (e : y = nI n) (hn : n ≤ N) (hN : N < 100000) : y = nI y.toNatClampNeg ∧ y.toNatClampNeg ≤ N := by
  rw [e, nI_clamp (by omega)]
  exact ⟨rfl, hn⟩
/-- stations and levers -/
def StI (S : SS) : Prop := (∀ s, s < nSt S → (S 116 s = 99999 ∨ inP (S 116 s) (-43200) 43200) ∧ inP (S 117 s) 0 4000) ∧ (∀ j, 4 * nSt S ≤ j → j < 44 → S 146 j = 0) ∧ (∀ j, j < 44 → inP (S 146 j) (-99) 99)
def TbI (S : SS) : Prop := ∀ n, n ≤ 4 → inP (S 145 n) 0 999999
def AcI (S : SS) : Prop := AOK S 50
def Inv (S : SS) : Prop := SInv S ∧ TpI S ∧ OrI S ∧ StI S ∧ TbI S ∧ PInv S ∧ AcI S
theorem gon_cg {S S' : SS} (h : S' 129 = S 129) : ∀ n, gon S' n = gon S n
  | 0 => rfl
  | n + 1 => by
    unfold gon
    rw [gon_cg h n, h]
theorem OrI.sa {S S' : SS} {A K : Nat → Bool} (hO : OrI S) (h : SA A K S S') (a : ∀ s, s ∈ [128, 129, 133] → A s = false) (k : ∀ j, j ∈ [3, 8, 20] → K j = false) : OrI S' := by
  have a128 := h.a (s := 128) (by decide) (a 128 (by decide))
  have a129 := h.a (s := 129) (by decide) (a 129 (by decide))
  have a133 := h.a (s := 133) (by decide) (a 133 (by decide))
  have k3 := h.k (k 3 (by decide))
  have k8 := h.k (k 8 (by decide))
  have k20 := h.k (k 20 (by decide))
  unfold OrI ordC at *
  simp only [nRd, nLe, gon_cg a129, a128, a129, a133, k3, k8, k20] at *
  exact hO
theorem StI.sa {S S' : SS} {A K : Nat → Bool} (hO : StI S) (h : SA A K S S') (a : ∀ s, s ∈ [116, 117, 146] → A s = false) (k : K 1 = false) : StI S' := by
  have a116 := h.a (s := 116) (by decide) (a 116 (by decide))
  have a117 := h.a (s := 117) (by decide) (a 117 (by decide))
  have a146 := h.a (s := 146) (by decide) (a 146 (by decide))
  have k1 := h.k k
  unfold StI at *
  simp only [nSt, a116, a117, a146, k1] at *
  exact hO
theorem TbI.sa {S S' : SS} {A K : Nat → Bool} (hO : TbI S) (h : SA A K S S') (a : A 145 = false) : TbI S' := by
  unfold TbI at *
  rw [h.a (s := 145) (by decide) a]
  exact hO
theorem PInv.sa {S S' : SS} {A K : Nat → Bool} (hO : PInv S) (h : SA A K S S') (a : ∀ s, s ∈ [147, 148, 149] → A s = false) (k : K 59 = false) : PInv S' := by
  have a147 := h.a (s := 147) (by decide) (a 147 (by decide))
  have a148 := h.a (s := 148) (by decide) (a 148 (by decide))
  have a149 := h.a (s := 149) (by decide) (a 149 (by decide))
  have k1 := h.k k
  unfold PInv at *
  simp only [nPl, a147, a148, a149, k1] at *
  exact hO
theorem AcI.sa {S S' : SS} {A K : Nat → Bool} (hO : AcI S) (h : SA A K S S') (k : K 63 = false) : AcI S' := by
  unfold AcI AOK at *
  rw [h.k k]
  exact hO
/-! each that writes -/
theorem Inv.w {S : SS} (hI : SInv S) {j : Nat} (hj : j ∈ [1, 2, 8, 20, 25, 26, 59]) : S 12 j = nI (S 12 j).toNatClampNeg := by
  rcases List.mem_cons.mp hj with y | hj
  · rw [y]; exact hI.n1
  rcases List.mem_cons.mp hj with y | hj
  · rw [y]; exact hI.n2
  rcases List.mem_cons.mp hj with y | hj
  · rw [y]; exact hI.n8
  rcases List.mem_cons.mp hj with y | hj
  · rw [y]; exact hI.n20
  rcases List.mem_cons.mp hj with y | hj
  · rw [y]; exact hI.n25
  rcases List.mem_cons.mp hj with y | hj
  · rw [y]; exact hI.n26
  rcases List.mem_cons.mp hj with y | hj
  · rw [y]; exact hI.n59
  exact absurd hj (by simp)
/-- a write outside of readings and clocks, and perhaps to one count or the day -/
theorem SInv.wr {S S' : SS} (hI : SInv S) (a : ∀ s, s ∈ [118, 119, 120, 121, 122, 123, 124, 125, 127, 129] → S' s = S s) {j0 : Nat} (hj0 : j0 ≠ 2 ∧ j0 ≠ 8) (k : ∀ j, j ∈ [0, 1, 2, 8, 20, 25, 26, 59] → j ≠ j0 → S' 12 j = S 12 j) (w1 : j0 = 1 → S' 12 1 = nI (nSt S') ∧ nSt S' ≤ 11 ∧ nSt S ≤ nSt S') (w20 : j0 = 20 → S' 12 20 = nI (nLe S') ∧ nLe S' ≤ 60) (w25 : j0 = 25 → S' 12 25 = nI (nRu S') ∧ nRu S' ≤ 12) (w26 : j0 = 26 → S' 12 26 = nI (nFd S') ∧ nFd S' ≤ 140) (w59 : j0 = 59 → S' 12 59 = nI (nPl S') ∧ nPl S' ≤ 9) (w0 : j0 = 0 → inP (S' 12 0) 0 9999) : SInv S' := by
  have e2 : nCl S' = nCl S := by simp only [nCl, k 2 (by decide) hj0.1.symm]
  have st : nSt S ≤ nSt S' := by
    by_cases y : j0 = 1
    · exact (w1 y).2.2
    · simp only [nSt, k 1 (by decide) (fun q => y q.symm)]
      exact Nat.le_refl _
  refine hI.of ?_ ?_ (k 8 (by decide) hj0.2.symm) ?_ ?_ ?_ ?_ ?_ (fun c hc => ?_) (fun r hlr => (hI.rn hlr).mono (fun s hs => a s (by revert s; decide)) (by rw [e2]; exact Nat.le_refl _))
  · by_cases y : j0 = 1
    · exact ⟨(w1 y).1, (w1 y).2.1⟩
    · exact n_same (k 1 (by decide) (fun q => y q.symm)) hI.1
  · exact n_same (k 2 (by decide) hj0.1.symm) hI.2.1
  · by_cases y : j0 = 20
    · exact w20 y
    · exact n_same (k 20 (by decide) (fun q => y q.symm)) hI.2.2.2.1
  · by_cases y : j0 = 25
    · exact w25 y
    · exact n_same (k 25 (by decide) (fun q => y q.symm)) hI.2.2.2.2.1
  · by_cases y : j0 = 26
    · exact w26 y
    · exact n_same (k 26 (by decide) (fun q => y q.symm)) hI.2.2.2.2.2.1
  · by_cases y : j0 = 59
    · exact w59 y
    · exact n_same (k 59 (by decide) (fun q => y q.symm)) hI.2.2.2.2.2.2.1
  · by_cases y : j0 = 0
    · exact w0 y
    · rw [k 0 (by decide) (fun q => y q.symm)]
      exact hI.2.2.2.2.2.2.2.1
  · rw [e2] at hc
    rw [a 118 (by decide), a 119 (by decide)]
    exact ⟨vp_mono (hI.c hc).1 st, (hI.c hc).2⟩
theorem Inv.pass {S : SS} (h : Inv S) (n : Int32) : Inv (passF S n).2 := by
  unfold passF
  split
  · rename_i c
    obtain ⟨hI, hT, hO, hS, hB, hP, hA⟩ := h
    dsimp only
    have sa : SA (tl []) (tl [0]) S (up2 S 12 0 (S 12 0 + n)) := (SA.rf _ _ S).wk _ _ rfl
    refine ⟨hI.wr (j0 := 0) (fun s hs => sa.a (by revert s; decide) rfl) (by decide) (fun j hj h0 => up2_k _ _ _ h0 _) (fun y => absurd y (by decide)) (fun y => absurd y (by decide)) (fun y => absurd y (by decide)) (fun y => absurd y (by decide)) (fun y => absurd y (by decide)) (fun _ => ?_), hT.sa sa rfl rfl, hO.sa sa (by decide) (by decide), hS.sa sa (by decide) rfl, hB.sa sa rfl, hP.sa sa (by decide) rfl, hA.sa sa rfl⟩
    rw [up2_eq]
    have d0 := hI.2.2.2.2.2.2.2.1
    obtain ⟨c1, c2⟩ := c
    have e0 : (0 : Int32).toInt = 0 := by decide
    have e1 : (1 : Int32).toInt = 1 := by decide
    have e4 : (400 : Int32).toInt = 400 := by decide
    have e9 : (9999 : Int32).toInt = 9999 := by decide
    simp only [inP_iff, fa_lt, e0, e1, e4, e9] at c1 c2 d0 ⊢
    have ea := fb_addI (x := S 12 0) (y := n) (by omega) (by omega)
    rw [ea] at c2 ⊢
    omega
  · exact h
theorem Inv.table {S : SS} (h : Inv S) (n t : Int32) : Inv (tableF S n t).2 := by
  unfold tableF
  split
  · rename_i c1
    split
    · rename_i c2
      obtain ⟨hI, hT, hO, hS, hB, hP, hA⟩ := h
      dsimp only
      have sa : SA (tl [145]) (tl []) S (up2 S 145 n.toNatClampNeg t) := (SA.rf _ _ S).wa _ _ (by decide) rfl
      refine ⟨hI.sa sa (by decide) (by decide), hT.sa sa rfl rfl, hO.sa sa (by decide) (by decide), hS.sa sa (by decide) rfl, fun j hj => ?_, hP.sa sa (by decide) rfl, hA.sa sa rfl⟩
      rw [up2_at]
      split
      · exact c2
      · exact hB j hj
    · exact h
  · exact h
theorem Inv.place {S : SS} (h : Inv S) (l c q : Int32) : Inv (placeF S l c q).2 := by
  unfold placeF
  split
  · rename_i c1
    split
    · exact h
    · rename_i c2
      obtain ⟨hI, hT, hO, hS, hB, hP, hA⟩ := h
      dsimp only
      have l9 := hI.l59
      have hlt : nPl S < 9 := by
        have : ¬ nPl S = 9 := fun y => c2 (by rw [hI.n59, y]; decide)
        omega
      have ep : (S 12 59).toNatClampNeg = nPl S := rfl
      rw [ep]
      have sa : SA (tl [147, 148, 149]) (tl [59]) S (up2 (up2 (up2 (up2 S 147 (nPl S) l) 148 (nPl S) c) 149 (nPl S) q) 12 59 (S 12 59 + 1)) := ((((SA.rf _ _ S).wa _ _ (by decide) rfl).wa _ _ (by decide) rfl).wa _ _ (by decide) rfl).wk _ _ rfl
      have s59 : (up2 (up2 (up2 (up2 S 147 (nPl S) l) 148 (nPl S) c) 149 (nPl S) q) 12 59 (S 12 59 + 1)) 12 59 = nI (nPl S + 1) := by rw [up2_eq, hI.n59, nI_1]
      have s147 : ∀ p, (up2 (up2 (up2 (up2 S 147 (nPl S) l) 148 (nPl S) c) 149 (nPl S) q) 12 59 (S 12 59 + 1)) 147 p = if p = nPl S then l else S 147 p := fun p => by rw [up2_s _ _ _ (show 147 ≠ 12 by decide), up2_s _ _ _ (show 147 ≠ 149 by decide), up2_s _ _ _ (show 147 ≠ 148 by decide), up2_at]
      have s148 : ∀ p, (up2 (up2 (up2 (up2 S 147 (nPl S) l) 148 (nPl S) c) 149 (nPl S) q) 12 59 (S 12 59 + 1)) 148 p = if p = nPl S then c else S 148 p := fun p => by rw [up2_s _ _ _ (show 148 ≠ 12 by decide), up2_s _ _ _ (show 148 ≠ 149 by decide), up2_at, up2_s _ _ _ (show 148 ≠ 147 by decide)]
      have s149 : ∀ p, (up2 (up2 (up2 (up2 S 147 (nPl S) l) 148 (nPl S) c) 149 (nPl S) q) 12 59 (S 12 59 + 1)) 149 p = if p = nPl S then q else S 149 p := fun p => by rw [up2_s _ _ _ (show 149 ≠ 12 by decide), up2_at, up2_s _ _ _ (show 149 ≠ 148 by decide), up2_s _ _ _ (show 149 ≠ 147 by decide)]
      generalize (up2 (up2 (up2 (up2 S 147 (nPl S) l) 148 (nPl S) c) 149 (nPl S) q) 12 59 (S 12 59 + 1)) = S' at *
      have en : nPl S' = nPl S + 1 := by
        show (S' 12 59).toNatClampNeg = _
        rw [s59, nI_clamp (by omega)]
      refine ⟨hI.wr (j0 := 59) (fun s hs => sa.a (by revert s; decide) (by revert s; decide)) (by decide) (fun j hj h0 => sa.k (by revert j; decide)) (fun y => absurd y (by decide)) (fun y => absurd y (by decide)) (fun y => absurd y (by decide)) (fun y => absurd y (by decide)) (fun _ => ⟨by rw [s59, en], by omega⟩) (fun y => absurd y (by decide)), hT.sa sa rfl rfl, hO.sa sa (by decide) (by decide), hS.sa sa (by decide) rfl, hB.sa sa rfl, fun p hp => ?_, hA.sa sa rfl⟩
      rw [en] at hp
      rw [s147, s148, s149]
      by_cases e : p = nPl S
      · rw [if_pos e, if_pos e, if_pos e]
        exact c1
      · rw [if_neg e, if_neg e, if_neg e]
        exact hP p (by omega)
  · exact h
theorem Inv.lever {S : SS} (h : Inv S) (s n v : Int32) : Inv (leverF S s n v).2 := by
  unfold leverF
  split
  · rename_i c
    obtain ⟨hI, hT, hO, hS, hB, hP, hA⟩ := h
    dsimp only
    have sa : SA (tl [146]) (tl []) S (up2 S 146 (4 * s + n - 1).toNatClampNeg v) := (SA.rf _ _ S).wa _ _ (by decide) rfl
    refine ⟨hI.sa sa (by decide) (by decide), hT.sa sa rfl rfl, hO.sa sa (by decide) (by decide), ?_, hB.sa sa rfl, hP.sa sa (by decide) rfl, hA.sa sa rfl⟩
    obtain ⟨h1, h2, h3⟩ := hS
    obtain ⟨c1, c2, c3⟩ := c
    have vs := hI.isSt c1
    have hs := vp_lt vs
    have es := nI_of_nn (vp_nn vs)
    have vn : vp_in n 5 := inP_c c2 (by decide) (by decide)
    have hn5 := vp_lt vn
    have en := nI_of_nn (vp_nn vn)
    have l11 := hI.l1
    have n0 : 1 ≤ n.toNatClampNeg := by
      rcases Nat.eq_zero_or_pos n.toNatClampNeg with y | y
      · rw [y] at en
        rw [en] at c2
        exact absurd c2 (by decide)
      · exact y
    have ej : (4 * s + n - 1).toNatClampNeg = 4 * s.toNatClampNeg + n.toNatClampNeg - 1 := by
      have e4 : (4 * s + n - 1).toInt = 4 * s.toInt + n.toInt - 1 := by
        have f1 : s.toInt = s.toNatClampNeg := by
          have := nI_toInt (n := s.toNatClampNeg) (by omega)
          rw [← es] at this
          exact this
        have f2 : n.toInt = n.toNatClampNeg := by
          have := nI_toInt (n := n.toNatClampNeg) (by omega)
          rw [← en] at this
          exact this
        have f4 : (4 : Int32).toInt = 4 := by decide
        have f5 : (1 : Int32).toInt = 1 := by decide
        have g1 : (4 * s).toInt = 4 * s.toInt := by
          rw [fb_mulI (by rw [f4]; omega) (by rw [f4]; omega), f4]
        have g2 : (4 * s + n).toInt = 4 * s.toInt + n.toInt := by
          rw [fb_addI (by rw [g1]; omega) (by rw [g1]; omega), g1]
        rw [fb_subI (by rw [g2, f5]; omega) (by rw [g2, f5]; omega), g2, f5]
      show (4 * s + n - 1).toInt.toNat = _
      rw [e4]
      have f1 : (s.toNatClampNeg : Int) = s.toInt := by
        have := nI_toInt (n := s.toNatClampNeg) (by omega)
        rw [← es] at this
        exact this.symm
      have f2 : (n.toNatClampNeg : Int) = n.toInt := by
        have := nI_toInt (n := n.toNatClampNeg) (by omega)
        rw [← en] at this
        exact this.symm
      omega
    have k1 : nSt (up2 S 146 (4 * s + n - 1).toNatClampNeg v) = nSt S := by simp only [nSt, sa.k (j := 1) rfl]
    unfold StI
    rw [k1, sa.a (s := 116) (by decide) rfl, sa.a (s := 117) (by decide) rfl]
    refine ⟨h1, fun j j1 j2 => ?_, fun j j2 => ?_⟩
    · rw [up2_at, if_neg (by rw [ej]; omega)]
      exact h2 j j1 j2
    · rw [up2_at]
      split
      · exact c3
      · exact h3 j j2
  · exact h
theorem StI.lev {S : SS} (h : StI S) : ∀ n, 1 ≤ n → n ≤ 4 → nSt S < 11 → S 146 (4 * nSt S + n - 1) = 0 := fun n h1 h2 h3 => h.2.1 _ (by omega) (by omega)
