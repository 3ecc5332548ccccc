/-! ===== what holds stays: readings, letters, books ===== -/
theorem gon_s (S : SS) (n : Nat) : gon S (n + 1) = gon S n + (if 0 < S 129 n then 1 else 0) := rfl
theorem gon_cn {S S' : SS} : ∀ n, (∀ p, p < n → S' 129 p = S 129 p) → gon S' n = gon S n
  | 0, _ => rfl
  | n + 1, h => by
    rw [gon_s, gon_s, gon_cn n (fun p hp => h p (by omega)), h n (by omega)]
theorem nI_tI {n : Nat} (h : n < 100000) : (nI n).toInt = n := nI_toInt (by omega)
theorem ord_lt {S : SS} {a : Nat} (h : a ≤ ordC S) (hI : SInv S) : a < 100000 := by
  have := ordC_le hI
  omega
theorem OrI.add {S : SS} {k c h s m n q : Int32} (hI : SInv S) (hn : nRd S < 90) (hO : OrI S) : OrI (addF S k c h s m n q).2 := by
  obtain ⟨a120, a121, a122, a123, a124, a125, a126, a127, a128, a129, a12, aoth⟩ := addF_s (k := k) (c := c) (h := h) (s := s) (m := m) (n := n) (q := q) hI.n8 (show nRd S < 100000 by omega)
  have e8 : nRd (addF S k c h s m n q).2 = nRd S + 1 := bk_add hI
  generalize (addF S k c h s m n q).2 = S' at *
  have o240 := ordC_le hI
  obtain ⟨o1, o2, o3, o4, o5⟩ := hO
  have e20 : nLe S' = nLe S := by simp only [nLe, a12, if_neg (show ¬ 20 = 8 by decide), if_neg (show ¬ 20 = 3 by decide)]
  have eg : gon S' (nRd S + 1) = gon S (nRd S) := by
    rw [gon_s, gon_cn (S := S) (S' := S') (nRd S) (fun p hp => by rw [a129, if_neg (by omega)]), a129, if_pos rfl, if_neg (by decide), Nat.add_zero]
  have eo : ordC S' = ordC S + 1 := by
    unfold ordC
    rw [e8, e20, eg]
    omega
  have e133 := aoth 133 (by decide)
  refine ⟨?_, fun r hlr => ?_, fun k hk => ?_, fun r k hlr hk => ?_, fun r hlr hg => ?_⟩
  · rw [a12, if_neg (by decide), if_pos rfl, eo, o1, nI_1]
  · rw [e8] at hlr
    rw [a128, eo]
    by_cases e : r = nRd S
    · rw [if_pos e, o1, nI_1]
      exact ⟨_, rfl, by omega, by omega⟩
    · rw [if_neg e]
      obtain ⟨a, h1, h2, h3⟩ := o2 r (by omega)
      exact ⟨a, h1, h2, by omega⟩
  · rw [e20] at hk
    rw [e133, eo]
    obtain ⟨b, h1, h2, h3⟩ := o3 k hk
    exact ⟨b, h1, h2, by omega⟩
  · rw [e8] at hlr
    rw [e20] at hk
    rw [e133, a128]
    by_cases e : r = nRd S
    · rw [if_pos e, o1, nI_1]
      obtain ⟨b, h1, h2, h3⟩ := o3 k hk
      rw [h1]
      intro y
      have := nI_inj (by omega) (by omega) y
      omega
    · rw [if_neg e]
      exact o4 r k (by omega) hk
  · rw [e8] at hlr
    rw [a129] at hg
    by_cases e : r = nRd S
    · rw [if_pos e] at hg
      exact absurd hg (by decide)
    · rw [if_neg e] at hg
      rw [a129, a128, eo, if_neg e, if_neg e]
      obtain ⟨g, h1, h2, h3⟩ := o5 r (by omega) hg
      exact ⟨g, h1, by omega, h3⟩
theorem Inv.addR {S : SS} {k c h s m num q : Int32} (hV : Inv S) (hn : nRd S < 90) (hk : inP k 1 6) (hcl : vp_in c (nCl S)) (hh : inP h 0 5) (hs : inP s 0 999999) (h6 : k = 6 → vp_in q (nRd S) ∧ ¬ S 120 q.toNatClampNeg = 6 ∧ c = S 121 q.toNatClampNeg ∧ h = S 122 q.toNatClampNeg) (h4 : k = 4 → inP m 0 999999) (h5 : k = 5 → inP m (-99) 99) (h1 : k = 1 ∨ k = 2 → inP m 0 999999) (h3 : (k = 3 ∨ k = 4 ∨ k = 5) → inP num 1 4) (h3' : ¬ (k = 3 ∨ k = 4 ∨ k = 5) → num = -1) (h6' : ¬ k = 6 → q = -1) : Inv (addF S k c h s m num q).2 := by
  obtain ⟨hI, hT, hO, hS, hB, hP, hA⟩ := hV
  have sa := SA.add (k := k) (c := c) (h := h) (s := s) (m := m) (n := num) (q := q) hI
  exact ⟨hI.add hn hk hcl hh hs h6 h4 h5 h1 h3 h3' h6', hT.sa sa rfl rfl, hO.add hI hn, hS.sa sa (by decide) rfl, hB.sa sa rfl, hP.sa sa (by decide) rfl, hA.sa sa rfl⟩
theorem Inv.copied {S : SS} (h : Inv S) (r x : Int32) : Inv (copiedF S r x).2 := by
  unfold copiedF
  split
  · rename_i c1
    split
    · rename_i c2
      split
      · exact h
      · rename_i c3
        split
        · exact h
        · rename_i c4
          have hI := h.1
          have vr := hI.isRd c1
          have hlr := vp_lt vr
          obtain ⟨d1, d2, d3, d4, -⟩ := hI.rn hlr
          exact h.addR (lt90 hI c4) (by decide) d2 d3 c2 (fun _ => ⟨vr, c3, rfl, rfl⟩) (fun y => absurd y (by decide)) (fun y => absurd y (by decide)) (fun y => y.elim (fun y => absurd y (by decide)) (fun y => absurd y (by decide))) (fun y => y.elim (fun y => absurd y (by decide)) (fun y => y.elim (fun y => absurd y (by decide)) (fun y => absurd y (by decide)))) (fun _ => rfl) (fun y => absurd rfl y)
    · exact h
  · exact h
theorem inP_k {k : Int32} (h : inP k 1 5) : inP k 1 6 ∧ ¬ k = 6 := by
  have e1 : (1 : Int32).toInt = 1 := by decide
  have e5 : (5 : Int32).toInt = 5 := by decide
  have e6 : (6 : Int32).toInt = 6 := by decide
  simp only [inP_iff, fa_lt, e1, e5, e6] at h ⊢
  refine ⟨by omega, fun y => ?_⟩
  rw [y, e6] at h
  omega
theorem Inv.reading {S : SS} (h : Inv S) (k c x s m : Int32) : Inv (readingF S k c x s m).2 := by
  unfold readingF
  split
  · rename_i c1
    split
    · rename_i c2
      split
      · exact h
      · rename_i c3
        have hI := h.1
        obtain ⟨k1, k2, k3⟩ := c2
        obtain ⟨k4, k5⟩ := inP_k k1
        have e0 : (0 : Int32).toInt = 0 := by decide
        have e1 : (1 : Int32).toInt = 1 := by decide
        have e4 : (4 : Int32).toInt = 4 := by decide
        have e500 : (500 : Int32).toInt = 500 := by decide
        have e401 : (401 : Int32).toInt = 401 := by decide
        have e599 : (599 : Int32).toInt = 599 := by decide
        have e99 : (99 : Int32).toInt = 99 := by decide
        have e99' : (-99 : Int32).toInt = -99 := by decide
        have e1000 : (1000 : Int32).toInt = 1000 := by decide
        have e4999 : (4999 : Int32).toInt = 4999 := by decide
        have e9 : (999999 : Int32).toInt = 999999 := by decide
        have m5 : k = 5 → inP (m / 1000) 1 4 ∧ inP ((m - m / 1000 * 1000) - 500) (-99) 99 := fun y => by
          unfold moreP at k3
          rw [if_neg (by rw [y]; decide), if_neg (by rw [y]; decide), if_pos y] at k3
          simp only [inP_iff, fa_lt, e1, e4, e401, e599, e1000, e4999, e99, e99'] at k3 ⊢
          have d := div_t (a := m) (b := 1000) (by decide)
          rw [e1000, Int.tdiv_eq_ediv_of_nonneg (by omega)] at d
          rw [d]
          rw [fb_subI (x := m - m / 1000 * 1000) (y := 500) (by rw [e500]; omega) (by rw [e500]; omega), e500]
          omega
        refine h.addR (lt90 hI c3) k4 (hI.isCl c1.1) c1.2 k2 (fun y => absurd y k5) (fun y => ?_) (fun y => ?_) (fun y => ?_) (fun y => ?_) (fun y => ?_) (fun _ => rfl)
        · rw [if_neg (by rw [y]; decide)]
          unfold moreP at k3
          rw [if_neg (by rw [y]; decide), if_pos y] at k3
          simp only [inP_iff, fa_lt, e0, e9] at k2 k3 ⊢
          omega
        · rw [if_pos y]
          exact (m5 y).2
        · have n3 : ¬ k = 3 := fun q => y.elim (fun y => by rw [q] at y; exact absurd y (by decide)) (fun y => by rw [q] at y; exact absurd y (by decide))
          have n4 : ¬ k = 4 := fun q => y.elim (fun y => by rw [q] at y; exact absurd y (by decide)) (fun y => by rw [q] at y; exact absurd y (by decide))
          have n5 : ¬ k = 5 := fun q => y.elim (fun y => by rw [q] at y; exact absurd y (by decide)) (fun y => by rw [q] at y; exact absurd y (by decide))
          unfold moreP at k3
          rw [if_neg n3, if_neg n4, if_neg n5] at k3
          rw [if_neg n5]
          exact k3
        · rcases y with y | y | y
          · rw [if_pos y]
            unfold moreP at k3
            rw [if_pos y] at k3
            exact k3
          · rw [if_neg (by rw [y]; decide), if_pos y]
            decide
          · rw [if_neg (by rw [y]; decide), if_neg (by rw [y]; decide), if_pos y]
            exact (m5 y).1
        · rw [if_neg (fun q => y (Or.inl q)), if_neg (fun q => y (Or.inr (Or.inl q))), if_neg (fun q => y (Or.inr (Or.inr q)))]
    · exact h
  · exact h
theorem Inv.number {S : SS} (h : Inv S) (r n : Int32) : Inv (numberF S r n).2 := by
  unfold numberF
  split
  · rename_i c1
    split
    · rename_i c2
      split
      · rename_i c3
        obtain ⟨hI, hT, hO, hS, hB, hP, hA⟩ := h
        dsimp only
        have vr := hI.isRd c1
        have c4 : S 120 r.toNatClampNeg = 4 := by
          by_cases y : 0 < gS S 129 r
          · rw [kNow, if_pos y] at c2
            exact absurd c2 (by decide)
          · rw [kNow, if_neg y] at c2
            exact c2
        have sa : SA (tl [125]) (tl []) S (up2 S 125 r.toNatClampNeg n) := (SA.rf _ _ S).wa _ _ (by decide) rfl
        have e1 : nSt (up2 S 125 r.toNatClampNeg n) = nSt S := by simp only [nSt, sa.k (j := 1) rfl]
        have e2 : nCl (up2 S 125 r.toNatClampNeg n) = nCl S := by simp only [nCl, sa.k (j := 2) rfl]
        refine ⟨hI.of (n_same (sa.k rfl) hI.1) (n_same (sa.k rfl) hI.2.1) (sa.k rfl) (n_same (sa.k rfl) hI.2.2.2.1) (n_same (sa.k rfl) hI.2.2.2.2.1) (n_same (sa.k rfl) hI.2.2.2.2.2.1) (n_same (sa.k rfl) hI.2.2.2.2.2.2.1) (by rw [sa.k rfl]; exact hI.2.2.2.2.2.2.2.1) (fun c hlc => ?_) (fun p hp => ?_), hT.sa sa rfl rfl, hO.sa sa (by decide) (by decide), hS.sa sa (by decide) rfl, hB.sa sa rfl, hP.sa sa (by decide) rfl, hA.sa sa rfl⟩
        · rw [e2] at hlc
          rw [e1, sa.a (s := 118) (by decide) rfl, sa.a (s := 119) (by decide) rfl]
          exact hI.c hlc
        · obtain ⟨d1, d2, d3, d4, d5, d6, d7, d8, d9, d10, d11, d12, d13⟩ := hI.rn hp
          unfold RdN
          rw [e2, sa.a (s := 120) (by decide) rfl, sa.a (s := 121) (by decide) rfl, sa.a (s := 122) (by decide) rfl, sa.a (s := 123) (by decide) rfl, sa.a (s := 124) (by decide) rfl, sa.a (s := 127) (by decide) rfl, sa.a (s := 129) (by decide) rfl, up2_at]
          refine ⟨d1, d2, d3, d4, d5, d6, d7, d8, fun y => ?_, fun y => ?_, d11, d12, d13⟩
          · split
            · exact c3
            · exact d9 y
          · split
            · rename_i e
              rw [e] at y
              exact absurd (Or.inr (Or.inl c4)) y
            · exact d10 y
      · exact h
    · exact h
  · exact h
theorem gon_w {S : SS} {r : Nat} {x : Int32} (h0 : ¬ 0 < S 129 r) (h1 : 0 < x) : ∀ n, gon (up2 S 129 r x) n = gon S n + (if r < n then 1 else 0)
  | 0 => rfl
  | n + 1 => by
    rw [gon_s, gon_s, gon_w h0 h1 n, up2_at]
    by_cases e : n = r
    · subst e
      rw [if_pos rfl, if_pos h1, if_neg (Nat.lt_irrefl n), if_pos (Nat.lt_succ_self n), if_neg h0]
    · rw [if_neg e]
      by_cases y : r < n
      · rw [if_pos y, if_pos (show r < n + 1 from Nat.lt_succ_of_lt y)]
        omega
      · rw [if_neg y, if_neg (show ¬ r < n + 1 from fun q => by omega)]
        rfl
theorem pos_nI {n : Nat} (h : 1 ≤ n) (hn : n < 1000) : (0 : Int32) < nI n := by
  rw [show (0 : Int32) = nI 0 from rfl]
  exact (c_lt (by omega) hn).mpr (by omega)
theorem Inv.withdraw {S : SS} (h : Inv S) (r : Int32) : Inv (withdrawF S r).2 := by
  unfold withdrawF
  split
  · rename_i c1
    split
    · exact h
    · rename_i c2
      obtain ⟨hI, hT, hO, hS, hB, hP, hA⟩ := h
      dsimp only
      have vr := hI.isRd c1
      have hlr := vp_lt vr
      have c2' : ¬ 0 < S 129 r.toNatClampNeg := c2
      generalize r.toNatClampNeg = r' at *
      have o240 := ordC_le hI
      obtain ⟨o1, o2, o3, o4, o5⟩ := hO
      have ex : S 12 3 + 1 = nI (ordC S + 1) := by rw [o1, nI_1]
      rw [ex]
      have px := pos_nI (n := ordC S + 1) (by omega) (by omega)
      have sa : SA (tl [129]) (tl [3]) S (up2 (up2 S 12 3 (nI (ordC S + 1))) 129 r' (nI (ordC S + 1))) := ((SA.rf _ _ S).wk _ _ rfl).wa _ _ (by decide) rfl
      have s129 : ∀ p, (up2 (up2 S 12 3 (nI (ordC S + 1))) 129 r' (nI (ordC S + 1))) 129 p = if p = r' then nI (ordC S + 1) else S 129 p := fun p => by rw [up2_at, up2_s _ _ _ (show 129 ≠ 12 by decide)]
      have s3 : (up2 (up2 S 12 3 (nI (ordC S + 1))) 129 r' (nI (ordC S + 1))) 12 3 = nI (ordC S + 1) := by rw [up2_s _ _ _ (show 12 ≠ 129 by decide), up2_eq]
      have eg : gon (up2 (up2 S 12 3 (nI (ordC S + 1))) 129 r' (nI (ordC S + 1))) (nRd S) = gon S (nRd S) + 1 := by
        have e3 : ∀ p, (up2 S 12 3 (nI (ordC S + 1))) 129 p = S 129 p := fun p => by rw [up2_s _ _ _ (show 129 ≠ 12 by decide)]
        rw [gon_w (by rw [e3]; exact c2') px, if_pos hlr, gon_cn (S := S) (nRd S) (fun p _ => e3 p)]
      generalize (up2 (up2 S 12 3 (nI (ordC S + 1))) 129 r' (nI (ordC S + 1))) = S' at *
      have e1 : nSt S' = nSt S := by simp only [nSt, sa.k (j := 1) rfl]
      have e2 : nCl S' = nCl S := by simp only [nCl, sa.k (j := 2) rfl]
      have e8 : nRd S' = nRd S := by simp only [nRd, sa.k (j := 8) rfl]
      have e20 : nLe S' = nLe S := by simp only [nLe, sa.k (j := 20) rfl]
      have eo : ordC S' = ordC S + 1 := by
        unfold ordC
        rw [e8, e20, eg]
        omega
      refine ⟨hI.of (n_same (sa.k rfl) hI.1) (n_same (sa.k rfl) hI.2.1) (sa.k rfl) (n_same (sa.k rfl) hI.2.2.2.1) (n_same (sa.k rfl) hI.2.2.2.2.1) (n_same (sa.k rfl) hI.2.2.2.2.2.1) (n_same (sa.k rfl) hI.2.2.2.2.2.2.1) (by rw [sa.k rfl]; exact hI.2.2.2.2.2.2.2.1) (fun c hlc => ?_) (fun p hp => ?_), hT.sa sa rfl rfl, ⟨by rw [s3, eo], fun p hp => ?_, fun k hk => ?_, fun p k hp hk => ?_, fun p hp hg => ?_⟩, hS.sa sa (by decide) rfl, hB.sa sa rfl, hP.sa sa (by decide) rfl, hA.sa sa rfl⟩
      · rw [e2] at hlc
        rw [e1, sa.a (s := 118) (by decide) rfl, sa.a (s := 119) (by decide) rfl]
        exact hI.c hlc
      · obtain ⟨d1, d2, d3, d4, d5, d6, d7, d8, d9, d10, d11, d12, d13⟩ := hI.rn hp
        unfold RdN
        rw [e2, sa.a (s := 120) (by decide) rfl, sa.a (s := 121) (by decide) rfl, sa.a (s := 122) (by decide) rfl, sa.a (s := 123) (by decide) rfl, sa.a (s := 124) (by decide) rfl, sa.a (s := 125) (by decide) rfl, sa.a (s := 127) (by decide) rfl, s129]
        refine ⟨d1, d2, d3, d4, d5, d6, d7, d8, d9, d10, d11, d12, ?_⟩
        split
        · exact neg_nn (by omega)
        · exact d13
      · rw [e8] at hp
        rw [sa.a (s := 128) (by decide) rfl, eo]
        obtain ⟨a, h1, h2, h3⟩ := o2 p hp
        exact ⟨a, h1, h2, by omega⟩
      · rw [e20] at hk
        rw [sa.a (s := 133) (by decide) rfl, eo]
        obtain ⟨b, h1, h2, h3⟩ := o3 k hk
        exact ⟨b, h1, h2, by omega⟩
      · rw [e8] at hp
        rw [e20] at hk
        rw [sa.a (s := 133) (by decide) rfl, sa.a (s := 128) (by decide) rfl]
        exact o4 p k hp hk
      · rw [e8] at hp
        rw [s129] at hg ⊢
        rw [sa.a (s := 128) (by decide) rfl, eo]
        by_cases e : p = r'
        · rw [if_pos e]
          obtain ⟨a, h1, h2, h3⟩ := o2 p hp
          refine ⟨_, rfl, by omega, ?_⟩
          rw [h1]
          exact (c_lt (by omega) (by omega)).mpr (by omega)
        · rw [if_neg e] at hg ⊢
          obtain ⟨g, h1, h2, h3⟩ := o5 p hp hg
          exact ⟨g, h1, by omega, h3⟩
  · exact h
theorem Inv.letter {S : SS} (h : Inv S) (s b n : Int32) : Inv (letterF S s b n).2 := by
  unfold letterF
  split
  · split
    · split
      · exact h
      · rename_i c3
        obtain ⟨hI, hT, hO, hS, hB, hP, hA⟩ := h
        dsimp only
        have l60 := hI.l20
        have hlt : nLe S < 60 := by
          have : ¬ nLe S = 60 := fun y => c3 (by rw [hI.n20, y]; decide)
          omega
        have o240 := ordC_le hI
        obtain ⟨o1, o2, o3, o4, o5⟩ := hO
        have ep : (S 12 20).toNatClampNeg = nLe S := rfl
        have ex : S 12 3 + 1 = nI (ordC S + 1) := by rw [o1, nI_1]
        have e20x : S 12 20 + 1 = nI (nLe S + 1) := by rw [hI.n20, nI_1]
        rw [ep, ex, e20x]
        have sa : SA (tl [130, 131, 132, 133]) (tl [3, 20]) S (up2 (up2 (up2 (up2 (up2 (up2 S 130 (nLe S) s) 131 (nLe S) b) 132 (nLe S) (S 12 0 + n)) 12 3 (nI (ordC S + 1))) 133 (nLe S) (nI (ordC S + 1))) 12 20 (nI (nLe S + 1))) := ((((((SA.rf _ _ S).wa _ _ (by decide) rfl).wa _ _ (by decide) rfl).wa _ _ (by decide) rfl).wk _ _ rfl).wa _ _ (by decide) rfl).wk _ _ rfl
        have s133 : ∀ p, (up2 (up2 (up2 (up2 (up2 (up2 S 130 (nLe S) s) 131 (nLe S) b) 132 (nLe S) (S 12 0 + n)) 12 3 (nI (ordC S + 1))) 133 (nLe S) (nI (ordC S + 1))) 12 20 (nI (nLe S + 1))) 133 p = if p = nLe S then nI (ordC S + 1) else S 133 p := fun p => by rw [up2_s _ _ _ (show 133 ≠ 12 by decide), up2_at, up2_s _ _ _ (show 133 ≠ 12 by decide), up2_s _ _ _ (show 133 ≠ 132 by decide), up2_s _ _ _ (show 133 ≠ 131 by decide), up2_s _ _ _ (show 133 ≠ 130 by decide)]
        have s20 : (up2 (up2 (up2 (up2 (up2 (up2 S 130 (nLe S) s) 131 (nLe S) b) 132 (nLe S) (S 12 0 + n)) 12 3 (nI (ordC S + 1))) 133 (nLe S) (nI (ordC S + 1))) 12 20 (nI (nLe S + 1))) 12 20 = nI (nLe S + 1) := up2_eq _ _ _ _
        have s3 : (up2 (up2 (up2 (up2 (up2 (up2 S 130 (nLe S) s) 131 (nLe S) b) 132 (nLe S) (S 12 0 + n)) 12 3 (nI (ordC S + 1))) 133 (nLe S) (nI (ordC S + 1))) 12 20 (nI (nLe S + 1))) 12 3 = nI (ordC S + 1) := by rw [up2_k _ _ _ (show 3 ≠ 20 by decide), up2_s _ _ _ (show 12 ≠ 133 by decide), up2_eq]
        generalize (up2 (up2 (up2 (up2 (up2 (up2 S 130 (nLe S) s) 131 (nLe S) b) 132 (nLe S) (S 12 0 + n)) 12 3 (nI (ordC S + 1))) 133 (nLe S) (nI (ordC S + 1))) 12 20 (nI (nLe S + 1))) = S' at *
        have e8 : nRd S' = nRd S := by simp only [nRd, sa.k (j := 8) rfl]
        have e20 : nLe S' = nLe S + 1 := by
          show (S' 12 20).toNatClampNeg = _
          rw [s20, nI_clamp (by omega)]
        have eo : ordC S' = ordC S + 1 := by
          unfold ordC
          rw [e8, e20, gon_cg (sa.a (s := 129) (by decide) rfl)]
          omega
        refine ⟨hI.wr (j0 := 20) (fun s hs => sa.a (by revert s; decide) (by revert s; decide)) (by decide) (fun j hj h0 => sa.k (by revert j; decide)) (fun y => absurd y (by decide)) (fun _ => ⟨by rw [s20, e20], by omega⟩) (fun y => absurd y (by decide)) (fun y => absurd y (by decide)) (fun y => absurd y (by decide)) (fun y => absurd y (by decide)), hT.sa sa rfl rfl, ⟨by rw [s3, eo], fun p hp => ?_, fun k hk => ?_, fun p k hp hk => ?_, fun p hp hg => ?_⟩, hS.sa sa (by decide) rfl, hB.sa sa rfl, hP.sa sa (by decide) rfl, hA.sa sa rfl⟩
        · rw [e8] at hp
          rw [sa.a (s := 128) (by decide) rfl, eo]
          obtain ⟨a, h1, h2, h3⟩ := o2 p hp
          exact ⟨a, h1, h2, by omega⟩
        · rw [e20] at hk
          rw [s133, eo]
          by_cases e : k = nLe S
          · rw [if_pos e]
            exact ⟨_, rfl, by omega, by omega⟩
          · rw [if_neg e]
            obtain ⟨b, h1, h2, h3⟩ := o3 k (by omega)
            exact ⟨b, h1, h2, by omega⟩
        · rw [e8] at hp
          rw [e20] at hk
          rw [s133, sa.a (s := 128) (by decide) rfl]
          by_cases e : k = nLe S
          · rw [if_pos e]
            obtain ⟨a, h1, h2, h3⟩ := o2 p hp
            rw [h1]
            intro y
            have := nI_inj (by omega) (by omega) y
            omega
          · rw [if_neg e]
            exact o4 p k hp (by omega)
        · rw [e8] at hp
          rw [sa.a (s := 129) (by decide) rfl] at hg ⊢
          rw [sa.a (s := 128) (by decide) rfl, eo]
          obtain ⟨g, h1, h2, h3⟩ := o5 p hp hg
          exact ⟨g, h1, by omega, h3⟩
    · exact h
  · exact h
theorem Inv.k19 {S : SS} (h : Inv S) (x : Int32) : Inv (up2 S 12 19 x) := by
  obtain ⟨hI, hT, hO, hS, hB, hP, hA⟩ := h
  have sa : SA (tl []) (tl [19]) S (up2 S 12 19 x) := (SA.rf _ _ S).wk _ _ rfl
  exact ⟨hI.k19 x, hT.sa sa rfl rfl, hO.sa sa (by decide) (by decide), hS.sa sa (by decide) rfl, hB.sa sa rfl, hP.sa sa (by decide) rfl, hA.sa sa rfl⟩
theorem Inv.bk {S : SS} {c h f i : Int32} {t k : Nat} (hV : Inv S) (hcl : vp_in c (nCl S)) (hh : inP h 0 5) (hf : inP f 1 4) (hk : k < 40) : Inv (bkS c h f t i k S) := by
  unfold bkS
  split
  · exact hV.k19 _
  · split
    · exact hV.k19 _
    · split
      · exact hV
      · split
        · exact hV.k19 _
        · rename_i c4
          split
          · exact hV.k19 _
          · rename_i c5
            exact hV.addR (lt90 hV.1 c5) (by decide) hcl hh (Classical.not_not.mp c4) (fun y => absurd y (by decide)) (fun y => absurd y (by decide)) (fun y => absurd y (by decide)) (fun y => y.elim (fun y => absurd y (by decide)) (fun y => absurd y (by decide))) (fun _ => numE_ok hf hk) (fun y => absurd (Or.inl rfl) y) (fun _ => rfl)
theorem Inv.bkL {c h f i : Int32} {t : Nat} (hh : inP h 0 5) (hf : inP f 1 4) : ∀ (n k : Nat) (S : SS), k + n ≤ 40 → Inv S → vp_in c (nCl S) → Inv (bkL c h f t i n k S)
  | 0, _, S, _, hV, _ => hV
  | n + 1, k, S, hk, hV, hcl => by
    unfold CSpotTimersLaw_law_r3327_87c8ce.bkL
    split
    · have sa := SA.bk (c := c) (h := h) (f := f) (t := t) (i := i) (k := k) hV.1
      exact Inv.bkL hh hf n (k + 1) _ (by omega) (hV.bk hcl hh hf (by omega)) (by simp only [nCl, sa.k (j := 2) rfl]; exact hcl)
    · exact hV
theorem Inv.book {S : SS} (hV : Inv S) (c h f t i n : Int32) : Inv (bookF S c h f t i n).2 := by
  unfold bookF
  split
  · rename_i c1
    split
    · rename_i c2
      split
      · exact hV
      · have v := hV.1.isCl c1.1
        have e2 : nCl (up2 S 12 19 0) = nCl S := by simp only [nCl, up2_k S 12 0 (show 2 ≠ 19 by decide)]
        exact Inv.bkL c1.2.1 c2.1 _ 0 _ (by have := (bk_n c2.2).2; omega) (hV.k19 0) (by rw [e2]; exact v)
    · exact hV
  · exact hV
