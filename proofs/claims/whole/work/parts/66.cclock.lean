/-! ===== the class: clocks ===== -/
/-- the clocks that are there are as they were -/
def CkE (S S' : SS) : Prop := (∀ s, s ∈ [116, 117, 120, 121, 122, 123, 124, 125, 126, 127, 128, 129, 146] → S' s = S s) ∧ S' 12 8 = S 12 8 ∧ S' 12 1 = S 12 1 ∧ ∀ c, c < nCl S → S' 118 c = S 118 c ∧ S' 119 c = S 119 c
theorem CkE.star {S S' : SS} (h : CkE S S') {c : Nat} (hc : c < nCl S) (hc2 : c < 1000) (r : Int32) : isStar S' r (nI c) ↔ isStar S r (nI c) := by
  have g1 : gS S 119 (nI c) = S 119 c := gS_nI S 119 (by omega)
  have g2 : gS S' 119 (nI c) = S' 119 c := gS_nI S' 119 (by omega)
  unfold isStar
  rw [g1, g2, (h.2.2.2 c hc).2]
  simp only [gS, h.1 120 (by decide), h.1 121 (by decide), h.1 123 (by decide), h.1 129 (by decide)]
theorem CkE.sb {S S' : SS} (h : CkE S S') {c : Nat} (hc : c < nCl S) (hc2 : c < 1000) (x : Int32) : ∀ n, sbl S' (nI c) x n = sbl S (nI c) x n
  | 0 => rfl
  | r + 1 => by
    have hs := h.star hc hc2 (nI r)
    have ih := CkE.sb h hc hc2 x r
    unfold sbl
    rw [ih]
    simp only [gS, h.1 123 (by decide), hs]
theorem CkE.sa {S S' : SS} (h : CkE S S') {c : Nat} (hc : c < nCl S) (hc2 : c < 1000) (x : Int32) : ∀ n, sab S' (nI c) x n = sab S (nI c) x n
  | 0 => rfl
  | r + 1 => by
    have hs := h.star hc hc2 (nI r)
    have ih := CkE.sa h hc hc2 x r
    unfold sab
    rw [ih]
    simp only [gS, h.1 123 (by decide), hs]
theorem CkE.tm {S S' : SS} (h : CkE S S') {c : Nat} (hc : c < nCl S) (hc2 : c < 1000) (t : Int32) : tmF S' (nI c) t = tmF S (nI c) t := by
  have g1 : gS S 119 (nI c) = S 119 c := gS_nI S 119 (by omega)
  have g2 : gS S' 119 (nI c) = S' 119 c := gS_nI S' 119 (by omega)
  have e2 : ∀ a, gS S' 123 a = gS S 123 a := fun a => by simp only [gS, h.1 123 (by decide)]
  have e3 : ∀ a, gS S' 124 a = gS S 124 a := fun a => by simp only [gS, h.1 124 (by decide)]
  have e4 : ∀ a b, tmV S' t a b = tmV S t a b := fun a b => by simp only [tmV, e2, e3]
  have e5 : nRd S' = nRd S := by simp only [nRd, h.2.1]
  unfold tmF
  simp only [g1, g2, (h.2.2.2 c hc).2, e2, e4, e5, h.sb hc hc2, h.sa hc hc2]
theorem CkE.lonA {S S' : SS} (h : CkE S S') (hI : SInv S) (s : Int32) : ∀ k, k ≤ nRd S → lonA S' s k = lonA S s k
  | 0, _ => rfl
  | k + 1, hk => by
    have h90 := hI.l8
    have h12 := hI.l2
    have ih := CkE.lonA h hI s k (by omega)
    have j2 := (hI.r (r := k) (by omega)).2.1
    have hc := vp_lt j2
    have ec : S 121 k = nI (S 121 k).toNatClampNeg := nI_of_nn (vp_nn j2)
    have e : ∀ q, q ∈ [120, 121, 123, 124, 129] → gS S' q (nI k) = S q k := fun q hq => by
      rw [gS_nI S' q (by omega), h.1 q (by revert q; decide)]
    have e' : ∀ q, gS S q (nI k) = S q k := fun q => gS_nI S q (by omega)
    have e118 : gS S' 118 (S 121 k) = gS S 118 (S 121 k) := (h.2.2.2 _ hc).1
    have et : ∀ t, tmF S' (S 121 k) t = tmF S (S 121 k) t := fun t => by
      rw [ec]
      exact h.tm hc (by omega) t
    unfold CSpotTimersLaw_law_r3327_87c8ce.lonA
    simp only [e 120 (by decide), e 121 (by decide), e 123 (by decide), e 124 (by decide), e 129 (by decide), e', e118, et, ih]
theorem CkE.lon {S S' : SS} (h : CkE S S') (hI : SInv S) (s : Int32) : lonF S' s = lonF S s := by
  have e5 : nRd S' = nRd S := by simp only [nRd, h.2.1]
  unfold lonF
  rw [e5, h.lonA hI s _ (Nat.le_refl _)]
  simp only [gS, h.1 116 (by decide)]
theorem sp_X10_clock {d : Nat} {s : Int32} {S : SS} {ρ : List Nat} {σ : XH} {Q : XV → XH → Prop} (hd : 7 ≤ d) (hB : CBase σ S ρ) (hI : SInv S) (h : ∀ σ', Fr (tl [2, 101, 102, 0, 410, 411]) σ σ' → LL σ' (EL (clockF S s).2 ρ) → CSt σ' (clockF S s).2 → CCl σ' (clockF S s).2 → Q (vI (clockF S s).1) σ') : Ec d 4 386 m_X10_clock [vR (some (11, 0)), vI s] σ Q := by
  obtain ⟨hX, hL, hS, hC, hR⟩ := hB
  unfold clockF at h
  have h12 := hI.l2
  have h11 := hI.l1
  have h90 := hI.l8
  have l1 := (EL_len S ρ).2.1
  refine Ec_of mo_X10_clock.1 (Nat.le_of_ble_eq_true rfl) ?_
  refine sX10_clock_0 ?_
  unfold bX10_clock_0
  refine ⟨by omega, sp_X10_stationAt (by omega) hX hL hI.n1 (by omega) (fun w hw eq z => br_f some_ne ⟨hX.k11_1, by omega, sp_size (by omega) hL ?_⟩) (fun z => br_t rfl ?_)⟩
  · subst eq
    rw [if_pos z] at h
    rw [l1]
    have e12 : (12 : Int32) = nI 12 := by decide
    refine ⟨fun c9 => ⟨hX.k11_1, by omega, by omega, ?_⟩, fun c9 => ?_⟩
    · rw [e12] at c9
      have hlt := (c_lt (by omega) (by omega)).mp c9
      have n9 : ¬ S 12 2 = 12 := fun y => by
        rw [hI.n2, e12] at y
        have := nI_inj (by omega) (by omega) y
        omega
      have ei : (S 12 2).toNatClampNeg = nCl S := rfl
      rw [if_neg n9, ei] at h
      dsimp only at h
      intro g0 e0
      have hL0 : LL g0 (EL S ρ) := hL.fr (T := tl [2]) (by rw [e0]; exact Fr.nwO (Fr.rf _ _) (by decide)) rfl rfl rfl rfl
      refine ⟨by rw [e0]; exact hX.k11_1, by omega, sp_size (by omega) hL0 ?_⟩
      rw [l1, hC.1]
      refine ⟨by omega, by omega, by omega, ?_⟩
      refine Ec_of mo_X1_init.1 (Nat.le_of_ble_eq_true rfl) ?_
      refine sX1_init_0 ?_
      refine ⟨by omega, by decide, by decide, by decide, by decide, ?_⟩
      rw [show (90 : Int32).toNatClampNeg = 90 by decide]
      intro a1 f1
      have ec : hc g0 101 = nCl S := by rw [e0]; exact hC.2.1
      rw [ec]
      intro a2 f2
      refine ⟨by decide, by decide, by decide, by decide, ?_⟩
      intro a3 f3
      have ec2 : hc a2 102 = nCl S := by
        rw [f2, hc_wR, f1, hc_nwA, if_neg (by decide), e0]
        exact hC.2.2.1
      rw [ec2]
      intro a4 f4 a5 f5 a6 f6 a7 f7 a8 f8
      refine sX1_init_41 ?_
      have hF : Fr (tl [2, 101, 102]) σ a8 := by
        rw [f8, f7, f6, f5, f4, f3, f2, f1, e0]
        exact Fr.wR (Fr.wI (Fr.wI (Fr.wI (Fr.wR (Fr.nwA (Fr.wR (Fr.nwA (Fr.nwO (Fr.rf _ _) (by decide)) (by decide) _) (by decide) _ _ _) (by decide) _) (by decide) _ _ _) (by decide) _ _ _) (by decide) _ _ _) (by decide) _ _ _) (by decide) _ _ _
      have hra : ∀ p j, hr a8 2 p j = if p = nCl S ∧ j = 1 then some (8, w) else if p = nCl S ∧ j = 3 then some (102, nCl S) else if p = nCl S ∧ j = 2 then some (101, nCl S) else hr σ 2 p j := fun p j => by
        rw [f8, hr_wR_at, f7, hr_wI, f6, hr_wI, f5, hr_wI, f4, hr_wR_at, f3, hr_nwA, f2, hr_wR_at, f1, hr_nwA, e0, hr_nwO]
      have hia : ∀ p j, hi a8 2 p j = if p = nCl S ∧ j = 0 then nI (nCl S) else if p = nCl S ∧ j = 5 then -1000000000 else if p = nCl S ∧ j = 4 then 0 else hi σ 2 p j := fun p j => by
        rw [f8, hi_wR, f7, hi_wI_at, f6, hi_wI_at, f5, hi_wI_at, f4, hi_wR, f3, hi_nwA, f2, hi_wR, f1, hi_nwA, e0, hi_nwO]
      have h101 : hi a8 101 = hi σ 101 := by
        rw [f8, hi_wR, f7, hi_wI_ne _ _ _ _ (by decide), f6, hi_wI_ne _ _ _ _ (by decide), f5, hi_wI_ne _ _ _ _ (by decide), f4, hi_wR, f3, hi_nwA, f2, hi_wR, f1, hi_nwA, e0, hi_nwO]
      have h102 : hi a8 102 = hi σ 102 := by
        rw [f8, hi_wR, f7, hi_wI_ne _ _ _ _ (by decide), f6, hi_wI_ne _ _ _ _ (by decide), f5, hi_wI_ne _ _ _ _ (by decide), f4, hi_wR, f3, hi_nwA, f2, hi_wR, f1, hi_nwA, e0, hi_nwO]
      have n101 : ∀ p, hn a8 101 p = if p = nCl S then 90 else hn σ 101 p := fun p => by
        rw [f8, hn_wR, f7, hn_wI, f6, hn_wI, f5, hn_wI, f4, hn_wR, f3, hn_nwA, if_neg (fun y => absurd y.1 (by decide)), f2, hn_wR, f1, hn_nwA, ec, e0, hn_nwO]
        by_cases y : p = nCl S
        · rw [if_pos ⟨rfl, y⟩, if_pos y]
        · rw [if_neg (fun w => y w.2), if_neg y]
      have n102 : ∀ p, hn a8 102 p = if p = nCl S then 90 else hn σ 102 p := fun p => by
        rw [f8, hn_wR, f7, hn_wI, f6, hn_wI, f5, hn_wI, f4, hn_wR, f3, hn_nwA, ec2, f2, hn_wR, f1, hn_nwA, e0, hn_nwO]
        by_cases y : p = nCl S
        · rw [if_pos ⟨rfl, y⟩, if_pos y]
        · rw [if_neg (fun w => y w.2), if_neg (fun w => absurd w.1 (by decide)), if_neg y]
      have hca : hc a8 2 = hc σ 2 + 1 ∧ hc a8 101 = hc σ 101 + 1 ∧ hc a8 102 = hc σ 102 + 1 := by
        refine ⟨?_, ?_, ?_⟩ <;> simp only [f8, hc_wR, f7, hc_wI, f6, f5, f4, f3, hc_nwA, f2, f1, e0, hc_nwO, Nat.reduceEqDiff, if_true, if_false, reduceIte]
      have hL3 : LL a8 (EL S ρ) := hL.fr hF rfl rfl rfl rfl
      refine ⟨by omega, by omega, by omega, ?_⟩
      refine sp_add (by omega) (by omega) (show 2 < 13 by omega) hL3 (by rw [l1]; omega) ?_
      intro σ' k1 k2
      generalize hS' : up2 (up2 (up2 S 118 (nCl S) (nI w)) 119 (nCl S) (-1)) 12 2 (S 12 2 + 1) = S' at h
      have s2 : S' 12 2 = nI (nCl S + 1) := by rw [← hS', up2_eq, hI.n2, nI_1]
      have en : nCl S' = nCl S + 1 := by
        show (S' 12 2).toNatClampNeg = _
        rw [s2, nI_clamp (by omega)]
      have sk : ∀ j, j ≠ 2 → S' 12 j = S 12 j := fun j hj => by rw [← hS', up2_k _ _ _ hj, up2_s _ _ _ (show 12 ≠ 119 by decide), up2_s _ _ _ (show 12 ≠ 118 by decide)]
      have s118 : ∀ p, S' 118 p = if p = nCl S then nI w else S 118 p := fun p => by rw [← hS', up2_s _ _ _ (show 118 ≠ 12 by decide), up2_s _ _ _ (show 118 ≠ 119 by decide), up2_at]
      have s119 : ∀ p, S' 119 p = if p = nCl S then -1 else S 119 p := fun p => by rw [← hS', up2_s _ _ _ (show 119 ≠ 12 by decide), up2_at, up2_s _ _ _ (show 119 ≠ 118 by decide)]
      have so : ∀ t, t ≠ 12 → t ≠ 118 → t ≠ 119 → S' t = S t := fun t h1 h2 h3 => by rw [← hS', up2_s _ _ _ h1, up2_s _ _ _ h3, up2_s _ _ _ h2]
      have hE : CkE S S' := ⟨fun t ht => so t (by revert t; decide) (by revert t; decide) (by revert t; decide), sk 8 (by decide), sk 1 (by decide), fun c hc => ⟨by rw [s118, if_neg (by omega)], by rw [s119, if_neg (by omega)]⟩⟩
      have hL4 : LL σ' (EL S' ρ) := by
        rw [EL_1 (sk 1 (by decide)) (sk 8 (by decide)) (sk 20 (by decide)) (sk 59 (by decide)) en ρ]
        exact k1
      have hF2 : Fr (tl [2, 101, 102, 0, 410, 411]) σ σ' := (hF.sub (tl_sub (by decide))).trans (k2.sub (tl_sub (by decide)))
      have e8 : nRd S' = nRd S := by simp only [nRd, sk 8 (by decide)]
      have e1 : nSt S' = nSt S := by simp only [nSt, sk 1 (by decide)]
      refine sX10_clock_50 ?_
      refine ⟨by rw [hF2.r rfl]; exact hX.k11_1, by omega, sp_size (by omega) hL4 ?_⟩
      rw [(EL_len S' ρ).2.1, en]
      dsimp only [kI]
      rw [nI_pred]
      rw [hI.n2, nI_1, nI_pred] at h
      refine h σ' hF2 hL4 ?_ ⟨?_, ?_, ?_, fun p hp => ?_⟩
      · refine ⟨by rw [hF2.c rfl, e1]; exact hS.1, by rw [hF2.c rfl, e1]; exact hS.2.1, fun p hp => ?_⟩
        rw [e1] at hp
        obtain ⟨w1, w2, w3, w4, w5⟩ := hS.2.2 p hp
        rw [hF2.i (s := 8) rfl, hF2.i (s := 106) rfl, hF2.r (s := 8) rfl, hF2.n (s := 106) rfl, hE.lon hI]
        simp only [so 116 (by decide) (by decide) (by decide), so 117 (by decide) (by decide) (by decide), so 146 (by decide) (by decide) (by decide)]
        exact ⟨w1, w2, w3, w4, w5⟩
      · rw [k2.c rfl, hca.1, hC.1, en]
      · rw [k2.c rfl, hca.2.1, hC.2.1, en]
      · rw [k2.c rfl, hca.2.2, hC.2.2.1, en]
      · rw [en] at hp
        have i2 : hi σ' 2 = hi a8 2 := k2.i rfl
        have i101 : hi σ' 101 = hi σ 101 := (k2.i rfl).trans h101
        have i102 : hi σ' 102 = hi σ 102 := (k2.i rfl).trans h102
        rw [i2, k2.r (s := 2) rfl, k2.n (s := 101) rfl, k2.n (s := 102) rfl]
        by_cases e : p = nCl S
        · simp only [hia, hra, n101, n102, s118, s119, e, true_and, if_true, Nat.reduceEqDiff, if_false, reduceIte]
          refine ⟨by rw [nI_clamp (by omega)], by rw [if_pos nI_neg1], 0, ?_, by omega, fun i j _ hj => by omega, fun i hi_ => by omega, fun r hr_ hs => ?_⟩
          · rw [i2, hia, if_neg (fun y => absurd y.2 (by decide)), if_neg (fun y => absurd y.2 (by decide)), if_pos ⟨rfl, rfl⟩, nI_0]
          · rw [e8] at hr_
            have z := hs.2.2.1
            rw [gS_nI S' 121 (by omega), so 121 (by decide) (by decide) (by decide)] at z
            have := vp_lt (hI.r hr_).2.1
            rw [z, nI_clamp (by omega)] at this
            omega
        · obtain ⟨v0, v1, v2, v3, v4, v5, v6, n, t1, t2, t3, t4, t5⟩ := hC.2.2.2 p (by omega)
          simp only [hia, hra, n101, n102, s118, s119, e, false_and, if_false]
          refine ⟨v0, v1, v2, v3, v4, v5, v6, n, ?_, t2, by rw [i101]; exact t3, fun i hi_ => ?_, fun r hr_ hs => ?_⟩
          · rw [i2, hia, if_neg (fun y => e y.1), if_neg (fun y => e y.1), if_neg (fun y => e y.1)]
            exact t1
          · obtain ⟨r, r1, r2, r3, r4, r5⟩ := t4 i hi_
            refine ⟨r, by rw [e8]; exact r1, (hE.star (by omega) (by omega) _).mpr r2, ?_, ?_, fun r' q1 q2 q3 => ?_⟩
            · rw [so 123 (by decide) (by decide) (by decide), i101]
              exact r3
            · rw [so 124 (by decide) (by decide) (by decide), i102]
              exact r4
            · rw [so 123 (by decide) (by decide) (by decide), i101]
              rw [e8] at q2
              exact r5 r' q1 q2 ((hE.star (by omega) (by omega) _).mp q3)
          · rw [e8] at hr_
            obtain ⟨i, x1, x2⟩ := t5 r hr_ ((hE.star (by omega) (by omega) _).mp hs)
            exact ⟨i, x1, by rw [i101, so 123 (by decide) (by decide) (by decide)]; exact x2⟩
    · have n9 : S 12 2 = 12 := by
        rw [e12] at c9 ⊢
        have := mt (c_lt (n := nCl S) (N := 12) (by omega) (by omega)).mpr c9
        rw [hI.n2, show nCl S = 12 by omega]
      rw [if_pos n9] at h
      exact h σ (Fr.rf _ _) hL hS hC
  · rw [if_neg z] at h
    exact h σ (Fr.rf _ _) hL hS hC
