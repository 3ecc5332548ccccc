/-! ===== the class: places, letters, stations, clocks ===== -/
theorem c_lt {n N : Nat} (hn : n < 1000) (hN : N < 1000) : nI n < nI N ↔ n < N := nI_ltI (by omega) (by omega)
theorem EL_5 {S S' : SS} (h1 : S' 12 1 = S 12 1) (h2 : S' 12 2 = S 12 2) (h8 : S' 12 8 = S 12 8) (h20 : S' 12 20 = S 12 20) (h59 : nPl S' = nPl S + 1) (ρ : List Nat) : EL S' ρ = fun i => if i = 5 then EL S ρ 5 ++ [(4, nPl S)] else if 5 < i then EL S' ρ i else EL S ρ i := by
  funext j
  match j with
  | 0 => simp only [EL, nSt, h1, Nat.reduceEqDiff, Nat.reduceLT, if_false, Nat.not_lt_zero]
  | 1 => simp only [EL, nCl, h2, Nat.reduceEqDiff, Nat.reduceLT, if_false]
  | 2 => simp only [EL, nRd, h8, Nat.reduceEqDiff, Nat.reduceLT, if_false]
  | 3 => simp only [EL, nLe, h20, Nat.reduceEqDiff, Nat.reduceLT, if_false]
  | 4 => simp only [EL, Nat.reduceEqDiff, Nat.reduceLT, if_false]
  | 5 =>
    simp only [if_true]
    show (List.range (nPl S')).map _ = (List.range (nPl S)).map _ ++ _
    rw [h59, List.range_succ, List.map_append]
    rfl
  | j + 6 => rw [if_neg (by omega), if_pos (by omega)]
theorem LL.cg {σ : XH} {E E' : Nat → List XO} (h : LL σ E) (he : ∀ j, j < 6 → E' j = E j) : LL σ E' := by
  obtain ⟨f, h1, h2, h3⟩ := h
  refine ⟨f, h1, fun j hj => ?_, h3⟩
  rw [he j hj]
  exact h2 j hj
theorem sp_X10_place {d : Nat} {l c q : Int32} {S : SS} {ρ : List Nat} {σ : XH} {Q : XV → XH → Prop} (hd : 7 ≤ d) (hX : CFX σ) (hL : LL σ (EL S ρ)) (hI : SInv S) (hP : CPl σ S) (h : ∀ σ', Fr (tl [4, 0, 410, 411]) σ σ' → LL σ' (EL (placeF S l c q).2 ρ) → CPl σ' (placeF S l c q).2 → Q (vI (placeF S l c q).1) σ') : Ec d 2 202 m_X10_place [vR (some (11, 0)), vI l, vI c, vI q] σ Q := by
  unfold placeF at h
  have h9 := hI.l59
  have l5 := (EL_len S ρ).2.2.2.2.2
  have bad : ¬ (inP l (-99) 99 ∧ inP c 0 100 ∧ inP q 0 99) → Ex d 2 202 m_X10_place 31 [vU, vU, vU, vU] [] σ Q := fun z => by
    rw [if_neg z] at h
    refine sX10_place_31 ?_
    exact h σ (Fr.rf _ _) hL hP
  refine Ec_of mo_X10_place.1 (Nat.le_of_ble_eq_true rfl) ?_
  refine sX10_place_0 ?_
  unfold bX10_place_0
  refine ⟨by omega, sp_X10_within (fun z => br_f (by decide) ⟨by omega, ?_⟩) (fun z => br_t rfl (bad (fun y => z y.1)))⟩
  refine sp_X10_within (fun z2 => br_f (by decide) ⟨by omega, ?_⟩) (fun z2 => br_t rfl (bad (fun y => z2 y.2.1)))
  refine sp_X10_within (fun z3 => br_f (by decide) ?_) (fun z3 => br_t rfl (bad (fun y => z3 y.2.2)))
  rw [if_pos ⟨z, z2, z3⟩] at h
  refine ⟨hX.k11_5, by omega, sp_size (by omega) hL ?_⟩
  rw [l5]
  have e9 : (9 : Int32) = nI 9 := by decide
  refine ⟨fun c9 => ⟨hX.k11_5, by omega, by omega, ?_⟩, fun c9 => ?_⟩
  · rw [e9] at c9
    have hlt := (c_lt (by omega) (by omega)).mp c9
    have n9 : ¬ S 12 59 = 9 := fun y => by
      rw [hI.n59, e9] at y
      have := nI_inj (by omega) (by omega) y
      omega
    have ei : (S 12 59).toNatClampNeg = nPl S := rfl
    rw [if_neg n9, ei] at h
    dsimp only at h
    intro g1 e1
    refine ⟨by omega, ?_⟩
    refine Ec_of mo_X3_init.1 (Nat.le_of_ble_eq_true rfl) ?_
    refine sX3_init_0 ?_
    refine ⟨by omega, ?_⟩
    intro g2 e2 g3 e3
    rw [hP.1] at e2 e3
    have hF : Fr (tl [4]) σ g3 := by
      rw [e3, e2, e1]
      exact Fr.wI (Fr.wI (Fr.nwO (Fr.rf _ _) (by decide)) (by decide) _ _ _) (by decide) _ _ _
    have hL3 : LL g3 (EL S ρ) := hL.fr hF rfl rfl rfl rfl
    have i4 : ∀ p j, hi g3 4 p j = if p = nPl S ∧ j = 1 then q else if p = nPl S ∧ j = 0 then c * l * l else hi σ 4 p j := fun p j => by
      rw [e3, hi_wI_at, e2, hi_wI_at, e1]
      rfl
    rw [hP.1]
    refine ⟨by omega, by omega, by omega, ?_⟩
    refine sp_add (by omega) (by omega) (show 4 < 13 by omega) hL3 (by rw [l5]; omega) ?_
    intro σ' k1 k2
    generalize hS' : up2 (up2 (up2 (up2 S 147 (nPl S) l) 148 (nPl S) c) 149 (nPl S) q) 12 59 (S 12 59 + 1) = S' at h
    have s59 : S' 12 59 = nI (nPl S + 1) := by rw [← hS', up2_eq, hI.n59, nI_1]
    have en : nPl S' = nPl S + 1 := by
      show (S' 12 59).toNatClampNeg = _
      rw [s59, nI_clamp (by omega)]
    have sk : ∀ j, j ≠ 59 → S' 12 j = S 12 j := fun j hj => by rw [← hS', up2_k _ _ _ hj, up2_s _ _ _ (show 12 ≠ 149 by decide), up2_s _ _ _ (show 12 ≠ 148 by decide), up2_s _ _ _ (show 12 ≠ 147 by decide)]
    have s147 : ∀ p, S' 147 p = if p = nPl S then l else S 147 p := fun p => by rw [← hS', up2_s _ _ _ (show 147 ≠ 12 by decide), up2_s _ _ _ (show 147 ≠ 149 by decide), up2_s _ _ _ (show 147 ≠ 148 by decide), up2_at]
    have s148 : ∀ p, S' 148 p = if p = nPl S then c else S 148 p := fun p => by rw [← hS', up2_s _ _ _ (show 148 ≠ 12 by decide), up2_s _ _ _ (show 148 ≠ 149 by decide), up2_at, up2_s _ _ _ (show 148 ≠ 147 by decide)]
    have s149 : ∀ p, S' 149 p = if p = nPl S then q else S 149 p := fun p => by rw [← hS', up2_s _ _ _ (show 149 ≠ 12 by decide), up2_at, up2_s _ _ _ (show 149 ≠ 148 by decide), up2_s _ _ _ (show 149 ≠ 147 by decide)]
    have hL4 : LL σ' (EL S' ρ) := k1.cg (fun j hj => by
      rw [EL_5 (sk 1 (by decide)) (sk 2 (by decide)) (sk 8 (by decide)) (sk 20 (by decide)) en ρ]
      dsimp only
      by_cases e : j = 5
      · rw [if_pos e, if_pos e]
      · rw [if_neg e, if_neg (by omega), if_neg e])
    have hF2 : Fr (tl [4, 0, 410, 411]) σ σ' := (hF.sub (tl_sub (by decide))).trans (k2.sub (tl_sub (by decide)))
    refine ⟨by rw [k2.r rfl, hF.r rfl]; exact hX.k11_5, by omega, sp_size (by omega) hL4 ?_⟩
    rw [(EL_len S' ρ).2.2.2.2.2, en]
    dsimp only [kI]
    rw [nI_pred]
    rw [hI.n59, nI_1, nI_pred] at h
    refine h σ' hF2 hL4 ⟨?_, fun p hp => ?_⟩
    · rw [k2.c rfl, e3, hc_wI, e2, hc_wI, e1, hc_nwO, if_pos rfl, hP.1, en]
    · rw [en] at hp
      rw [k2.i rfl, i4, i4, s147, s148, s149]
      by_cases e : p = nPl S
      · rw [if_neg (fun y => absurd y.2 (by decide)), if_pos ⟨e, rfl⟩, if_pos e, if_pos e, if_pos ⟨e, rfl⟩, if_pos e]
        exact ⟨rfl, rfl⟩
      · rw [if_neg (fun y => e y.1), if_neg (fun y => e y.1), if_neg e, if_neg e, if_neg (fun y => e y.1), if_neg (fun y => e y.1), if_neg e]
        exact hP.2 p (by omega)
  · have n9 : S 12 59 = 9 := by
      rw [e9] at c9 ⊢
      have := mt (c_lt (n := nPl S) (N := 9) (by omega) (by omega)).mpr c9
      rw [hI.n59, show nPl S = 9 by omega]
    rw [if_pos n9] at h
    exact h σ (Fr.rf _ _) hL hP
theorem EL_3 {S S' : SS} (h1 : S' 12 1 = S 12 1) (h2 : S' 12 2 = S 12 2) (h8 : S' 12 8 = S 12 8) (h59 : S' 12 59 = S 12 59) (h20 : nLe S' = nLe S + 1) (ρ : List Nat) : EL S' ρ = fun i => if i = 3 then EL S ρ 3 ++ [(3, nLe S)] else EL S ρ i := by
  funext j
  match j with
  | 0 => simp only [EL, nSt, h1, Nat.reduceEqDiff, if_false]
  | 1 => simp only [EL, nCl, h2, Nat.reduceEqDiff, if_false]
  | 2 => simp only [EL, nRd, h8, Nat.reduceEqDiff, if_false]
  | 3 =>
    simp only [if_true]
    show (List.range (nLe S')).map _ = (List.range (nLe S)).map _ ++ _
    rw [h20, List.range_succ, List.map_append]
    rfl
  | 4 => simp only [EL, Nat.reduceEqDiff, if_false]
  | j + 5 =>
    rw [if_neg (by omega)]
    show (List.range (nPl S')).map _ = (List.range (nPl S)).map _
    rw [show nPl S' = nPl S from by simp only [nPl, h59]]
theorem sp_X10_letter {d : Nat} {s b n : Int32} {S : SS} {ρ : List Nat} {σ : XH} {Q : XV → XH → Prop} (hd : 7 ≤ d) (hX : CFX σ) (hL : LL σ (EL S ρ)) (hI : SInv S) (hS : CSt σ S) (hP : CLe σ S) (hSc : CSc σ S) (h : ∀ σ', Fr (tl [11, 3, 0, 410, 411]) σ σ' → CFX σ' → LL σ' (EL (letterF S s b n).2 ρ) → CLe σ' (letterF S s b n).2 → CSc σ' (letterF S s b n).2 → Q (vI (letterF S s b n).1) σ') : Ec d 2 204 m_X10_letter [vR (some (11, 0)), vI s, vI b, vI n] σ Q := by
  unfold letterF at h
  have h60 := hI.l20
  have l3 := (EL_len S ρ).2.2.2.1
  have bad : ¬ (isSt S s ∧ inP b 0 2) → Ex d 2 204 m_X10_letter 19 [vU, vU, vU, vU, vU] [] σ Q := fun z => by
    rw [if_neg z] at h
    refine sX10_letter_19 ?_
    exact h σ (Fr.rf _ _) hX hL hP hSc
  refine Ec_of mo_X10_letter.1 (Nat.le_of_ble_eq_true rfl) ?_
  refine sX10_letter_0 ?_
  unfold bX10_letter_0
  refine ⟨by omega, sp_X10_stationAt (by omega) hX hL hI.n1 (by have := hI.l1; omega) (fun w hw eq z => br_f some_ne ⟨by omega, ?_⟩) (fun z => br_t rfl (bad (fun y => z y.1)))⟩
  refine sp_X10_isHouse (by omega) (fun z2 => br_f (by decide) ⟨by omega, ?_⟩) (fun z2 => br_t rfl (bad (fun y => z2 y.2)))
  rw [if_pos ⟨z, z2⟩] at h
  subst eq
  refine sp_X10_within (fun z3 => br_f (by decide) ⟨hX.k11_3, by omega, sp_size (by omega) hL ?_⟩) (fun z3 => br_t rfl ?_)
  · rw [if_pos z3] at h
    rw [l3]
    have e60 : (60 : Int32) = nI 60 := by decide
    refine ⟨fun c9 => ?_, fun c9 => ?_⟩
    · rw [e60] at c9
      have hlt := (c_lt (by omega) (by omega)).mp c9
      have n9 : ¬ S 12 20 = 60 := fun y => by
        rw [hI.n20, e60] at y
        have := nI_inj (by omega) (by omega) y
        omega
      have ei : (S 12 20).toNatClampNeg = nLe S := rfl
      rw [if_neg n9, ei] at h
      dsimp only at h
      intro g0 e0
      refine ⟨by rw [e0]; exact hX.k11_3, by omega, by omega, ?_⟩
      intro g1 e1
      have ec : hc g0 3 = nLe S := by rw [e0]; exact hP.1
      have i11 : ∀ j, hi g1 11 0 j = if j = 13 then S 12 3 + 1 else hi σ 11 0 j := fun j => by
        rw [e1]
        show hi g0 11 0 j = _
        rw [e0, hi_wI_at, hSc.2.1]
        by_cases e : j = 13
        · rw [if_pos ⟨rfl, e⟩, if_pos e]
        · rw [if_neg (fun y => e y.2), if_neg e]
      have i8 : hi g1 8 = hi σ 8 := by
        rw [e1]
        show hi g0 8 = _
        rw [e0, hi_wI_ne _ _ _ _ (by decide)]
      refine drf_of rfl ⟨by omega, ?_⟩
      rw [i11 13, i11 12, if_pos rfl, if_neg (by decide), hSc.1, i8, (hS.2.2 w hw).1, ec]
      refine Ec_of mo_X2_init.1 (Nat.le_of_ble_eq_true rfl) ?_
      refine sX2_init_0 ?_
      refine ⟨by omega, ?_⟩
      intro a1 f1 a2 f2 a3 f3 a4 f4
      have hF : Fr (tl [11, 3]) σ a4 := by
        rw [f4, f3, f2, f1, e1, e0]
        exact Fr.wI (Fr.wI (Fr.wI (Fr.wI (Fr.nwO (Fr.wI (Fr.rf _ _) (by decide) _ _ _) (by decide)) (by decide) _ _ _) (by decide) _ _ _) (by decide) _ _ _) (by decide) _ _ _
      have hra : hr a4 = hr σ := by
        rw [f4, hr_wI, f3, hr_wI, f2, hr_wI, f1, hr_wI, e1, hr_nwO, e0, hr_wI]
      have hca : ∀ t, hc a4 t = if t = 3 then hc σ 3 + 1 else hc σ t := fun t => by
        rw [f4, hc_wI, f3, hc_wI, f2, hc_wI, f1, hc_wI, e1, hc_nwO, e0, hc_wI]
      have hL3 : LL a4 (EL S ρ) := hL.fr hF rfl rfl rfl rfl
      have i3 : ∀ p j, hi a4 3 p j = if p = nLe S ∧ j = 3 then S 12 0 + n else if p = nLe S ∧ j = 2 then S 12 3 + 1 else if p = nLe S ∧ j = 1 then b else if p = nLe S ∧ j = 0 then nI w else hi σ 3 p j := fun p j => by
        have b3 : hi g1 3 p j = hi σ 3 p j := by
          rw [e1]
          show hi g0 3 p j = _
          rw [e0, hi_wI_ne _ _ _ _ (by decide)]
        rw [f4, hi_wI_at, f3, hi_wI_at, f2, hi_wI_at, f1, hi_wI_at, b3]
      have j11 : ∀ j, hi a4 11 0 j = if j = 13 then S 12 3 + 1 else hi σ 11 0 j := fun j => by
        rw [f4, hi_wI_ne _ _ _ _ (by decide), f3, hi_wI_ne _ _ _ _ (by decide), f2, hi_wI_ne _ _ _ _ (by decide), f1, hi_wI_ne _ _ _ _ (by decide)]
        exact i11 j
      refine ⟨by omega, by omega, by omega, ?_⟩
      refine sp_add (by omega) (by omega) (show 3 < 13 by omega) hL3 (by rw [l3]; omega) ?_
      intro σ' k1 k2
      generalize hw3 : S 12 3 + 1 = w3 at *
      generalize hw0 : S 12 0 + n = w0 at *
      generalize hS' : up2 (up2 (up2 (up2 (up2 (up2 S 130 (nLe S) (nI w)) 131 (nLe S) b) 132 (nLe S) w0) 12 3 w3) 133 (nLe S) w3) 12 20 (S 12 20 + 1) = S' at h
      have s20 : S' 12 20 = nI (nLe S + 1) := by rw [← hS', up2_eq, hI.n20, nI_1]
      have en : nLe S' = nLe S + 1 := by
        show (S' 12 20).toNatClampNeg = _
        rw [s20, nI_clamp (by omega)]
      have s3 : S' 12 3 = w3 := by rw [← hS', up2_k _ _ _ (show 3 ≠ 20 by decide), up2_s _ _ _ (show 12 ≠ 133 by decide), up2_eq]
      have sk : ∀ j, j ≠ 20 → j ≠ 3 → S' 12 j = S 12 j := fun j h1 h2 => by rw [← hS', up2_k _ _ _ h1, up2_s _ _ _ (show 12 ≠ 133 by decide), up2_k _ _ _ h2, up2_s _ _ _ (show 12 ≠ 132 by decide), up2_s _ _ _ (show 12 ≠ 131 by decide), up2_s _ _ _ (show 12 ≠ 130 by decide)]
      have s130 : ∀ p, S' 130 p = if p = nLe S then nI w else S 130 p := fun p => by rw [← hS', up2_s _ _ _ (show 130 ≠ 12 by decide), up2_s _ _ _ (show 130 ≠ 133 by decide), up2_s _ _ _ (show 130 ≠ 12 by decide), up2_s _ _ _ (show 130 ≠ 132 by decide), up2_s _ _ _ (show 130 ≠ 131 by decide), up2_at]
      have s131 : ∀ p, S' 131 p = if p = nLe S then b else S 131 p := fun p => by rw [← hS', up2_s _ _ _ (show 131 ≠ 12 by decide), up2_s _ _ _ (show 131 ≠ 133 by decide), up2_s _ _ _ (show 131 ≠ 12 by decide), up2_s _ _ _ (show 131 ≠ 132 by decide), up2_at, up2_s _ _ _ (show 131 ≠ 130 by decide)]
      have s132 : ∀ p, S' 132 p = if p = nLe S then w0 else S 132 p := fun p => by rw [← hS', up2_s _ _ _ (show 132 ≠ 12 by decide), up2_s _ _ _ (show 132 ≠ 133 by decide), up2_s _ _ _ (show 132 ≠ 12 by decide), up2_at, up2_s _ _ _ (show 132 ≠ 131 by decide), up2_s _ _ _ (show 132 ≠ 130 by decide)]
      have s133 : ∀ p, S' 133 p = if p = nLe S then w3 else S 133 p := fun p => by rw [← hS', up2_s _ _ _ (show 133 ≠ 12 by decide), up2_at, up2_s _ _ _ (show 133 ≠ 12 by decide), up2_s _ _ _ (show 133 ≠ 132 by decide), up2_s _ _ _ (show 133 ≠ 131 by decide), up2_s _ _ _ (show 133 ≠ 130 by decide)]
      have hL4 : LL σ' (EL S' ρ) := by
        rw [EL_3 (sk 1 (by decide) (by decide)) (sk 2 (by decide) (by decide)) (sk 8 (by decide) (by decide)) (sk 59 (by decide) (by decide)) en ρ]
        exact k1
      have hF2 : Fr (tl [11, 3, 0, 410, 411]) σ σ' := (hF.sub (tl_sub (by decide))).trans (k2.sub (tl_sub (by decide)))
      have r11 : hr σ' 11 = hr σ 11 := by rw [k2.r rfl, hra]
      have c11 : hc σ' 11 = hc σ 11 := by rw [k2.c rfl, hca, if_neg (by decide)]
      have hX2 : CFX σ' := hX.fr11 hF2 (by decide) r11 c11
      refine sX10_letter_91 ?_
      refine ⟨hX2.k11_3, by omega, sp_size (by omega) hL4 ?_⟩
      rw [(EL_len S' ρ).2.2.2.1, en]
      rw [hI.n20, nI_1] at h
      refine h σ' hF2 hX2 hL4 ⟨?_, fun p hp => ?_⟩ ⟨?_, ?_, ?_⟩
      · rw [k2.c rfl, hca, if_pos rfl, hP.1, en]
      · rw [en] at hp
        simp only [k2.i (s := 3) rfl, i3, s130, s131, s132, s133]
        by_cases e : p = nLe S
        · simp only [e, true_and, if_true, Nat.reduceEqDiff, if_false, reduceIte, and_self]
        · simp only [e, false_and, if_false]
          exact hP.2 p (by omega)
      · rw [k2.i rfl, j11, if_neg (by decide), sk 0 (by decide) (by decide)]
        exact hSc.1
      · rw [k2.i rfl, j11, if_pos rfl, s3]
      · rw [k2.i rfl, j11, if_neg (by decide)]
        simp only [sk 19 (by decide) (by decide)]
        exact hSc.2.2
    · have n9 : S 12 20 = 60 := by
        rw [e60] at c9 ⊢
        have := mt (c_lt (n := nLe S) (N := 60) (by omega) (by omega)).mpr c9
        rw [hI.n20, show nLe S = 60 by omega]
      rw [if_pos n9] at h
      exact h σ (Fr.rf _ _) hX hL hP hSc
  · rw [if_neg z3] at h
    exact h σ (Fr.rf _ _) hX hL hP hSc
