/-! ===== the class: stations, clocks ===== -/
theorem EL_0 {S S' : SS} (h2 : S' 12 2 = S 12 2) (h8 : S' 12 8 = S 12 8) (h20 : S' 12 20 = S 12 20) (h59 : S' 12 59 = S 12 59) (h1 : nSt S' = nSt S + 1) (ρ : List Nat) : EL S' ρ = fun i => if i = 0 then EL S ρ 0 ++ [(8, nSt S)] else EL S ρ i := by
  funext j
  match j with
  | 0 =>
    simp only [if_true]
    show (List.range (nSt S')).map _ = (List.range (nSt S)).map _ ++ _
    rw [h1, List.range_succ, List.map_append]
    rfl
  | 1 => simp only [EL, nCl, h2, Nat.reduceEqDiff, if_false]
  | 2 => simp only [EL, nRd, h8, Nat.reduceEqDiff, if_false]
  | 3 => simp only [EL, nLe, h20, Nat.reduceEqDiff, if_false]
  | 4 => simp only [EL, Nat.reduceEqDiff, if_false]
  | j + 5 =>
    rw [if_neg (by omega)]
    show (List.range (nPl S')).map _ = (List.range (nPl S)).map _
    rw [show nPl S' = nPl S from by simp only [nPl, h59]]
theorem EL_1 {S S' : SS} (h1 : S' 12 1 = S 12 1) (h8 : S' 12 8 = S 12 8) (h20 : S' 12 20 = S 12 20) (h59 : S' 12 59 = S 12 59) (h2 : nCl S' = nCl S + 1) (ρ : List Nat) : EL S' ρ = fun i => if i = 1 then EL S ρ 1 ++ [(2, nCl S)] else EL S ρ i := by
  funext j
  match j with
  | 0 => simp only [EL, nSt, h1, Nat.reduceEqDiff, if_false]
  | 1 =>
    simp only [if_true]
    show (List.range (nCl S')).map _ = (List.range (nCl S)).map _ ++ _
    rw [h2, List.range_succ, List.map_append]
    rfl
  | 2 => simp only [EL, nRd, h8, Nat.reduceEqDiff, if_false]
  | 3 => simp only [EL, nLe, h20, Nat.reduceEqDiff, if_false]
  | 4 => simp only [EL, Nat.reduceEqDiff, if_false]
  | j + 5 =>
    rw [if_neg (by omega)]
    show (List.range (nPl S')).map _ = (List.range (nPl S)).map _
    rw [show nPl S' = nPl S from by simp only [nPl, h59]]
/-- a station without clocks has no moons -/
theorem lonA_none {S : SS} (hI : SInv S) {s : Nat} (hs : nSt S ≤ s) (hs2 : s < 1000) : ∀ k, k ≤ nRd S → lonA S (nI s) k = (0, 0)
  | 0, _ => rfl
  | k + 1, hk => by
    unfold lonA
    rw [if_neg, lonA_none hI hs hs2 k (by omega)]
    intro z
    have h90 := hI.l8
    have j2 := (hI.r (r := k) (by omega)).2.1
    have vs := (hI.c (vp_lt j2)).1
    have z3 := z.2.2.1
    rw [gS_nI S 121 (by omega)] at z3
    have z4 : S 118 (S 121 k).toNatClampNeg = nI s := z3
    have := vp_lt vs
    rw [z4, nI_clamp (by omega)] at this
    omega
theorem sp_X10_station {d : Nat} {l b : Int32} {S : SS} {ρ : List Nat} {σ : XH} {Q : XV → XH → Prop} (hd : 7 ≤ d) (hX : CFX σ) (hL : LL σ (EL S ρ)) (hI : SInv S) (hS : CSt σ S) (hlev : ∀ n, 1 ≤ n → n ≤ 4 → nSt S < 11 → S 146 (4 * nSt S + n - 1) = 0) (h : ∀ σ', Fr (tl [8, 106, 0, 410, 411]) σ σ' → LL σ' (EL (stationF S l b).2 ρ) → CSt σ' (stationF S l b).2 → Q (vI (stationF S l b).1) σ') : Ec d 3 210 m_X10_station [vR (some (11, 0)), vI l, vI b] σ Q := by
  unfold stationF at h
  have h11 := hI.l1
  have l0 := (EL_len S ρ).1
  refine Ec_of mo_X10_station.1 (Nat.le_of_ble_eq_true rfl) ?_
  refine Ex.zero (fun hZ => ?_)
  have bad : ¬ ((inP l (-43200) 43200 ∨ l = 99999) ∧ inP b 0 4000) → Q (vI (-2)) σ := fun z => by
    rw [if_neg z] at h
    exact h σ (Fr.rf _ _) hL hS
  have f30 : ∀ t : Int32, t = (if l = 99999 then 0 else 1) → (inP l (-43200) 43200 ∨ l = 99999) → Ex d 3 210 m_X10_station 30 [vR (some (11, 0)), vI l, vI b, vI t] [] σ Q := fun t et hl => by
    refine sX10_station_30 ?_
    unfold bX10_station_30
    refine ⟨by omega, sp_X10_within (fun z => br_f (by decide) ⟨hX.k11_0, by omega, sp_size (by omega) hL ?_⟩) (fun z => br_t rfl (bad (fun y => z y.2)))⟩
    rw [if_pos ⟨hl, z⟩] at h
    rw [l0]
    have e11 : (11 : Int32) = nI 11 := by decide
    refine ⟨fun c9 => ⟨hX.k11_0, by omega, by omega, ?_⟩, fun c9 => ?_⟩
    · rw [e11] at c9
      have hlt := (c_lt (by omega) (by omega)).mp c9
      have n9 : ¬ S 12 1 = 11 := fun y => by
        rw [hI.n1, e11] at y
        have := nI_inj (by omega) (by omega) y
        omega
      have ei : (S 12 1).toNatClampNeg = nSt S := rfl
      rw [if_neg n9, ei] at h
      dsimp only at h
      intro g0 e0
      have hL0 : LL g0 (EL S ρ) := hL.fr (T := tl [8]) (by rw [e0]; exact Fr.nwO (Fr.rf _ _) (by decide)) rfl rfl rfl rfl
      refine ⟨by rw [e0]; exact hX.k11_0, by omega, sp_size (by omega) hL0 ?_⟩
      rw [l0, hS.1]
      refine ⟨by omega, by omega, by omega, ?_⟩
      refine Ec_of mo_X7_init.1 (Nat.le_of_ble_eq_true rfl) ?_
      refine sX7_init_0 ?_
      refine ⟨by omega, by decide, by decide, by decide, by decide, ?_⟩
      rw [show (5 : Int32).toNatClampNeg = 5 by decide]
      intro a1 f1
      have ec : hc g0 106 = nSt S := by rw [e0]; exact hS.2.1
      rw [ec]
      intro a2 f2 a3 f3
      refine ⟨by rw [et]; by_cases y : l = 99999 <;> simp [y], ?_⟩
      intro a4 f4
      have f32 : ∀ q : Int32, q = (if l = 99999 then NOi else l) → Ex (d - 1) (1 - 1) (5 - 5) m_X7_init 32 [vR (some (8, nSt S)), vU, vU, vU, vI b] [vI q, vR (some (8, nSt S))] a4 (kU fun h8 => (1 ≤ d ∧ 1 ≤ (3 - 1) - 1 ∧ 200 ≤ (210 - 5) - 5 ∧ Ec (d - 1) 1 200 m_Jx4a65c_add_9ea2d [vR (some (0, 0)), vR (some (8, nSt S))] h8 (kI fun x10 h9 => Ex d (((3 - 1) - 1) - 1) (((210 - 5) - 5) - 200) m_X10_station 84 [vR (some (11, 0)), vU, vU, vU] [] h9 Q))) := fun q hq => by
        refine sX7_init_32 ?_
        intro a5 f5
        refine ⟨by omega, sp_floorDivI (by decide) ?_⟩
        intro a6 f6
        have hF : Fr (tl [8, 106]) σ a6 := by
          rw [f6, f5, f4, f3, f2, f1, e0]
          exact Fr.wI (Fr.wI (Fr.wI (Fr.wI (Fr.wR (Fr.nwA (Fr.nwO (Fr.rf _ _) (by decide)) (by decide) _) (by decide) _ _ _) (by decide) _ _ _) (by decide) _ _ _) (by decide) _ _ _) (by decide) _ _ _
        have hra : ∀ p j, hr a6 8 p j = if p = nSt S ∧ j = 3 then some (106, nSt S) else hr σ 8 p j := fun p j => by
          rw [f6, hr_wI, f5, hr_wI, f4, hr_wI, f3, hr_wI, f2, hr_wR_at, f1, hr_nwA, e0, hr_nwO]
        have hia : ∀ p j, hi a6 8 p j = if p = nSt S ∧ j = 2 then fdI b 100 else if p = nSt S ∧ j = 4 then q else if p = nSt S ∧ j = 1 then t else if p = nSt S ∧ j = 0 then nI (nSt S) else hi σ 8 p j := fun p j => by
          rw [f6, hi_wI_at, f5, hi_wI_at, f4, hi_wI_at, f3, hi_wI_at, f2, hi_wR, f1, hi_nwA, e0, hi_nwO]
        have h106 : hi a6 106 = hi σ 106 := by
          rw [f6, hi_wI_ne _ _ _ _ (by decide), f5, hi_wI_ne _ _ _ _ (by decide), f4, hi_wI_ne _ _ _ _ (by decide), f3, hi_wI_ne _ _ _ _ (by decide), f2, hi_wR, f1, hi_nwA, e0, hi_nwO]
        have n106 : ∀ p, hn a6 106 p = if p = nSt S then 5 else hn σ 106 p := fun p => by
          rw [f6, hn_wI, f5, hn_wI, f4, hn_wI, f3, hn_wI, f2, hn_wR, f1, hn_nwA, ec, e0, hn_nwO]
          by_cases y : p = nSt S
          · rw [if_pos ⟨rfl, y⟩, if_pos y]
          · rw [if_neg (fun w => y w.2), if_neg y]
        have hca : ∀ u, hc a6 u = if u = 106 then hc σ 106 + 1 else if u = 8 then hc σ 8 + 1 else hc σ u := fun u => by
          rw [f6, hc_wI, f5, hc_wI, f4, hc_wI, f3, hc_wI, f2, hc_wR, f1, hc_nwA, e0, hc_nwO, hc_nwO]
          by_cases y : u = 106
          · rw [if_pos y, if_pos y, if_neg (by decide)]
          · rw [if_neg y, if_neg y]
        have hL3 : LL a6 (EL S ρ) := hL.fr hF rfl rfl rfl rfl
        refine ⟨by omega, by omega, by omega, ?_⟩
        refine sp_add (by omega) (by omega) (show 8 < 13 by omega) hL3 (by rw [l0]; omega) ?_
        intro σ' k1 k2
        generalize hS' : up2 (up2 (up2 S 116 (nSt S) l) 117 (nSt S) b) 12 1 (S 12 1 + 1) = S' at h
        have s1 : S' 12 1 = nI (nSt S + 1) := by rw [← hS', up2_eq, hI.n1, nI_1]
        have en : nSt S' = nSt S + 1 := by
          show (S' 12 1).toNatClampNeg = _
          rw [s1, nI_clamp (by omega)]
        have sk : ∀ j, j ≠ 1 → S' 12 j = S 12 j := fun j hj => by rw [← hS', up2_k _ _ _ hj, up2_s _ _ _ (show 12 ≠ 117 by decide), up2_s _ _ _ (show 12 ≠ 116 by decide)]
        have s116 : ∀ p, S' 116 p = if p = nSt S then l else S 116 p := fun p => by rw [← hS', up2_s _ _ _ (show 116 ≠ 12 by decide), up2_s _ _ _ (show 116 ≠ 117 by decide), up2_at]
        have s117 : ∀ p, S' 117 p = if p = nSt S then b else S 117 p := fun p => by rw [← hS', up2_s _ _ _ (show 117 ≠ 12 by decide), up2_at, up2_s _ _ _ (show 117 ≠ 116 by decide)]
        have so : ∀ t, t ≠ 12 → t ≠ 116 → t ≠ 117 → S' t = S t := fun t h1 h2 h3 => by rw [← hS', up2_s _ _ _ h1, up2_s _ _ _ h3, up2_s _ _ _ h2]
        have hL4 : LL σ' (EL S' ρ) := by
          rw [EL_0 (sk 2 (by decide)) (sk 8 (by decide)) (sk 20 (by decide)) (sk 59 (by decide)) en ρ]
          exact k1
        have hF2 : Fr (tl [8, 106, 0, 410, 411]) σ σ' := (hF.sub (tl_sub (by decide))).trans (k2.sub (tl_sub (by decide)))
        have e8 : nRd S' = nRd S := by simp only [nRd, sk 8 (by decide)]
        have la : ∀ s k, lonA S' s k = lonA S s k := fun s k => lonA_cg (fun t ht => so t (by revert t; decide) (by revert t; decide) (by revert t; decide)) (sk 8 (by decide)) s k
        refine sX10_station_84 ?_
        refine ⟨by rw [k2.r rfl, hF.r rfl]; exact hX.k11_0, by omega, sp_size (by omega) hL4 ?_⟩
        rw [(EL_len S' ρ).1, en]
        dsimp only [kI]
        rw [nI_pred]
        rw [hI.n1, nI_1, nI_pred] at h
        have ef : fdI b 100 = b / 100 := by
          rw [inP_iff, fa_lt] at z
          have e0 : (0 : Int32).toInt = 0 := by decide
          have e100 : (100 : Int32).toInt = 100 := by decide
          apply Int32.toInt_inj.mp
          rw [fd_floor (by decide), div_t (by decide), e100, tdiv_pos _ (by decide), if_pos (Or.inl (by omega))]
        refine h σ' hF2 hL4 ⟨?_, ?_, fun p hp => ?_⟩
        · rw [k2.c rfl, hca, if_neg (by decide), if_pos rfl, hS.1, en]
        · rw [k2.c rfl, hca, if_pos rfl, hS.2.1, en]
        · rw [en] at hp
          rw [k2.i (s := 8) rfl, k2.r (s := 8) rfl, k2.n (s := 106) rfl, k2.i (s := 106) rfl, h106]
          simp only [hia, hra, n106, s116, s117, so 146 (by decide) (by decide) (by decide)]
          by_cases e : p = nSt S
          · simp only [e, true_and, if_true, Nat.reduceEqDiff, if_false, reduceIte]
            have z106 : ∀ j, hi σ 106 (nSt S) j = 0 := fun j => (hZ 106 (nSt S) j (by omega) (by rw [hS.2.1]; exact Nat.le_refl _)).1
            refine ⟨et, ef, ?_, z106 0, fun n n1 n2 => by rw [z106, hlev n n1 n2 hlt]⟩
            rw [hq]
            unfold lonF
            rw [gS_nI S' 116 (by omega), s116, if_pos rfl, la, e8, lonA_none hI (Nat.le_refl _) (by omega) _ (Nat.le_refl _)]
            by_cases y : l = 99999
            · rw [if_pos y, if_pos y, if_pos rfl]
            · rw [if_neg y, if_neg y]
          · simp only [e, false_and, if_false]
            obtain ⟨w1, w2, w3, w4, w5⟩ := hS.2.2 p (by omega)
            refine ⟨w1, w2, w3, ?_, w5⟩
            rw [w4]
            unfold lonF
            rw [gS_nI S' 116 (by omega), gS_nI S 116 (by omega), s116, if_neg e, la, e8]
      refine ⟨fun t0 => f32 _ ?_, fun t0 => f32 _ ?_⟩
      · rw [if_pos (Classical.byContradiction fun y => by rw [et, if_neg y] at t0; exact absurd t0 (by decide))]
      · rw [if_neg (fun y => by rw [et, if_pos y] at t0; exact t0 rfl)]
    · have n9 : S 12 1 = 11 := by
        rw [e11] at c9 ⊢
        have := mt (c_lt (n := nSt S) (N := 11) (by omega) (by omega)).mpr c9
        rw [hI.n1, show nSt S = 11 by omega]
      rw [if_pos n9] at h
      exact h σ (Fr.rf _ _) hL hS
  refine sX10_station_0 ?_
  refine ⟨fun z => ?_, fun z => ?_⟩
  · refine sX10_station_11 ?_
    exact br_t rfl (f30 0 (by rw [if_pos z]) (Or.inr z))
  · refine sX10_station_11 ?_
    refine br_f (by decide) ⟨by omega, sp_X10_within (fun z2 => br_f (by decide) (f30 1 (by rw [if_neg z]) (Or.inl z2))) (fun z2 => br_t rfl (bad (fun y => y.1.elim z2 z)))⟩
