/-! ===== the class: ruleIn, weightOf, ruled ===== -/
/-- the cell of a rule; -1: the unruled one -/
def ruC (ρ : List Nat) (x : Int32) : Nat := if x < 0 then 0 else ρ.getD x.toNatClampNeg 0
theorem ruC_neg (ρ : List Nat) : ruC ρ (-1) = 0 := if_pos (by decide)
theorem ruC_nI {ρ : List Nat} {j : Nat} (hj : j < ρ.length) (hj2 : j < 1000) : ρ[j]? = some (ruC ρ (nI j)) := by
  unfold ruC
  rw [if_neg (neg_nn hj2), nI_clamp (by omega), List.getD_eq_getElem?_getD, List.getElem?_eq_getElem hj]
  rfl
/-- what a rule's cell holds -/
theorem CRu.cell {σ : XH} {S : SS} {ρ : List Nat} (hC : CRu σ S ρ) (h12 : nRu S ≤ 12) {x : Int32} (hx : x = -1 ∨ ∃ j, j < nRu S ∧ x = nI j) : ∃ n, RR σ (ruC ρ x) n (ruR S x) ∧ hi σ 6 (ruC ρ x) 0 = x ∧ (¬ x < 0 → hi σ 6 (ruC ρ x) 2 = gS S 135 x) := by
  obtain ⟨⟨h1, h2, h3⟩, h4, ⟨h5, h6, h7⟩, h8⟩ := hC
  rcases hx with e | ⟨j, hj, e⟩
  · subst e
    rw [ruC_neg]
    exact ⟨0, h7, h6, fun z => absurd (by decide) z⟩
  · subst e
    have hu := ruC_nI (ρ := ρ) (j := j) (by omega) (by omega)
    obtain ⟨g1, g2, g3, g4, g5⟩ := h8 j _ hu
    exact ⟨_, g5, g2, fun _ => by rw [g4]; unfold gS; rw [nI_clamp (by omega)]⟩
theorem sp_X10_ruleIn {d : Nat} {h dd : Int32} {S : SS} {ρ : List Nat} {σ : XH} {Q : XV → XH → Prop} (hd : 3 ≤ d) (hX : CFX σ) (hL : LL σ (EL S ρ)) (hI : SInv S) (hC : CRu σ S ρ) (hQ : Q (vR (some (6, ruC ρ (ruF S h dd (nRu S))))) σ) : Ec d 0 0 m_X10_ruleIn [vR (some (11, 0)), vI h, vI dd] σ Q := by
  have l25 := hI.l25
  obtain ⟨⟨h1, h2, h3⟩, h4, ⟨h5, h6, h7⟩, h8⟩ := id hC
  have elen : (EL S ρ 4).length = nRu S := by
    show (ρ.map _).length = _
    rw [List.length_map, h4]
  have lp : ∀ (m i : Nat), i + m = nRu S → Ex d 0 0 m_X10_ruleIn 8 [vR (some (11, 0)), vI h, vI dd, vR (some (6, ruC ρ (ruF S h dd i))), vI (nI i), vU] [] σ Q := by
    intro m
    induction m with
    | zero =>
      intro i him
      refine sX10_ruleIn_8 ⟨hX.k11_4, by omega, sp_size (by omega) hL ?_⟩
      rw [elen]
      refine ⟨fun z => ?_, fun _ => ?_⟩
      · have := (c_lt (by omega) (by omega)).mp z
        omega
      · have : i = nRu S := by omega
        rw [this]
        exact hQ
    | succ m ih =>
      intro i him
      have f74 : ∀ x, x = ruC ρ (ruF S h dd (i + 1)) → Ex d 0 0 m_X10_ruleIn 74 [vR (some (11, 0)), vI h, vI dd, vR (some (6, x)), vI (nI i), vU] [] σ Q := fun x ex => by
        refine sX10_ruleIn_74 ?_
        unfold bX10_ruleIn_74
        rw [nI_1, ex]
        exact ih (i + 1) (by omega)
      have no : ¬ (S 134 i = h ∧ ¬ dd < S 135 i ∧ (ruF S h dd i < 0 ∨ ¬ S 135 i < gS S 135 (ruF S h dd i))) → ruC ρ (ruF S h dd i) = ruC ρ (ruF S h dd (i + 1)) := fun z => congrArg (ruC ρ) (if_neg z).symm
      have hu := ruC_nI (ρ := ρ) (j := i) (by omega) (by omega)
      obtain ⟨g1, g2, g3, g4, g5⟩ := h8 i _ hu
      have yes : (S 134 i = h ∧ ¬ dd < S 135 i ∧ (ruF S h dd i < 0 ∨ ¬ S 135 i < gS S 135 (ruF S h dd i))) → Ex d 0 0 m_X10_ruleIn 71 [vR (some (11, 0)), vI h, vI dd, vU, vI (nI i), vR (some (6, ruC ρ (nI i)))] [] σ Q := fun z => by
        refine sX10_ruleIn_71 ?_
        exact f74 _ (congrArg (ruC ρ) (if_pos z).symm)
      obtain ⟨n0, q1, q2, q3⟩ := hC.cell l25 (x := ruF S h dd i) (by
        rcases ruF_in S h dd i (by omega) with e | ⟨j, hj, e⟩
        · exact Or.inl e
        · exact Or.inr ⟨j, by omega, e⟩)
      refine sX10_ruleIn_8 ⟨hX.k11_4, by omega, sp_size (by omega) hL ?_⟩
      rw [elen]
      refine ⟨fun _ => ⟨hX.k11_4, by omega, ?_⟩, fun z => absurd ((c_lt (n := i) (N := nRu S) (by omega) (by omega)).mpr (by omega)) z⟩
      refine sp_get (z := (6, ruC ρ (nI i))) (by omega) (by omega) hL rfl ?_ (by rw [elen]; omega) ?_
      · show (ρ.map fun i => ((6, i) : XO))[i]? = _
        rw [List.getElem?_map, hu]
        rfl
      dsimp only [kR]
      rw [cst_lit]
      refine drf_of rfl ?_
      rw [g3]
      refine ⟨fun c1 => drf_of rfl ?_, fun c1 => f74 _ (no (fun z => c1 z.1))⟩
      rw [g4]
      refine ⟨fun c2 => f74 _ (no (fun z => z.2.1 c2)), fun c2 => drf_of rfl ?_⟩
      rw [q2]
      refine ⟨fun c3 => yes ⟨c1, c2, Or.inl c3⟩, fun c3 => drf_of rfl (drf_of rfl ?_)⟩
      rw [g4, q3 c3]
      exact ⟨fun c4 => f74 _ (no (fun z => z.2.2.elim c3 (fun y => y c4))), fun c4 => yes ⟨c1, c2, Or.inr c4⟩⟩
  refine Ec_of mo_X10_ruleIn.1 (Nat.le_of_ble_eq_true rfl) ?_
  refine sX10_ruleIn_0 ?_
  unfold bX10_ruleIn_0
  refine ⟨hX.k11_9, ?_⟩
  have e0 : ruC ρ (ruF S h dd 0) = 0 := ruC_neg ρ
  have := lp (nRu S) 0 (by omega)
  rw [e0] at this
  exact this
theorem sp_X5_weightOf {d t n i : Nat} {R : RT} {σ : XH} {Q : XV → XH → Prop} (hR : RR σ t n R) (hi6 : i < 6) (hQ : Q (vI (R.1 (100 + i))) σ) : Ec d 0 0 m_X5_weightOf [vR (some (6, t)), vI (nI i)] σ Q := by
  obtain ⟨r1, r2, r3, r4, r5⟩ := hR
  refine Ec_of mo_X5_weightOf.1 (Nat.le_of_ble_eq_true rfl) ?_
  refine sX5_weightOf_0 ?_
  unfold bX5_weightOf_0
  rw [r4, nI_clamp (by omega)]
  refine ⟨fun z => absurd z (neg_nn (by omega)), fun _ => ⟨r3, fun _ => ⟨r3, vp_in_nI hi6 (by omega), sX5_weightOf_23 ?_⟩, fun z => absurd ((c_lt (n := i) (N := 6) (by omega) (by omega)).mpr hi6) z⟩⟩
  show Q (vI (hi σ 103 t i)) σ
  rw [r5 i hi6]
  exact hQ
theorem sp_X10_ruled {d : Nat} {h dd w : Int32} {S : SS} {ρ : List Nat} {σ : XH} {Q : XV → XH → Prop} (hd : 4 ≤ d) (hX : CFX σ) (hL : LL σ (EL S ρ)) (hI : SInv S) (hC : CRu σ S ρ) (hQ : Q (vI (ruledG S h dd w)) σ) : Ec d 0 0 m_X10_ruled [vR (some (11, 0)), vI h, vI dd, vI w] σ Q := by
  have l25 := hI.l25
  unfold ruledG at hQ
  refine Ec_of mo_X10_ruled.1 (Nat.le_of_ble_eq_true rfl) ?_
  refine sX10_ruled_0 ?_
  unfold bX10_ruled_0
  refine ⟨by omega, sp_X10_isHouse (by omega) (fun c1 => br_f (by decide) ⟨by omega, sp_X10_isDay (by omega) (fun c2 => br_f (by decide) ⟨by omega, sp_X10_ruleIn (by omega) hX hL hI hC ?_⟩) (fun c2 => br_t rfl (sX10_ruled_14 ?_))⟩) (fun c1 => br_t rfl (sX10_ruled_14 ?_))⟩
  · rw [if_neg (fun z => z.elim (fun y => y c1) (fun y => y c2))] at hQ
    obtain ⟨n0, q1, q2, q3⟩ := hC.cell l25 (ruF_in S h dd (nRu S) (by omega))
    obtain ⟨r1, r2, r3, r4, r5⟩ := id q1
    have x31 : hi σ 6 (ruC ρ (ruF S h dd (nRu S))) 7 = _ := r2 31 (by decide)
    have x32 : hi σ 6 (ruC ρ (ruF S h dd (nRu S))) 8 = _ := r2 32 (by decide)
    have x33 : hi σ 6 (ruC ρ (ruF S h dd (nRu S))) 9 = _ := r2 33 (by decide)
    have x34 : hi σ 6 (ruC ρ (ruF S h dd (nRu S))) 10 = _ := r2 34 (by decide)
    have x35 : hi σ 6 (ruC ρ (ruF S h dd (nRu S))) 11 = _ := r2 35 (by decide)
    have x36 : hi σ 6 (ruC ρ (ruF S h dd (nRu S))) 12 = _ := r2 36 (by decide)
    refine ⟨fun k => drf_of rfl ?_, fun k0 => ⟨fun k => drf_of rfl ?_, fun k1 => ⟨fun k => drf_of rfl ?_, fun k2 => ⟨fun k => drf_of rfl ?_, fun k3 => ⟨fun k => drf_of rfl ?_, fun k4 => ⟨fun k => drf_of rfl ?_, fun k5 => ⟨fun k => drf_of rfl ?_, fun k6 => ⟨by omega, ?_⟩⟩⟩⟩⟩⟩⟩⟩
    · rw [if_pos k] at hQ; rw [q2]; exact hQ
    · rw [if_neg k0, if_pos k] at hQ; rw [x31]; exact hQ
    · rw [if_neg k0, if_neg k1, if_pos k] at hQ; rw [x32]; exact hQ
    · rw [if_neg k0, if_neg k1, if_neg k2, if_pos k] at hQ; rw [x33]; exact hQ
    · rw [if_neg k0, if_neg k1, if_neg k2, if_neg k3, if_pos k] at hQ; rw [x34]; exact hQ
    · rw [if_neg k0, if_neg k1, if_neg k2, if_neg k3, if_neg k4, if_pos k] at hQ
      rw [x35]
      refine ⟨fun z => sX10_ruled_111 ?_, fun z => sX10_ruled_111 ?_⟩
      · rw [if_pos z] at hQ; exact hQ
      · rw [if_neg z] at hQ; exact hQ
    · rw [if_neg k0, if_neg k1, if_neg k2, if_neg k3, if_neg k4, if_neg k5, if_pos k] at hQ
      rw [x36]
      refine ⟨fun z => sX10_ruled_125 ?_, fun z => sX10_ruled_125 ?_⟩
      · rw [if_pos z] at hQ; exact hQ
      · rw [if_neg z] at hQ; exact hQ
    · rw [if_neg k0, if_neg k1, if_neg k2, if_neg k3, if_neg k4, if_neg k5, if_neg k6] at hQ
      refine sp_X10_within (fun z => br_f (by decide) (drf_of rfl ?_)) (fun z => br_t rfl (sX10_ruled_151 ?_))
      · rw [if_pos z] at hQ
        obtain ⟨i, hi6, ei⟩ := w10 z
        rw [ei] at hQ ⊢
        rw [nI_clamp (by omega)] at hQ
        exact ⟨by omega, sp_X5_weightOf q1 hi6 (sX10_ruled_151 hQ)⟩
      · rw [if_neg z] at hQ
        exact hQ
  · rw [if_pos (Or.inr c2)] at hQ
    exact hQ
  · rw [if_pos (Or.inl c1)] at hQ
    exact hQ
