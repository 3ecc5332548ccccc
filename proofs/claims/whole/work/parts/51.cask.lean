/-! ===== the class: calls that ask ===== -/
/-- what the class's heap holds of the lists and the fixed cells -/
def CBase (σ : XH) (S : SS) (ρ : List Nat) : Prop := CFX σ ∧ LL σ (EL S ρ) ∧ CSt σ S ∧ CCl σ S ∧ CRd σ S
theorem ofF_1 (S : SS) (r w : Int32) : (ofF S r w).2 = S := rfl
theorem sp_X10_time {d : Nat} {c t : Int32} {S : SS} {ρ : List Nat} {σ : XH} {Q : XV → XH → Prop} (hd : 4 ≤ d) (hB : CBase σ S ρ) (hI : SInv S) (h : Q (vI (timeG S c t)) σ) : Ec d 0 0 m_X10_time [vR (some (11, 0)), vI c, vI t] σ Q := by
  obtain ⟨hX, hL, hS, hC, hR⟩ := hB
  unfold timeG at h
  have none_ : ¬ (isCl S c ∧ inP t 0 999999) → Ex d 0 0 m_X10_time 17 [vU, vU, vU, vU] [] σ Q := fun z => by
    rw [if_neg z] at h
    refine sX10_time_17 ?_
    refine sX10_time_27 ?_
    exact h
  refine Ec_of mo_X10_time.1 (Nat.le_of_ble_eq_true rfl) ?_
  refine sX10_time_0 ?_
  unfold bX10_time_0
  refine ⟨by omega, ?_⟩
  refine sp_X10_clockAt (by omega) hX hL hI.n2 (by have := hI.l2; omega) (fun r hlr e z => br_f some_ne ⟨by omega, ?_⟩) (fun z => br_t rfl (none_ (fun y => z y.1)))
  refine sp_X10_isTime (by omega) (fun z2 => br_f (by decide) ?_) (fun z2 => br_t rfl (none_ (fun y => z2 y.2)))
  refine drf_of rfl ⟨by omega, ?_⟩
  rw [if_pos ⟨z, z2⟩, e] at h
  refine sp_X1_trueTime (by omega) hI hC hlr z2 ?_
  refine sX10_time_27 ?_
  exact h
theorem sp_X10_longitude {d : Nat} {s : Int32} {S : SS} {ρ : List Nat} {σ : XH} {Q : XV → XH → Prop} (hd : 4 ≤ d) (hB : CBase σ S ρ) (hI : SInv S) (h : Q (vI (longitudeG S s)) σ) : Ec d 0 0 m_X10_longitude [vR (some (11, 0)), vI s] σ Q := by
  obtain ⟨hX, hL, hS, hC, hR⟩ := hB
  unfold longitudeG at h
  refine Ec_of mo_X10_longitude.1 (Nat.le_of_ble_eq_true rfl) ?_
  refine sX10_longitude_0 ?_
  unfold bX10_longitude_0
  refine ⟨by omega, ?_⟩
  refine sp_X10_stationAt (by omega) hX hL hI.n1 (by have := hI.l1; omega) (fun r hlr e z => br_f some_ne ?_) (fun z => br_t rfl ?_)
  · refine drf_of rfl ?_
    refine sX10_longitude_19 ?_
    rw [if_pos z, e] at h
    rw [(hS.2.2 r hlr).2.2.2.1]
    exact h
  · refine sX10_longitude_19 ?_
    rw [if_neg z] at h
    exact h
theorem sp_X10_seen {d : Nat} {r e : Int32} {S : SS} {ρ : List Nat} {σ : XH} {Q : XV → XH → Prop} (hd : 4 ≤ d) (hB : CBase σ S ρ) (hI : SInv S) (h : Q (vI (seenG S r e)) σ) : Ec d 0 0 m_X10_seen [vR (some (11, 0)), vI r, vI e] σ Q := by
  obtain ⟨hX, hL, hS, hC, hR⟩ := hB
  unfold seenG at h
  refine Ec_of mo_X10_seen.1 (Nat.le_of_ble_eq_true rfl) ?_
  refine sX10_seen_0 ?_
  unfold bX10_seen_0
  refine ⟨by omega, ?_⟩
  refine sp_X10_readingAt (by omega) hX hL hI.n8 hI.l8 (fun q hlq eq z => br_f some_ne ?_) (fun z => br_t rfl ?_)
  · refine drf_of rfl ⟨by omega, ?_⟩
    rw [if_pos z, eq] at h
    refine sp_X4_seenAt (by omega) hX hI hS hC hR hlq ?_
    refine sX10_seen_20 ?_
    exact h
  · refine sX10_seen_20 ?_
    rw [if_neg z] at h
    exact h
theorem sp_X10_like {d : Nat} {r : Int32} {S : SS} {ρ : List Nat} {σ : XH} {Q : XV → XH → Prop} (hd : 4 ≤ d) (hB : CBase σ S ρ) (hI : SInv S) (h : Q (vI (likeF S r).1) σ) : Ec d 0 0 m_X10_like [vR (some (11, 0)), vI r] σ Q := by
  obtain ⟨hX, hL, hS, hC, hR⟩ := hB
  unfold likeF at h
  have h90 := hI.l8
  refine Ec_of mo_X10_like.1 (Nat.le_of_ble_eq_true rfl) ?_
  refine sX10_like_0 ?_
  unfold bX10_like_0
  refine ⟨by omega, ?_⟩
  refine sp_X10_readingAt (by omega) hX hL hI.n8 hI.l8 (fun q hlq eq z => br_f some_ne ?_) (fun z => br_t rfl ?_)
  · refine drf_of rfl ?_
    subst eq
    obtain ⟨g0, g1, g2, g3, g4, g5, g6, g7, g8, g9, g10⟩ := hR.2 q hlq
    have g : ∀ s, gS S s (nI q) = S s q := fun s => gS_nI S s (by omega)
    simp only [g] at h
    rw [if_pos z] at h
    by_cases c : S 120 q = 6
    · rw [if_pos c] at h
      rw [if_pos c] at g5
      rw [g5]
      have ho := vp_lt ((hI.r hlq).2.2.2.2.1 c).1
      have k4 := (hR.2 (S 127 q).toNatClampNeg (by omega)).2.2.2.2.1
      refine br_f some_ne (drf_of rfl (drf_of rfl (drf_of g5 ?_)))
      rw [g4, k4]
      refine ⟨fun e => ?_, fun e => ?_⟩
      · rw [if_pos e] at h
        refine sX10_like_41 ?_
        exact h
      · rw [if_neg e] at h
        refine sX10_like_41 ?_
        exact h
    · rw [if_neg c] at h
      rw [if_neg c] at g5
      rw [g5]
      exact br_t rfl h
  · rw [if_neg z] at h
    exact h
theorem kN_rng {S : SS} (hI : SInv S) {r : Nat} (hlr : r < nRd S) : inP (kN S r) 0 7 := by
  have := (hI.r hlr).1
  unfold kN
  split
  · decide
  · rw [inP_iff] at *
    rw [fa_lt, fa_lt] at *
    have a1 : (1 : Int32).toInt = 1 := by decide
    have a2 : (6 : Int32).toInt = 6 := by decide
    have a3 : (0 : Int32).toInt = 0 := by decide
    have a4 : (7 : Int32).toInt = 7 := by decide
    omega
theorem sp_X10_taken {d : Nat} {r k : Int32} {S : SS} {ρ : List Nat} {σ : XH} {Q : XV → XH → Prop} (hd : 4 ≤ d) (hB : CBase σ S ρ) (hI : SInv S) (h : Q (vI (takenF S r k).1) σ) : Ec d 0 0 m_X10_taken [vR (some (11, 0)), vI r, vI k] σ Q := by
  obtain ⟨hX, hL, hS, hC, hR⟩ := hB
  unfold takenF at h
  have h90 := hI.l8
  refine Ec_of mo_X10_taken.1 (Nat.le_of_ble_eq_true rfl) ?_
  refine sX10_taken_0 ?_
  unfold bX10_taken_0
  refine ⟨by omega, ?_⟩
  refine sp_X10_within (fun z0 => br_f (by decide) ⟨by omega, ?_⟩) (fun z0 => br_t rfl ?_)
  · rw [if_pos z0] at h
    refine sp_X10_readingAt (by omega) hX hL hI.n8 hI.l8 (fun q hlq eq z => br_f some_ne ?_) (fun z => br_t rfl ?_)
    · rw [if_pos z, eq, kN_eq S (by omega)] at h
      refine drf_of rfl ⟨by omega, ?_⟩
      refine sp_X4_kindNow (by omega) hR hlq ?_
      refine ⟨by omega, ?_⟩
      refine sp_X10_isUnder hX (kN_rng hI hlq) (fun u => br_f (by decide) ?_) (fun u => br_t rfl ?_)
      · refine sX10_taken_41 ?_
        refine sX10_taken_48 ?_
        rw [if_pos] at h
        · exact h
        · rcases u with u | u | u
          · exact Or.inr (Or.inl u)
          · exact Or.inl u
          · exact Or.inr (Or.inr ⟨u.2, u.1⟩)
      · refine sX10_taken_48 ?_
        rw [if_neg] at h
        · exact h
        · intro y
          rcases y with y | y | y
          · exact u (Or.inr (Or.inl y))
          · exact u (Or.inl y)
          · exact u (Or.inr (Or.inr ⟨y.2, y.1⟩))
    · rw [if_neg z] at h
      exact h
  · rw [if_neg z0] at h
    exact h
theorem sp_X10_ended {d : Nat} {S : SS} {σ : XH} {Q : XV → XH → Prop} (hC : CSc σ S) (h : Q (vI (endedF S).1) σ) : Ec d 0 0 m_X10_ended [vR (some (11, 0))] σ Q := by
  refine Ec_of mo_X10_ended.1 (Nat.le_of_ble_eq_true rfl) ?_
  refine sX10_ended_0 ?_
  unfold bX10_ended_0
  rw [hC.2.2]
  unfold endedF at h
  exact h
theorem EL_len (S : SS) (ρ : List Nat) : (EL S ρ 0).length = nSt S ∧ (EL S ρ 1).length = nCl S ∧ (EL S ρ 2).length = nRd S ∧ (EL S ρ 3).length = nLe S ∧ (EL S ρ 4).length = ρ.length ∧ (EL S ρ 5).length = nPl S := by
  simp [EL]
theorem sp_X10_count {d : Nat} {w : Int32} {S : SS} {ρ : List Nat} {σ : XH} {Q : XV → XH → Prop} (hd : 1 ≤ d) (hB : CBase σ S ρ) (hI : SInv S) (hρ : ρ.length = nRu S) (hC : CSc σ S) (hT : CTx σ S) (hA : CAc σ S) (h : Q (vI (countF S w).1) σ) : Ec d 0 0 m_X10_count [vR (some (11, 0)), vI w] σ Q := by
  obtain ⟨hX, hL, -⟩ := hB
  obtain ⟨l0, l1, l2, l3, l4, l5⟩ := EL_len S ρ
  unfold countF at h
  refine Ec_of mo_X10_count.1 (Nat.le_of_ble_eq_true rfl) ?_
  refine sX10_count_0 ?_
  unfold bX10_count_0
  refine ⟨fun e => ?_, fun n0 => ⟨fun e => ?_, fun n1 => ⟨fun e => ?_, fun n2 => ⟨fun e => ?_, fun n3 => ⟨fun e => ?_, fun n4 => ⟨fun e => ?_, fun n5 => ⟨fun e => ?_, fun n6 => ⟨fun e => ?_, fun n7 => ⟨fun e => ?_, fun n8 => ?_⟩⟩⟩⟩⟩⟩⟩⟩⟩
  · subst e
    refine sX10_count_52 ?_
    unfold bX10_count_52
    rw [hC.1]
    exact h
  · subst e
    refine sX10_count_57 ?_
    refine ⟨hX.k11_0, by omega, sp_size (by omega) hL ?_⟩
    rw [l0, ← hI.n1]
    exact h
  · subst e
    refine sX10_count_65 ?_
    refine ⟨hX.k11_1, by omega, sp_size (by omega) hL ?_⟩
    rw [l1, ← hI.n2]
    exact h
  · subst e
    refine sX10_count_73 ?_
    refine ⟨hX.k11_2, by omega, sp_size (by omega) hL ?_⟩
    rw [l2, ← hI.n8]
    exact h
  · subst e
    refine sX10_count_81 ?_
    refine ⟨hX.k11_3, by omega, sp_size (by omega) hL ?_⟩
    rw [l3, ← hI.n20]
    exact h
  · subst e
    refine sX10_count_89 ?_
    refine ⟨hX.k11_4, by omega, sp_size (by omega) hL ?_⟩
    rw [l4, hρ, ← hI.n25]
    exact h
  · subst e
    refine sX10_count_97 ?_
    refine ⟨hX.k11_8, ?_⟩
    rw [hT.1]
    exact h
  · subst e
    refine sX10_count_105 ?_
    refine ⟨hX.k11_5, by omega, sp_size (by omega) hL ?_⟩
    rw [l5, ← hI.n59]
    exact h
  · subst e
    refine sX10_count_113 ?_
    refine ⟨hX.k11_11, ?_⟩
    rw [hA.1]
    exact h
  · refine sX10_count_121 ?_
    simp only [n0, n1, n2, n3, n4, n5, n6, n7, n8, if_false] at h
    exact h
theorem sp_X10_trace {d : Nat} {i : Int32} {S : SS} {σ : XH} {Q : XV → XH → Prop} (hd : 1 ≤ d) (hX : CFX σ) (hA : CAc σ S) (h0 : ¬ S 12 63 < 0) (h : Q (vI (traceF S i).1) σ) : Ec d 0 0 m_X10_trace [vR (some (11, 0)), vI i] σ Q := by
  unfold traceF at h
  refine Ec_of mo_X10_trace.1 (Nat.le_of_ble_eq_true rfl) ?_
  refine sX10_trace_0 ?_
  unfold bX10_trace_0
  refine ⟨hX.k11_11, by omega, sp_minI ?_⟩
  refine ⟨by omega, ?_⟩
  rw [hA.1]
  have e0 : (0 : Int32).toInt = 0 := by decide
  have e1 : (1 : Int32).toInt = 1 := by decide
  have e19 : (19 : Int32).toInt = 19 := by decide
  have e20 : (20 : Int32).toInt = 20 := by decide
  have r := fb_rng (S 12 63)
  have hh := h0
  rw [fa_lt] at hh
  have em : (mnI (S 12 63) 20).toInt = min (S 12 63).toInt 20 := by
    unfold mnI
    by_cases c : 20 < S 12 63
    · rw [if_pos c]
      rw [fa_lt] at c
      omega
    · rw [if_neg c]
      rw [fa_lt] at c
      omega
  have es : (mnI (S 12 63) 20 - 1).toInt = min (S 12 63).toInt 20 - 1 := by
    rw [fb_subI (by rw [em, e1]; omega) (by rw [em, e1]; omega), em, e1]
  have key : inP i 0 (mnI (S 12 63) 20 - 1) ↔ (inP i 0 19 ∧ i < S 12 63) := by
    rw [inP_iff, inP_iff, fa_lt, fa_lt, fa_lt, fa_lt, es, e0, e19]
    omega
  refine sp_X10_within (fun z => br_f (by decide) ?_) (fun z => br_t rfl ?_)
  · have z2 := key.mp z
    rw [if_pos z2] at h
    have v := inP_c (n := 20) z2.1 (by decide) (by decide)
    have e : i = nI i.toNatClampNeg := nI_of_nn (vp_nn v)
    refine ⟨hX.k11_11, hX.k1_0, vp_at hX.n100 v, ?_⟩
    refine sX10_trace_35 ?_
    rw [hA.2 i.toNatClampNeg (vp_lt v) (by rw [← e]; exact z2.2)]
    exact h
  · rw [if_neg (fun y => z (key.mpr y))] at h
    refine sX10_trace_35 ?_
    exact h
theorem sp_X10_of {d : Nat} {r w : Int32} {S : SS} {ρ : List Nat} {σ : XH} {Q : XV → XH → Prop} (hd : 4 ≤ d) (hB : CBase σ S ρ) (hI : SInv S) (h : Q (vI (ofF S r w).1) σ) : Ec d 0 0 m_X10_of [vR (some (11, 0)), vI r, vI w] σ Q := by
  obtain ⟨hX, hL, hS, hC, hR⟩ := hB
  unfold ofF at h
  have h90 := hI.l8
  refine Ec_of mo_X10_of.1 (Nat.le_of_ble_eq_true rfl) ?_
  refine sX10_of_0 ?_
  unfold bX10_of_0
  refine ⟨by omega, ?_⟩
  refine sp_X10_readingAt (by omega) hX hL hI.n8 hI.l8 (fun q hlq eq z => br_f some_ne ?_) (fun z => br_t rfl ?_)
  · subst eq
    obtain ⟨g0, g1, g2, g3, g4, g5, g6, g7, g8, g9, g10⟩ := hR.2 q hlq
    obtain ⟨j1, j2, j3, j4, j5, j6, j7, j8, j9, j10, j11, j12, j13⟩ := hI.r hlq
    have ho := oN_lt hI hlq
    have k7 := (hR.2 _ ho).2.2.2.2.2.2.2.1
    have c0 := (hC.2.2.2 _ (vp_lt j2)).1
    have g : ∀ s, gS S s (nI q) = S s q := fun s => gS_nI S s (by omega)
    simp only [numF, g, kN_eq S (show q < 100000 by omega)] at h
    rw [if_pos z] at h
    refine ⟨fun e => ?_, fun n0 => ⟨fun e => ?_, fun n1 => ⟨fun e => ?_, fun n2 => ⟨fun e => ?_, fun n3 => ⟨fun e => ?_, fun n4 => ⟨fun e => ?_, fun n5 => ⟨fun e => ?_, fun n6 => ⟨fun e => ?_, fun n7 => ?_⟩⟩⟩⟩⟩⟩⟩⟩
    · subst e
      refine sX10_of_60 ?_
      refine drf_of rfl ⟨by omega, ?_⟩
      refine sp_X4_kindNow (by omega) hR hlq ?_
      exact h
    · subst e
      refine sX10_of_65 ?_
      refine drf_of rfl ?_
      rw [g1]
      exact h
    · subst e
      refine sX10_of_70 ?_
      refine drf_of rfl (drf_of g2 ?_)
      rw [c0, ← nI_of_nn (vp_nn j2)]
      exact h
    · subst e
      refine sX10_of_78 ?_
      refine drf_of rfl ?_
      rw [g3]
      exact h
    · subst e
      refine sX10_of_83 ?_
      refine drf_of rfl ?_
      rw [g4]
      exact h
    · subst e
      have hnum : (if S 120 q = 6 then gS S 125 (S 127 q) else S 125 q) = S 125 (oN S q) := by
        unfold oN
        by_cases c : S 120 q = 6
        · rw [if_pos c, if_pos c]
        · rw [if_neg c, if_neg c]
      have h' : Q (vI (S 125 (oN S q))) σ := by
        rw [← hnum]
        exact h
      have fin : ∀ x : Int32, x = S 125 (oN S q) → Ex d 0 0 m_X10_of 109 [vU, vU, vU, vU] [vI x] σ Q := fun x hx => by
        refine sX10_of_109 ?_
        rw [hx]
        exact h'
      refine sX10_of_88 ?_
      refine drf_of rfl ⟨by omega, ?_⟩
      refine sp_X4_origin hR hlq ?_
      dsimp only [kR]
      refine drf_of rfl ?_
      rw [k7]
      obtain ⟨-, -, -, -, -, -, -, -, p9, p10, -⟩ := hI.r ho
      by_cases c : S 125 (oN S q) = -1
      · rw [if_pos c]
        exact br_t rfl (fin _ c.symm)
      · rw [if_neg c]
        refine br_f (fun e => ?_) ?_
        · have := p9 (Classical.byContradiction fun y => c (p10 y))
          rw [e] at this
          exact absurd this (by decide)
        · refine drf_of rfl ⟨by omega, ?_⟩
          refine sp_X4_origin hR hlq ?_
          dsimp only [kR]
          refine drf_of rfl ?_
          rw [k7, if_neg c]
          exact fin _ rfl
    · subst e
      refine sX10_of_110 ?_
      refine drf_of rfl ?_
      rw [g8]
      exact h
    · subst e
      refine sX10_of_115 ?_
      refine drf_of rfl ?_
      rw [g5]
      by_cases c : S 120 q = 6
      · rw [if_pos c]
        rw [if_pos c] at g5
        have hs := vp_lt (j5 c).1
        have s0 := (hR.2 (S 127 q).toNatClampNeg (by omega)).1
        refine br_f some_ne (drf_of rfl (drf_of g5 ?_))
        rw [s0, ← nI_of_nn (vp_nn (j5 c).1)]
        refine sX10_of_133 ?_
        exact h
      · rw [if_neg c]
        refine br_t rfl ?_
        refine sX10_of_133 ?_
        rw [j12 c] at h
        exact h
    · refine sX10_of_134 ?_
      simp only [n0, n1, n2, n3, n4, n5, n6, n7, if_false] at h
      exact h
  · rw [if_neg z] at h
    exact h
