/-! ===== the class: clocks, what a reading has seen ===== -/
theorem sp_X1_isGoingAt {d c : Nat} {x : Int32} {S : SS} {σ : XH} {Q : XV → XH → Prop} (hd : 1 ≤ d) (hC : CCl σ S) (hc : c < nCl S) (hv : inP (S 119 c) (-1) 999999) (h1 : (S 119 c < 0 ∨ ¬ S 119 c < x) → Q (vI 1) σ) (h0 : ¬ (S 119 c < 0 ∨ ¬ S 119 c < x) → Q (vI 0) σ) : Ec d 0 0 m_X1_isGoingAt [vR (some (2, c)), vI x] σ Q := by
  obtain ⟨g0, g1, g2, g3, g4, g5, g6, g7⟩ := hC.2.2.2 c hc
  have yes : (S 119 c < 0 ∨ ¬ S 119 c < x) → Ex d 0 0 m_X1_isGoingAt 15 [vU, vU] [] σ Q := fun z => by
    refine sX1_isGoingAt_15 ?_
    refine sX1_isGoingAt_20 ?_
    exact ⟨Or.inr rfl, h1 z⟩
  refine Ec_of mo_X1_isGoingAt.1 (Nat.le_of_ble_eq_true rfl) ?_
  refine sX1_isGoingAt_0 ?_
  unfold bX1_isGoingAt_0
  refine ⟨by omega, ?_⟩
  refine sp_X1_hasStopped hC hc hv (fun q => ?_) (fun q => ?_)
  · refine br_f (by decide) ?_
    rw [g6, if_neg q]
    refine ⟨fun q2 => ?_, fun q2 => yes (Or.inr q2)⟩
    refine sX1_isGoingAt_20 ?_
    exact ⟨Or.inl rfl, h0 (fun z => z.elim q (fun z => z q2))⟩
  · exact br_t rfl (yes (Or.inl q))
theorem lp_last {d rc rs c n : Nat} {x : Int32} {σ : XH} {Q : XV → XH → Prop} (e4 : hi σ 2 c 4 = nI n) (hn90 : n ≤ 90) (l2 : hr σ 2 c 2 = some (101, c)) (n1 : hn σ 101 c = 90) (h : ∀ k, k ≤ n → (∀ j, j < k → ¬ x < hi σ 101 c j) → (k < n → x < hi σ 101 c k) → Q (vI (nI k - 1)) σ) : ∀ (m i : Nat) (at_ : Int32), i + m = n → at_ = nI i - 1 → (∀ j, j < i → ¬ x < hi σ 101 c j) → Ex d rc rs m_X1_lastStarUpTo 4 [vR (some (2, c)), vI x, vI at_, vI (nI i)] [] σ Q := by
  intro m
  induction m with
  | zero =>
    intro i at_ hi_ ha hj
    have e : i = n := by omega
    subst e ha
    refine sX1_lastStarUpTo_4 ?_
    unfold bX1_lastStarUpTo_4
    rw [e4]
    refine br_f (nI_nlt (Nat.le_refl _) (by omega)) ?_
    refine sX1_lastStarUpTo_30 ?_
    exact h i (Nat.le_refl _) hj (fun z => by omega)
  | succ m ih =>
    intro i at_ hi_ ha hj
    refine sX1_lastStarUpTo_4 ?_
    unfold bX1_lastStarUpTo_4
    rw [e4]
    refine br_t (nI_lt (by omega) (by omega)) ⟨l2, vp_at n1 (vp_in_nI (by omega) (by omega)), fun q => ?_, fun q => ?_⟩
    · rw [nI_clamp (by omega)] at q
      refine sX1_lastStarUpTo_30 ?_
      rw [ha]
      exact h i (by omega) hj (fun _ => q)
    · rw [nI_clamp (by omega)] at q
      rw [nI_1]
      refine ih (i + 1) _ (by omega) (nI_pred i).symm (fun j hj2 => ?_)
      by_cases e : j = i
      · rw [e]; exact q
      · exact hj j (by omega)
theorem sp_last {d c n : Nat} {x : Int32} {σ : XH} {Q : XV → XH → Prop} (e4 : hi σ 2 c 4 = nI n) (hn90 : n ≤ 90) (l2 : hr σ 2 c 2 = some (101, c)) (n1 : hn σ 101 c = 90) (h : ∀ k, k ≤ n → (∀ j, j < k → ¬ x < hi σ 101 c j) → (k < n → x < hi σ 101 c k) → Q (vI (nI k - 1)) σ) : Ec d 0 0 m_X1_lastStarUpTo [vR (some (2, c)), vI x] σ Q := by
  refine Ec_of mo_X1_lastStarUpTo.1 (Nat.le_of_ble_eq_true rfl) ?_
  refine sX1_lastStarUpTo_0 ?_
  unfold bX1_lastStarUpTo_0
  rw [← nI_0]
  exact lp_last e4 hn90 l2 n1 h n 0 _ (by omega) (by decide) (fun j hj => by omega)
theorem pre_ex (P : Nat → Prop) : ∀ n : Nat, ∃ m, m ≤ n ∧ (∀ i, i < m → ¬ P i) ∧ (m < n → P m)
  | 0 => ⟨0, Nat.le_refl _, fun i hi => absurd hi (Nat.not_lt_zero i), fun h => absurd h (Nat.lt_irrefl 0)⟩
  | n + 1 => by
    obtain ⟨m, h1, h2, h3⟩ := pre_ex P n
    by_cases e : m < n
    · exact ⟨m, by omega, h2, fun _ => h3 e⟩
    · have e2 : m = n := by omega
      subst e2
      by_cases hp : P m
      · exact ⟨m, by omega, h2, fun _ => hp⟩
      · exact ⟨m + 1, by omega, fun i hi => by
          by_cases e3 : i = m
          · rw [e3]; exact hp
          · exact h2 i (by omega), fun h => by omega⟩
theorem at_idx : ∀ n, n < 91 → 2 ≤ n → ∀ m, m < n + 1 → mxI 0 (mnI (nI m - 1) (nI n - 2)) = nI (if m = 0 then 0 else if m < n then m - 1 else n - 2) := by decide +kernel
theorem sp_trueTimeOrNone {d : Nat} {v : Int64} {σ : XH} {Q : XV → XH → Prop} (h : Q (vI (tmO v)) σ) : Ec d 0 0 m_X1_trueTimeOrNone [vL v] σ Q := by
  have bad : (v < -2000000 ∨ 2000000 < v) → Ex d 0 0 m_X1_trueTimeOrNone 16 [vU, vU] [] σ Q := fun z => by
    unfold tmO at h
    rw [if_pos z] at h
    refine sX1_trueTimeOrNone_16 ?_
    refine sX1_trueTimeOrNone_23 ?_
    exact h
  refine Ec_of mo_X1_trueTimeOrNone.1 (Nat.le_of_ble_eq_true rfl) ?_
  refine sX1_trueTimeOrNone_0 ?_
  unfold bX1_trueTimeOrNone_0
  refine ⟨fun c => bad (Or.inl ((lgc_lt _ _).mp c)), fun c => ⟨fun c2 => bad (Or.inr ((lgc_gt _ _).mp c2)), fun c2 => ?_⟩⟩
  refine sX1_trueTimeOrNone_23 ?_
  unfold tmO at h
  rw [if_neg (fun z => z.elim (fun z => c ((lgc_lt _ _).mpr z)) (fun z => c2 ((lgc_gt _ _).mpr z)))] at h
  exact h
/-- what is known of a clock -/
theorem SInv.c {S : SS} (h : SInv S) {c : Nat} (hc : c < nCl S) : vp_in (S 118 c) (nSt S) ∧ inP (S 119 c) (-1) 999999 := by
  have hh := h.2.2.2.2.2.2.2.2.1 (nI c) (vp_in_nI hc (by have := h.l2; omega))
  simp only [gS, nI_clamp (show c < 2 ^ 31 by have := h.l2; omega)] at hh
  exact hh
theorem sp_X1_trueTime {d c : Nat} {x : Int32} {S : SS} {σ : XH} {Q : XV → XH → Prop} (hd : 2 ≤ d) (hI : SInv S) (hC : CCl σ S) (hc : c < nCl S) (hx : inP x 0 999999) (h : Q (vI (tmF S (nI c) x)) σ) : Ec d 0 0 m_X1_trueTime [vR (some (2, c)), vI x] σ Q := by
  obtain ⟨g0, g1, g2, g3, g4, g5, g6, n, s1, s2, s3, s4, s5⟩ := hC.2.2.2 c hc
  have hl2 := hI.l2
  have hv := (hI.c hc).2
  have hSt : StA (hi σ 101 c) (hi σ 102 c) n S c (nRd S) := ⟨s2, s3, s4, s5⟩
  have gc : gS S 119 (nI c) = S 119 c := gS_nI S 119 (by omega)
  have rng : ∀ i, i < n → (0 ≤ (hi σ 101 c i).toInt ∧ (hi σ 101 c i).toInt ≤ 999999) := fun i hi_ => by
    obtain ⟨r, r1, r2, r3, r4, -⟩ := s4 i hi_
    obtain ⟨-, -, -, j4, -⟩ := hI.r r1
    rw [r3] at j4
    exact tm_rng j4
  have none_ : tmF S (nI c) x = NOi → Ex d 0 0 m_X1_trueTime 15 [vU, vU, vU, vU, vU, vU, vU, vU, vU] [] σ Q := fun z => by
    rw [z] at h
    refine sX1_trueTime_15 ?_
    exact h
  refine Ec_of mo_X1_trueTime.1 (Nat.le_of_ble_eq_true rfl) ?_
  refine sX1_trueTime_0 ?_
  unfold bX1_trueTime_0
  rw [s1]
  refine ⟨fun z => none_ ?_, fun z => ⟨by omega, ?_⟩⟩
  · have n0 : n = 0 := nI_inj (by omega) (by omega) (z.trans nI_0.symm)
    by_cases go : S 119 c < 0 ∨ ¬ S 119 c < x
    · rw [tm_eq (m := 0) hI hSt (by rw [gc]; exact go) hx (by omega) (fun i hi_ => by omega) (fun hi_ => by omega)]
      unfold tmC
      rw [if_pos n0]
    · unfold tmF
      rw [gc, if_pos ⟨fun q => go (Or.inl q), Classical.byContradiction fun q => go (Or.inr q)⟩]
  have n1 : n ≠ 0 := fun e => z (by rw [e]; exact nI_0)
  refine sp_X1_isGoingAt (by omega) hC hc hv (fun go => ?_) (fun go => ?_)
  · refine br_f (by decide) ?_
    have go' : gS S 119 (nI c) < 0 ∨ ¬ gS S 119 (nI c) < x := by rw [gc]; exact go
    refine ⟨fun e1 => ⟨g3, vp_at g5 (by rw [← nI_0]; exact vp_in_nI (by omega) (by omega)), g2, vp_at g4 (by rw [← nI_0]; exact vp_in_nI (by omega) (by omega)), by omega, ?_⟩, fun e1 => ⟨by omega, ?_⟩⟩
    · have en : n = 1 := nI_inj (by omega) (by omega) (by rw [← s1]; exact e1)
      obtain ⟨m, m1, m2, m3⟩ := pre_ex (fun i => x < hi σ 101 c i) n
      rw [tm_eq hI hSt go' hx m1 m2 m3] at h
      unfold tmC at h
      rw [if_neg n1, if_pos en] at h
      refine sp_trueTimeOrNone ?_
      rw [show (0 : Int32).toNatClampNeg = 0 by decide]
      exact h
    · have en : n ≠ 1 := fun e => e1 (by rw [s1, e]; decide)
      refine sp_last s1 s2 g2 g4 (fun m m1 m2 m3 => ?_)
      refine ⟨by omega, ?_⟩
      refine sp_minI ?_
      refine ⟨by omega, ?_⟩
      refine sp_maxI ?_
      rw [tm_eq hI hSt go' hx m1 m2 m3] at h
      unfold tmC at h
      rw [if_neg n1, if_neg en] at h
      rw [s1, at_idx n (by omega) (by omega) m (by omega)]
      generalize hi_ : (if m = 0 then 0 else if m < n then m - 1 else n - 2) = i at h ⊢
      have hlt : i + 1 < n := by
        rw [← hi_]
        split
        · omega
        · split <;> omega
      have hlt' : i < n := by omega
      refine sX1_trueTime_67 ?_
      unfold bX1_trueTime_67
      rw [nI_1, nI_clamp (by omega), nI_clamp (by omega)]
      have v1 : vp_in (nI (i + 1)) 90 := vp_in_nI (by omega) (by omega)
      have v0 : vp_in (nI i) 90 := vp_in_nI (by omega) (by omega)
      have ra := rng i hlt'
      have rb := rng (i + 1) hlt
      have so := s3 i (i + 1) (by omega) hlt
      have ed : ((hi σ 101 c (i + 1) - hi σ 101 c i).toInt64).toInt = (hi σ 101 c (i + 1)).toInt - (hi σ 101 c i).toInt := by
        rw [Int32.toInt_toInt64, fb_subI (by omega) (by omega)]
      have e0 : (0 : Int64).toInt = 0 := by decide
      refine ⟨g2, vp_at g4 v1, g2, vp_at g4 v0, br_t ?_ ⟨g3, vp_at g5 v1, g3, vp_at g5 v0, g2, vp_at g4 v0, g3, vp_at g5 v0, by omega, ?_⟩⟩
      · rw [lgc_gt, fa_lt64, ed, e0]
        omega
      · refine sp_floorDivL ?_ ?_
        · rw [fa_eq64, ed, e0]
          omega
        · refine ⟨by omega, ?_⟩
          refine sp_trueTimeOrNone ?_
          exact h
  · refine br_t rfl (none_ ?_)
    unfold tmF
    rw [gc, if_pos ⟨fun q => go (Or.inl q), Classical.byContradiction fun q => go (Or.inr q)⟩]
/-! what a reading has seen -/
theorem seO_N {S : SS} {r : Nat} (hI : SInv S) (hr : r < nRd S) (e : Int32) : seO S (nI r) e = (if isSk (S 120 (oN S r)) ∧ (e = 0 ∨ e = 1 ∧ S 120 r = 4) then seA S (S 121 r) (if e = 1 then S 124 r else S 123 r) (if S 120 (oN S r) = 5 then S 124 (oN S r) else 0) else NOi) := by
  have h90 := hI.l8
  obtain ⟨-, -, -, -, -, -, -, -, -, -, j11, -⟩ := hI.r hr
  unfold seO
  have g : ∀ s, gS S s (nI r) = S s r := fun s => gS_nI S s (by omega)
  simp only [g]
  unfold oN
  by_cases c : S 120 r = 6
  · obtain ⟨k1, -⟩ := j11 c
    rw [if_pos c, if_pos c]
    have c4 : ¬ S 120 r = 4 := by rw [c]; decide
    by_cases e0 : e = 0
    · subst e0
      rw [k1]
      by_cases q : isSk (S 120 (S 127 r).toNatClampNeg)
      · rw [if_pos ⟨rfl, q⟩, if_pos (show isSk (S 120 (S 127 r).toNatClampNeg) ∧ ((0 : Int32) = 0 ∨ (0 : Int32) = 1 ∧ S 120 r = 4) from ⟨q, Or.inl rfl⟩), if_neg (show ¬ (0 : Int32) = 1 by decide)]
      · rw [if_neg (fun z => q z.2), if_neg (fun z => q z.1)]
    · rw [if_neg (fun z => e0 z.1), if_neg (fun z => z.2.elim e0 (fun z => c4 z.2))]
  · rw [if_neg c, if_neg c]
theorem sp_X4_seenAt {d r : Nat} {e : Int32} {S : SS} {σ : XH} {Q : XV → XH → Prop} (hd : 3 ≤ d) (hX : CFX σ) (hI : SInv S) (hS : CSt σ S) (hC : CCl σ S) (hR : CRd σ S) (hlr : r < nRd S) (h : Q (vI (seO S (nI r) e)) σ) : Ec d 0 0 m_X4_seenAt [vR (some (5, r)), vI e] σ Q := by
  have ho := oN_lt hI hlr
  have h90 := hI.l8
  have h12 := hI.l2
  have h11 := hI.l1
  obtain ⟨g0, g1, g2, g3, g4, g5, g6, g7, g8, g9, g10⟩ := hR.2 r hlr
  obtain ⟨o0, o1, o2, o3, o4, o5, o6, o7, o8, o9, o10⟩ := hR.2 _ ho
  obtain ⟨j1, j2, j3, j4, j5, j6, j7, j8, j9, j10, j11, j12, j13⟩ := hI.r hlr
  have hc : (S 121 r).toNatClampNeg < nCl S := vp_lt j2
  obtain ⟨c0, c1, c2, c3, c4, c5, c6, c7⟩ := hC.2.2.2 _ hc
  have hs : (S 118 (S 121 r).toNatClampNeg).toNatClampNeg < nSt S := vp_lt (hI.c hc).1
  obtain ⟨t0, t1, t2, t3, t4, t5, t6, t7⟩ := hS.2.2 _ hs
  have ec : nI (S 121 r).toNatClampNeg = S 121 r := (nI_of_nn (vp_nn j2)).symm
  have es : nI (S 118 (S 121 r).toNatClampNeg).toNatClampNeg = S 118 (S 121 r).toNatClampNeg := (nI_of_nn (vp_nn (hI.c hc).1)).symm
  rw [seO_N hI hlr] at h
  have none_ : ¬ (isSk (S 120 (oN S r)) ∧ (e = 0 ∨ e = 1 ∧ S 120 r = 4)) → Ex d 0 0 m_X4_seenAt 28 [vU, vU, vU, vU, vU] [] σ Q := fun z => by
    rw [if_neg z] at h
    refine sX4_seenAt_28 ?_
    exact h
  -- the middle: the time is told
  have mid : ∀ t : Int32, inP t 0 999999 → isSk (S 120 (oN S r)) → Q (vI (seA S (S 121 r) t (if S 120 (oN S r) = 5 then S 124 (oN S r) else 0))) σ → Ex d 0 0 m_X4_seenAt 50 [vR (some (5, r)), vU, vU, vU, vU] [vI t, vR (hr σ 5 r 2)] σ Q := fun t ht hk h => by
    have none2 : (tmF S (S 121 r) t = NOi ∨ lonF S (gS S 118 (S 121 r)) = NOi) → Ex d 0 0 m_X4_seenAt 77 [vU, vU, vU, vU, vU] [] σ Q := fun z => by
      unfold seA at h
      rw [if_pos z] at h
      refine sX4_seenAt_77 ?_
      exact h
    refine sX4_seenAt_50 ?_
    unfold bX4_seenAt_50
    refine drf_of g2 ⟨by omega, ?_⟩
    refine sp_X1_trueTime (by omega) hI hC hc ht ?_
    rw [ec]
    dsimp only [kI]
    refine drf_of g2 (drf_of c1 ?_)
    refine ⟨fun z => none2 (Or.inl z), fun z => ?_⟩
    rw [t3, es]
    refine ⟨fun z2 => none2 (Or.inr z2), fun z2 => ⟨by omega, ?_⟩⟩
    have fin : ∀ q : Int32, q = (if S 120 (oN S r) = 5 then S 124 (oN S r) else 0) → Ex d 0 0 m_X4_seenAt 102 [vR (some (5, r)), vU, vI (tmF S (S 121 r) t), vI (lonF S (S 118 (S 121 r).toNatClampNeg)), vU] [vI q] σ Q := fun q hq => by
      refine sX4_seenAt_102 ?_
      unfold bX4_seenAt_102
      refine drf_of g2 (drf_of c1 ?_)
      rw [t2, hq]
      unfold seA at h
      rw [if_neg (fun y => y.elim z z2)] at h
      exact h
    refine sp_X4_origin hR hlr ?_
    dsimp only [kR]
    refine drf_of rfl ?_
    rw [o1]
    refine ⟨fun z5 => ⟨by omega, ?_⟩, fun z5 => fin _ (by rw [if_neg z5])⟩
    refine sp_X4_origin hR hlr ?_
    dsimp only [kR]
    refine drf_of rfl ?_
    refine fin _ ?_
    rw [o6, if_pos z5, if_neg]
    rw [z5]
    decide
  refine Ec_of mo_X4_seenAt.1 (Nat.le_of_ble_eq_true rfl) ?_
  refine sX4_seenAt_0 ?_
  unfold bX4_seenAt_0
  refine ⟨by omega, ?_⟩
  refine sp_X4_isOfEdge (by omega) hX hI hR hlr (fun hk => ?_) (fun hk => br_t rfl (none_ (fun z => hk z.1)))
  refine br_f (by decide) ?_
  have in01 : ∀ x : Int32, (inP x 0 1 ↔ x = 0 ∨ x = 1) ∧ (inP x 0 0 ↔ x = 0) := fun x => by
    have e0 : (0 : Int32).toInt = 0 := by decide
    have e1 : (1 : Int32).toInt = 1 := by decide
    rw [inP_iff, inP_iff, fa_lt, fa_lt, fa_lt, fa_eq, fa_eq, e0, e1]
    omega
  have go : (e = 0 ∨ e = 1 ∧ S 120 r = 4) → Ex d 0 0 m_X4_seenAt 50 [vR (some (5, r)), vU, vU, vU, vU] [vI (if e = 0 then hi σ 5 r 4 else hi σ 5 r 6), vR (hr σ 5 r 2)] σ Q := fun z => by
    rw [if_pos ⟨hk, z⟩] at h
    by_cases e0 : e = 0
    · rw [if_pos e0, g4]
      rw [if_neg (show ¬ e = 1 by rw [e0]; decide)] at h
      exact mid _ j4 hk h
    · obtain ⟨e1, k4⟩ := z.resolve_left e0
      rw [if_neg e0, g6, if_neg (by rw [k4]; decide)]
      rw [if_pos e1] at h
      exact mid _ (j6 k4) hk h
  rw [g1]
  refine ⟨fun k4 => ?_, fun k4 => ?_⟩
  · refine sX4_seenAt_22 ?_
    unfold bX4_seenAt_22
    refine ⟨by omega, ?_⟩
    refine sp_X10_within (fun z => ?_) (fun z => br_t rfl (none_ (fun y => z ((in01 e).1.mpr (y.2.imp id And.left)))))
    refine br_f (by decide) ?_
    have z2 := (in01 e).1.mp z
    have g := go (z2.imp id (fun y => ⟨y, k4⟩))
    refine ⟨fun e0 => ?_, fun e0 => ?_⟩
    · rw [if_pos e0] at g; exact g
    · rw [if_neg e0] at g; exact g
  · refine sX4_seenAt_22 ?_
    unfold bX4_seenAt_22
    refine ⟨by omega, ?_⟩
    refine sp_X10_within (fun z => ?_) (fun z => br_t rfl (none_ (fun y => z ((in01 e).2.mpr (y.2.resolve_right (fun y => k4 y.2))))))
    refine br_f (by decide) ?_
    have z2 := (in01 e).2.mp z
    have g := go (Or.inl z2)
    refine ⟨fun e0 => ?_, fun e0 => absurd z2 e0⟩
    rw [if_pos e0] at g
    exact g
/-- what a reading counts as, by how blurs count: as the class and as the reference say it -/
def asO (S : SS) (b r : Int32) : Int32 := if gS S 120 r = 4 then (if seO S r 0 = NOi ∨ seO S r 1 = NOi then NOi else if b = 0 then seO S r 0 else if b = 2 then seO S r 1 else (dwn ((seO S r 0).toInt64 + (seO S r 1).toInt64) 2).toInt32) else seO S r 0
theorem sp_X4_valueBy {d r : Nat} {b : Int32} {S : SS} {σ : XH} {Q : XV → XH → Prop} (hd : 4 ≤ d) (hX : CFX σ) (hI : SInv S) (hS : CSt σ S) (hC : CCl σ S) (hR : CRd σ S) (hlr : r < nRd S) (hsum : S 120 r = 4 → fdI (seO S (nI r) 0 + seO S (nI r) 1) 2 = (dwn ((seO S (nI r) 0).toInt64 + (seO S (nI r) 1).toInt64) 2).toInt32) (h : Q (vI (asO S b (nI r))) σ) : Ec d 0 0 m_X4_valueBy [vR (some (5, r)), vI b] σ Q := by
  obtain ⟨g0, g1, g2, g3, g4, g5, g6, g7, g8, g9, g10⟩ := hR.2 r hlr
  have h90 := hI.l8
  unfold asO at h
  rw [gS_nI S 120 (by omega)] at h
  refine Ec_of mo_X4_valueBy.1 (Nat.le_of_ble_eq_true rfl) ?_
  refine sX4_valueBy_0 ?_
  unfold bX4_valueBy_0
  refine ⟨by omega, ?_⟩
  refine sp_X4_seenAt (by omega) hX hI hS hC hR hlr ?_
  dsimp only [kI]
  rw [g1]
  refine ⟨fun k4 => ?_, fun k4 => ?_⟩
  · rw [if_pos k4] at h
    refine ⟨fun z => ?_, fun z => ⟨by omega, ?_⟩⟩
    · rw [if_pos (Or.inl z)] at h
      refine sX4_valueBy_20 ?_
      rw [z]
      exact h
    · refine sp_X4_seenAt (by omega) hX hI hS hC hR hlr ?_
      dsimp only [kI]
      refine ⟨fun z2 => ?_, fun z2 => ?_⟩
      · rw [if_pos (Or.inr z2)] at h
        refine sX4_valueBy_39 ?_
        rw [z2]
        exact h
      · rw [if_neg (fun y => y.elim z z2)] at h
        refine ⟨fun b2 => ?_, fun b2 => ⟨fun b0 => ?_, fun b0 => ⟨by omega, ?_⟩⟩⟩
        · rw [if_neg (by rw [b2]; decide), if_pos b2] at h
          refine sX4_valueBy_39 ?_
          exact h
        · rw [if_pos b0] at h
          refine sX4_valueBy_56 ?_
          exact h
        · rw [if_neg b0, if_neg b2, ← hsum k4] at h
          refine sp_floorDivI (by decide) ?_
          refine sX4_valueBy_56 ?_
          exact h
  · rw [if_neg k4] at h
    refine sX4_valueBy_20 ?_
    exact h
