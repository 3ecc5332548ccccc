/-! ===== joined readings, clocks side by side ===== -/
abbrev joF (S : SS) (a b : Int32) : Prop := ¬ 0 < gS S 129 a ∧ ¬ 0 < gS S 129 b ∧ (gS S 120 a = 3 ∨ gS S 120 a = 4) ∧ (gS S 120 b = 3 ∨ gS S 120 b = 4) ∧ ¬ gS S 121 a = gS S 121 b ∧ gS S 118 (gS S 121 a) = gS S 118 (gS S 121 b) ∧ gS S 122 a = gS S 122 b ∧ gS S 125 a = gS S 125 b
theorem sp_X11_areJoined {d : Nat} {a b : Int32} {σ : XH} {S : SS} {Q : XV → XH → Prop} (hM : MI σ) (hI : SInv S) (va : vp_in a (nRd S)) (vb : vp_in b (nRd S)) (h1 : joF S a b → Q (vI 1) (up σ S)) (h0 : ¬ joF S a b → Q (vI 0) (up σ S)) : Ec d 0 0 m_X11_areJoined [vR (some (12, 0)), vI a, vI b] (up σ S) Q := by
  have wa := hI.r90 va
  have wb := hI.r90 vb
  have ca := hI.c12 (hI.vr va).2.1
  have cb := hI.c12 (hI.vr vb).2.1
  have f58 : ¬ joF S a b → Ex d 0 0 m_X11_areJoined 58 [vU, vU, vU] [] (up σ S) Q := fun z => by
    refine sX11_areJoined_58 ?_
    exact ⟨Or.inl rfl, h0 z⟩
  have f134 : ¬ joF S a b → Ex d 0 0 m_X11_areJoined 134 [vU, vU, vU] [] (up σ S) Q := fun z => by
    refine sX11_areJoined_134 ?_
    refine sX11_areJoined_135 ?_
    exact ⟨Or.inl rfl, h0 z⟩
  have f60 : ¬ 0 < gS S 129 a → ¬ 0 < gS S 129 b → (gS S 120 a = 3 ∨ gS S 120 a = 4) → (gS S 120 b = 3 ∨ gS S 120 b = 4) → Ex d 0 0 m_X11_areJoined 60 [vR (some (12, 0)), vI a, vI b] [] (up σ S) Q := fun k1 k2 k3 k4 => by
    refine sX11_areJoined_60 ?_
    unfold bX11_areJoined_60
    refine ⟨hM.r121, vp_at hM.n121 wa, hM.r121, vp_at hM.n121 wb, fun (c1 : gS S 121 a = gS S 121 b) => f134 (fun z => z.2.2.2.2.1 c1), fun (c1 : ¬ gS S 121 a = gS S 121 b) => ⟨hM.r118, hM.r121, vp_at hM.n121 wa, vp_at hM.n118 ca, hM.r118, hM.r121, vp_at hM.n121 wb, vp_at hM.n118 cb, fun (c2 : gS S 118 (gS S 121 a) = gS S 118 (gS S 121 b)) => ⟨hM.r122, vp_at hM.n122 wa, hM.r122, vp_at hM.n122 wb, fun (c3 : gS S 122 a = gS S 122 b) => ⟨hM.r125, vp_at hM.n125 wa, hM.r125, vp_at hM.n125 wb, fun (c4 : gS S 125 a = gS S 125 b) => ?_, fun (c4 : ¬ gS S 125 a = gS S 125 b) => f134 (fun z => c4 z.2.2.2.2.2.2.2)⟩, fun (c3 : ¬ gS S 122 a = gS S 122 b) => f134 (fun z => c3 z.2.2.2.2.2.2.1)⟩, fun (c2 : ¬ gS S 118 (gS S 121 a) = gS S 118 (gS S 121 b)) => f134 (fun z => c2 z.2.2.2.2.2.1)⟩⟩
    refine sX11_areJoined_135 ?_
    exact ⟨Or.inr rfl, h1 ⟨k1, k2, k3, k4, c1, c2, c3, c4⟩⟩
  have f38 : ¬ 0 < gS S 129 a → ¬ 0 < gS S 129 b → (gS S 120 a = 3 ∨ gS S 120 a = 4) → Ex d 0 0 m_X11_areJoined 38 [vR (some (12, 0)), vI a, vI b] [] (up σ S) Q := fun k1 k2 k3 => by
    refine sX11_areJoined_38 ?_
    unfold bX11_areJoined_38
    exact ⟨hM.r120, vp_at hM.n120 wb, fun (c1 : gS S 120 b = 3) => f60 k1 k2 k3 (Or.inl c1), fun (c1 : ¬ gS S 120 b = 3) => ⟨hM.r120, vp_at hM.n120 wb, fun (c2 : gS S 120 b = 4) => f60 k1 k2 k3 (Or.inr c2), fun (c2 : ¬ gS S 120 b = 4) => f58 (fun z => z.2.2.2.1.elim c1 c2)⟩⟩
  refine Ec_of mo_X11_areJoined.1 (Nat.le_of_ble_eq_true rfl) ?_
  refine sX11_areJoined_0 ?_
  unfold bX11_areJoined_0
  exact ⟨hM.r129, vp_at hM.n129 wa, fun (c1 : 0 < gS S 129 a) => f58 (fun z => z.1 c1), fun (c1 : ¬ 0 < gS S 129 a) => ⟨hM.r129, vp_at hM.n129 wb, fun (c2 : 0 < gS S 129 b) => f58 (fun z => z.2.1 c2), fun (c2 : ¬ 0 < gS S 129 b) => ⟨hM.r120, vp_at hM.n120 wa, fun (c3 : gS S 120 a = 3) => f38 c1 c2 (Or.inl c3), fun (c3 : ¬ gS S 120 a = 3) => ⟨hM.r120, vp_at hM.n120 wa, fun (c4 : gS S 120 a = 4) => f38 c1 c2 (Or.inr c4), fun (c4 : ¬ gS S 120 a = 4) => f58 (fun z => z.2.2.1.elim c3 c4)⟩⟩⟩⟩
abbrev FARl : Int64 := -9223372036854775808
/-- as the class reckons it: the difference of longs -/
def difG (S : SS) (a b : Int32) : Int64 := if isRd S a ∧ isRd S b ∧ joF S a b then (if seO S a 0 = NOi ∨ seO S b 0 = NOi then FARl else (seO S a 0).toInt64 - (seO S b 0).toInt64) else FARl
theorem sp_X11_difference {d : Nat} {a b : Int32} {σ : XH} {S : SS} {Q : XV → XH → Prop} (hd : 6 ≤ d) (hM : MI σ) (hI : SInv S) (hsub : ∀ r q : Int32, vp_in r (nRd S) → vp_in q (nRd S) → ¬ seO S r 0 = NOi → ¬ seO S q 0 = NOi → (seO S r 0 - seO S q 0).toInt64 = (seO S r 0).toInt64 - (seO S q 0).toInt64) (h : Q (vL (difG S a b)) (up σ S)) : Ec d 0 0 m_X11_difference [vR (some (12, 0)), vI a, vI b] (up σ S) Q := by
  unfold difG at h
  have none_ : ¬ (isRd S a ∧ isRd S b ∧ joF S a b) → Ex d 0 0 m_X11_difference 30 [vU, vU, vU, vU, vU] [] (up σ S) Q := fun z => by
    rw [if_neg z] at h
    refine sX11_difference_30 ?_
    exact h
  refine Ec_of mo_X11_difference.1 (Nat.le_of_ble_eq_true rfl) ?_
  refine sX11_difference_0 ?_
  unfold bX11_difference_0
  refine ⟨by omega, ?_⟩
  refine sp_X11_isReading (by omega) (fun z => br_f (by decide) ⟨by omega, ?_⟩) (fun z => br_t rfl (none_ (fun y => z y.1)))
  refine sp_X11_isReading (by omega) (fun z2 => br_f (by decide) ⟨fun e => none_ (fun y => y.2.2.2.2.2.2.1 (by rw [e])), fun _ => ⟨by omega, ?_⟩⟩) (fun z2 => br_t rfl (none_ (fun y => z2 y.2.1)))
  have va := hI.isRd z
  have vb := hI.isRd z2
  refine sp_X11_areJoined hM hI va vb (fun j => br_f (by decide) ⟨by omega, ?_⟩) (fun j => br_t rfl (none_ (fun y => j y.2.2)))
  rw [if_pos ⟨z, z2, j⟩] at h
  refine sp_X11_seenOf (by omega) hM hI va ?_
  refine ⟨by omega, ?_⟩
  refine sp_X11_seenOf (by omega) hM hI vb ?_
  have bad : (seO S a 0 = NOi ∨ seO S b 0 = NOi) → Ex d 0 0 m_X11_difference 64 [vU, vU, vU, vU, vU] [] (up σ S) Q := fun y => by
    rw [if_pos y] at h
    refine sX11_difference_64 ?_
    refine sX11_difference_75 ?_
    exact h
  refine ⟨fun y => bad (Or.inl y), fun y => ⟨fun y2 => bad (Or.inr y2), fun y2 => ?_⟩⟩
  rw [if_neg (fun q => q.elim y y2)] at h
  refine sX11_difference_75 ?_
  unfold bX11_difference_75
  rw [hsub a b va vb y y2]
  exact h
theorem und3 {S : SS} {r : Nat} : undP (kN S r) 3 ↔ (¬ 0 < S 129 r ∧ (S 120 r = 3 ∨ S 120 r = 4)) := by
  unfold undP kN
  by_cases c : 0 < S 129 r
  · rw [if_pos c]
    constructor
    · intro z
      rcases z with z | z | z
      · exact absurd z (by decide)
      · exact absurd z (by decide)
      · exact absurd z.1 (by decide)
    · exact fun z => absurd c z.1
  · rw [if_neg c]
    constructor
    · intro z
      rcases z with z | z | z
      · exact ⟨c, Or.inl z⟩
      · exact absurd z (by decide)
      · exact ⟨c, Or.inr z.1⟩
    · intro z
      rcases z.2 with y | y
      · exact Or.inl y
      · exact Or.inr (Or.inr ⟨y, rfl⟩)
theorem sp_X4_isJoinedTo {d a b : Nat} {S : SS} {σ : XH} {Q : XV → XH → Prop} (hd : 2 ≤ d) (hX : CFX σ) (hI : SInv S) (hS : CSt σ S) (hC : CCl σ S) (hR : CRd σ S) (ha : a < nRd S) (hb : b < nRd S) (h1 : joF S (nI a) (nI b) → Q (vI 1) σ) (h0 : ¬ joF S (nI a) (nI b) → Q (vI 0) σ) : Ec d 0 0 m_X4_isJoinedTo [vR (some (5, a)), vR (some (5, b))] σ Q := by
  have h90 := hI.l8
  obtain ⟨a0, a1, a2, a3, a4, a5, a6, a7, -⟩ := hR.2 a ha
  obtain ⟨b0, b1, b2, b3, b4, b5, b6, b7, -⟩ := hR.2 b hb
  obtain ⟨-, p2, -, -, -, -, -, -, p9, p10, -⟩ := hI.r ha
  obtain ⟨-, q2, -, -, -, -, -, -, q9, q10, -⟩ := hI.r hb
  have ca := hC.2.2.2 _ (vp_lt p2)
  have cb := hC.2.2.2 _ (vp_lt q2)
  have va := (hI.c (vp_lt p2)).1
  have vb := (hI.c (vp_lt q2)).1
  have sa := hS.2.2 _ (vp_lt va)
  have sb := hS.2.2 _ (vp_lt vb)
  have ga : ∀ s, gS S s (nI a) = S s a := fun s => gS_nI S s (by omega)
  have gb : ∀ s, gS S s (nI b) = S s b := fun s => gS_nI S s (by omega)
  simp only [joF, ga, gb] at h1 h0
  have f88 : ¬ (¬ 0 < S 129 a ∧ ¬ 0 < S 129 b ∧ (S 120 a = 3 ∨ S 120 a = 4) ∧ (S 120 b = 3 ∨ S 120 b = 4) ∧ ¬ S 121 a = S 121 b ∧ gS S 118 (S 121 a) = gS S 118 (S 121 b) ∧ S 122 a = S 122 b ∧ S 125 a = S 125 b) → Ex d 0 0 m_X4_isJoinedTo 88 [vU, vU] [] σ Q := fun z => by
    refine sX4_isJoinedTo_88 ?_
    refine sX4_isJoinedTo_89 ?_
    exact ⟨Or.inl rfl, h0 z⟩
  refine Ec_of mo_X4_isJoinedTo.1 (Nat.le_of_ble_eq_true rfl) ?_
  refine sX4_isJoinedTo_0 ?_
  unfold bX4_isJoinedTo_0
  refine ⟨by omega, ?_⟩
  refine sp_X4_kindNow (by omega) hR ha ?_
  refine ⟨by omega, ?_⟩
  refine sp_X10_isUnder hX (kN_rng hI ha) (fun u => br_f (by decide) ?_) (fun u => br_t rfl (f88 (fun z => u (und3.mpr ⟨z.1, z.2.2.1⟩))))
  refine drf_of rfl ⟨by omega, ?_⟩
  refine sp_X4_kindNow (by omega) hR hb ?_
  refine ⟨by omega, ?_⟩
  refine sp_X10_isUnder hX (kN_rng hI hb) (fun w => br_f (by decide) ?_) (fun w => br_t rfl (f88 (fun z => w (und3.mpr ⟨z.2.1, z.2.2.2.1⟩))))
  have u2 := und3.mp u
  have w2 := und3.mp w
  refine sX4_isJoinedTo_22 ?_
  unfold bX4_isJoinedTo_22
  refine drf_of a2 (drf_of rfl (drf_of b2 ?_))
  rw [ca.1, cb.1, ← nI_of_nn (vp_nn p2), ← nI_of_nn (vp_nn q2)]
  refine ⟨fun e => f88 (fun z => z.2.2.2.2.1 e), fun e => ?_⟩
  refine drf_of a2 (drf_of ca.2.1 (drf_of rfl (drf_of b2 (drf_of cb.2.1 ?_))))
  rw [sa.1, sb.1, ← nI_of_nn (vp_nn va), ← nI_of_nn (vp_nn vb)]
  refine ⟨fun e2 => ?_, fun e2 => f88 (fun z => e2 z.2.2.2.2.2.1)⟩
  refine drf_of rfl ?_
  rw [a3, b3]
  refine ⟨fun e3 => ?_, fun e3 => f88 (fun z => e3 z.2.2.2.2.2.2.1)⟩
  refine drf_of rfl ?_
  have n7a : ¬ S 125 a = -1 := fun y => by
    have := p9 (u2.2.elim Or.inl (fun y => Or.inr (Or.inl y)))
    rw [y] at this
    exact absurd this (by decide)
  have n7b : ¬ S 125 b = -1 := fun y => by
    have := q9 (w2.2.elim Or.inl (fun y => Or.inr (Or.inl y)))
    rw [y] at this
    exact absurd this (by decide)
  rw [a7, b7, if_neg n7a, if_neg n7b]
  refine ⟨fun e4 => ?_, fun e4 => f88 (fun z => e4 z.2.2.2.2.2.2.2)⟩
  refine sX4_isJoinedTo_89 ?_
  exact ⟨Or.inr rfl, h1 ⟨u2.1, w2.1, u2.2, w2.2, e, e2, e3, e4⟩⟩
theorem sp_X10_difference {d : Nat} {a b : Int32} {S : SS} {ρ : List Nat} {σ : XH} {Q : XV → XH → Prop} (hd : 4 ≤ d) (hB : CBase σ S ρ) (hI : SInv S) (h : Q (vL (difG S a b)) σ) : Ec d 0 0 m_X10_difference [vR (some (11, 0)), vI a, vI b] σ Q := by
  obtain ⟨hX, hL, hS, hC, hR⟩ := hB
  unfold difG at h
  have none_ : ¬ (isRd S a ∧ isRd S b ∧ joF S a b) → Ex d 0 0 m_X10_difference 31 [vU, vU, vU, vU, vU, vU, vU] [] σ Q := fun z => by
    rw [if_neg z] at h
    refine sX10_difference_31 ?_
    exact h
  refine Ec_of mo_X10_difference.1 (Nat.le_of_ble_eq_true rfl) ?_
  refine sX10_difference_0 ?_
  unfold bX10_difference_0
  refine ⟨by omega, ?_⟩
  refine sp_X10_readingAt (by omega) hX hL hI.n8 hI.l8 (fun p hlp ep z => ⟨by omega, ?_⟩) (fun z => ⟨by omega, ?_⟩)
  · refine sp_X10_readingAt (by omega) hX hL hI.n8 hI.l8 (fun q hlq eq z2 => br_f some_ne (br_f some_ne ?_)) (fun z2 => br_f some_ne (br_t rfl (none_ (fun y => z2 y.2.1))))
    subst ep eq
    refine drf_of rfl ⟨by omega, ?_⟩
    refine sp_X4_isJoinedTo (by omega) hX hI hS hC hR hlp hlq (fun j => br_f (by decide) ?_) (fun j => br_t rfl (none_ (fun y => j y.2.2)))
    rw [if_pos ⟨z, z2, j⟩] at h
    refine drf_of rfl ⟨by omega, ?_⟩
    refine sp_X4_seenAt (by omega) hX hI hS hC hR hlp ?_
    dsimp only [kI]
    refine drf_of rfl ⟨by omega, ?_⟩
    refine sp_X4_seenAt (by omega) hX hI hS hC hR hlq ?_
    have bad : (seO S (nI p) 0 = NOi ∨ seO S (nI q) 0 = NOi) → Ex d 0 0 m_X10_difference 64 [vU, vU, vU, vU, vU, vU, vU] [] σ Q := fun y => by
      rw [if_pos y] at h
      refine sX10_difference_64 ?_
      refine sX10_difference_77 ?_
      exact h
    refine ⟨fun y => bad (Or.inl y), fun y => ⟨fun y2 => bad (Or.inr y2), fun y2 => ?_⟩⟩
    rw [if_neg (fun q => q.elim y y2)] at h
    refine sX10_difference_77 ?_
    exact h
  · refine sp_X10_readingAt (by omega) hX hL hI.n8 hI.l8 (fun q hlq eq z2 => br_t rfl (none_ (fun y => z y.1))) (fun z2 => br_t rfl (none_ (fun y => z y.1)))
/-! how many twos are joined -/
def jB (S : SS) (c o a : Int32) (acc : Int32) : Nat → Int32
  | 0 => acc
  | b + 1 => if gS S 121 a = c ∧ gS S 121 (nI b) = o ∧ joF S a (nI b) then jB S c o a acc b + 1 else jB S c o a acc b
def jA (S : SS) (c o : Int32) : Nat → Int32
  | 0 => 0
  | a + 1 => jB S c o (nI a) (jA S c o a) (nRd S)
def beF (S : SS) (c : Int32) : Nat → Int32 × Int32
  | 0 => (-1, 0)
  | o + 1 => if (beF S c o).2 < jA S c (nI o) (nRd S) then (nI o, jA S c (nI o) (nRd S)) else beF S c o
theorem jB_skip {S : SS} {c o a acc : Int32} (h : ¬ gS S 121 a = c) : ∀ n, jB S c o a acc n = acc
  | 0 => rfl
  | b + 1 => by
    unfold jB
    rw [if_neg (fun z => h z.1), jB_skip h b]
theorem jB_same {S : SS} {c a acc : Int32} : ∀ n, jB S c c a acc n = acc
  | 0 => rfl
  | b + 1 => by
    unfold jB
    rw [if_neg (fun z => z.2.2.2.2.2.2.1 (z.1.trans z.2.1.symm)), jB_same b]
theorem jA_same {S : SS} {c : Int32} : ∀ n, jA S c c n = 0
  | 0 => rfl
  | a + 1 => by
    unfold jA
    rw [jB_same, jA_same a]
def besideG (S : SS) (c : Int32) : Int32 := if isCl S c then (if gS S 119 c < 0 then -3 else (beF S c (nCl S)).1) else -1
theorem lp_X11_be {d rc rs : Nat} {c : Int32} {σ : XH} {S : SS} {Q : XV → XH → Prop} (hd : 1 ≤ d) (hM : MI σ) (hI : SInv S) (h : Q (vI (beF S c (nCl S)).1) (up σ S)) : ∀ (m o : Nat) (b w : Int32), o + m = nCl S → b = (beF S c o).1 → w = (beF S c o).2 → Ex d rc rs m_X11_beside 29 [vR (some (12, 0)), vI c, vI b, vI w, vI (nI o), vU, vU, vU] [] (up σ S) Q := by
  have h90 := hI.l8
  have h12 := hI.l2
  intro m
  induction m with
  | zero =>
    intro o b w ho hb hw
    have e : o = nCl S := by omega
    subst hb
    rw [e]
    refine sX11_beside_29 ?_
    unfold bX11_beside_29
    rw [hu_12, hI.n2]
    exact br_f (nI_nlt (Nat.le_refl _) (by omega)) h
  | succ m ih =>
    intro o b w ho hb hw
    have nxt : ∀ b2 w2 : Int32, (b2, w2) = beF S c (o + 1) → Ex d rc rs m_X11_beside 136 [vR (some (12, 0)), vI c, vI b2, vI w2, vI (nI o), vU, vU, vU] [] (up σ S) Q := fun b2 w2 e => by
      refine sX11_beside_136 ?_
      unfold bX11_beside_136
      rw [nI_1]
      exact ih (o + 1) b2 w2 (by omega) (by rw [← e]) (by rw [← e])
    -- over the first reading
    have la : ∀ (k a : Nat) (acc : Int32), a + k = nRd S → acc = jA S c (nI o) a → Ex d rc rs m_X11_beside 44 [vR (some (12, 0)), vI c, vI b, vI w, vI (nI o), vI acc, vI (nI a), vU] [] (up σ S) Q := by
      intro k
      induction k with
      | zero =>
        intro a acc ha hacc
        have e : a = nRd S := by omega
        rw [e] at hacc ⊢
        subst hacc
        refine sX11_beside_44 ?_
        unfold bX11_beside_44
        rw [hu_12, hI.n8]
        refine br_f (nI_nlt (Nat.le_refl _) (by omega)) ⟨fun z => nxt _ _ ?_, fun z => nxt _ _ ?_⟩
        · unfold beF
          rw [← hw, if_pos z]
        · unfold beF
          rw [← hw, if_neg z, hb, hw]
      | succ k ihk =>
        intro a acc ha hacc
        have va : vp_in (nI a) (nRd S) := vp_in_nI (by omega) (by omega)
        have wa := hI.r90 va
        refine sX11_beside_44 ?_
        unfold bX11_beside_44
        rw [hu_12, hI.n8]
        refine br_t (nI_lt (by omega) (by omega)) ?_
        have lb : ∀ (j q : Nat) (x : Int32), q + j = nRd S → x = jB S c (nI o) (nI a) acc q → Ex d rc rs m_X11_beside 56 [vR (some (12, 0)), vI c, vI b, vI w, vI (nI o), vI x, vI (nI a), vI (nI q)] [] (up σ S) Q := by
          intro j
          induction j with
          | zero =>
            intro q x hq hx
            have e : q = nRd S := by omega
            rw [e] at hx ⊢
            refine sX11_beside_56 ?_
            unfold bX11_beside_56
            rw [hu_12, hI.n8, nI_1]
            refine br_f (nI_nlt (Nat.le_refl _) (by omega)) (ihk (a + 1) _ (by omega) ?_)
            rw [hx, hacc]
            rfl
          | succ j ihj =>
            intro q x hq hx
            have vq : vp_in (nI q) (nRd S) := vp_in_nI (by omega) (by omega)
            have wq := hI.r90 vq
            have no : ¬ (gS S 121 (nI a) = c ∧ gS S 121 (nI q) = nI o ∧ joF S (nI a) (nI q)) → Ex d rc rs m_X11_beside 105 [vR (some (12, 0)), vI c, vI b, vI w, vI (nI o), vU, vI (nI a), vI (nI q)] [vI x] (up σ S) Q := fun z => by
              refine sX11_beside_105 ?_
              refine sX11_beside_106 ?_
              unfold bX11_beside_106
              rw [nI_1, Int32.add_zero]
              refine ihj (q + 1) _ (by omega) ?_
              unfold jB
              rw [if_neg z]
              exact hx
            refine sX11_beside_56 ?_
            unfold bX11_beside_56
            rw [hu_12, hI.n8]
            refine br_t (nI_lt (by omega) (by omega)) ⟨hM.r121, vp_at hM.n121 wa, fun (c1 : gS S 121 (nI a) = c) => ⟨hM.r121, vp_at hM.n121 wq, fun (c2 : gS S 121 (nI q) = nI o) => ⟨by omega, ?_⟩, fun (c2 : ¬ gS S 121 (nI q) = nI o) => no (fun z => c2 z.2.1)⟩, fun (c1 : ¬ gS S 121 (nI a) = c) => no (fun z => c1 z.1)⟩
            refine sp_X11_areJoined hM hI va vq (fun c3 => br_f (by decide) ?_) (fun c3 => br_t rfl (no (fun z => c3 z.2.2)))
            refine sX11_beside_106 ?_
            unfold bX11_beside_106
            rw [nI_1]
            refine ihj (q + 1) _ (by omega) ?_
            unfold jB
            rw [if_pos ⟨c1, c2, c3⟩, hx]
        rw [← nI_0]
        exact lb (nRd S) 0 acc (by omega) rfl
    refine sX11_beside_29 ?_
    unfold bX11_beside_29
    rw [hu_12, hI.n2]
    refine br_t (nI_lt (by omega) (by omega)) ?_
    have g := la (nRd S) 0 0 (by omega) rfl
    rw [nI_0] at g
    exact g
theorem sp_X11_beside {d : Nat} {c : Int32} {σ : XH} {S : SS} {Q : XV → XH → Prop} (hd : 2 ≤ d) (hM : MI σ) (hI : SInv S) (h : Q (vI (besideG S c)) (up σ S)) : Ec d 0 0 m_X11_beside [vR (some (12, 0)), vI c] (up σ S) Q := by
  unfold besideG at h
  refine Ec_of mo_X11_beside.1 (Nat.le_of_ble_eq_true rfl) ?_
  refine sX11_beside_0 ?_
  unfold bX11_beside_0
  refine ⟨by omega, ?_⟩
  refine sp_X11_isClock (by omega) (fun z => br_f (by decide) ⟨hM.r119, vp_at hM.n119 (hI.c12 (hI.isCl z)), fun (y : gS S 119 c < 0) => ?_, fun (y : ¬ gS S 119 c < 0) => ?_⟩) (fun z => br_t rfl ?_)
  · rw [if_pos z, if_pos y] at h
    exact h
  · rw [if_pos z, if_neg y] at h
    have g := lp_X11_be (d := d) (rc := 0) (rs := 0) (by omega) hM hI h (nCl S) 0 (-1) 0 (by omega) rfl rfl
    rw [nI_0] at g
    exact g
  · rw [if_neg z] at h
    exact h
theorem lp_X10_twos {d rc rs : Nat} {c o : Nat} {S : SS} {ρ : List Nat} {σ : XH} {Q : XV → XH → Prop} (hd : 3 ≤ d) (hB : CBase σ S ρ) (hI : SInv S) (h : Q (vI (jA S (nI c) (nI o) (nRd S))) σ) : ∀ (m a : Nat) (acc : Int32), a + m = nRd S → acc = jA S (nI c) (nI o) a → Ex d rc rs m_X10_twosJoined 5 [vR (some (11, 0)), vI (nI c), vI (nI o), vI acc, vI (nI a), vU, vU, vU] [] σ Q := by
  obtain ⟨hX, hL, hS, hC, hR⟩ := hB
  have h90 := hI.l8
  have l2 := (EL_len S ρ).2.2.1
  intro m
  induction m with
  | zero =>
    intro a acc ha hacc
    have e : a = nRd S := by omega
    rw [e] at hacc ⊢
    refine sX10_twosJoined_5 ?_
    unfold bX10_twosJoined_5
    refine ⟨hX.k11_2, by omega, sp_size (by omega) hL ?_⟩
    rw [l2]
    refine br_f (nI_nlt (Nat.le_refl _) (by omega)) ?_
    rw [hacc]
    exact h
  | succ m ih =>
    intro a acc ha hacc
    have hla : a < nRd S := by omega
    obtain ⟨g0, g1, g2, -⟩ := hR.2 a hla
    have va := (hI.r hla).2.1
    have ca := (hC.2.2.2 _ (vp_lt va)).1
    have ga : gS S 121 (nI a) = S 121 a := gS_nI S 121 (by omega)
    have nxt : ∀ x : Int32, x = jA S (nI c) (nI o) (a + 1) → Ex d rc rs m_X10_twosJoined 103 [vR (some (11, 0)), vI (nI c), vI (nI o), vI x, vI (nI a), vU, vU, vU] [] σ Q := fun x hx => by
      refine sX10_twosJoined_103 ?_
      unfold bX10_twosJoined_103
      rw [nI_1]
      exact ih (a + 1) x (by omega) hx
    have lb : ∀ (j q : Nat) (x : Int32), q + j = nRd S → x = jB S (nI c) (nI o) (nI a) acc q → Ex d rc rs m_X10_twosJoined 34 [vR (some (11, 0)), vI (nI c), vI (nI o), vI x, vI (nI a), vR (some (5, a)), vI (nI q), vU] [] σ Q := by
      intro j
      induction j with
      | zero =>
        intro q x hq hx
        have e : q = nRd S := by omega
        rw [e] at hx ⊢
        refine sX10_twosJoined_34 ?_
        unfold bX10_twosJoined_34
        refine ⟨hX.k11_2, by omega, sp_size (by omega) hL ?_⟩
        rw [l2]
        refine br_f (nI_nlt (Nat.le_refl _) (by omega)) (nxt x ?_)
        rw [hx, hacc]
        rfl
      | succ j ihj =>
        intro q x hq hx
        have hlq : q < nRd S := by omega
        obtain ⟨q0, q1, q2, -⟩ := hR.2 q hlq
        have vq := (hI.r hlq).2.1
        have cq := (hC.2.2.2 _ (vp_lt vq)).1
        have gq : gS S 121 (nI q) = S 121 q := gS_nI S 121 (by omega)
        have stp : ∀ y : Int32, y = jB S (nI c) (nI o) (nI a) acc (q + 1) → Ex d rc rs m_X10_twosJoined 97 [vR (some (11, 0)), vI (nI c), vI (nI o), vI y, vI (nI a), vR (some (5, a)), vI (nI q), vU] [] σ Q := fun y hy => by
          refine sX10_twosJoined_97 ?_
          unfold bX10_twosJoined_97
          rw [nI_1]
          exact ihj (q + 1) y (by omega) hy
        refine sX10_twosJoined_34 ?_
        unfold bX10_twosJoined_34
        refine ⟨hX.k11_2, by omega, sp_size (by omega) hL ?_⟩
        rw [l2]
        refine br_t (nI_lt (by omega) (by omega)) (drf_of rfl (drf_of g2 ?_))
        rw [ca, ← nI_of_nn (vp_nn va)]
        refine ⟨fun c1 => ⟨hX.k11_2, by omega, ?_⟩, fun c1 => nxt x ?_⟩
        · refine sp_get (z := (5, q)) (by omega) (by omega) hL rfl (by simp [EL, hlq]) (by rw [l2]; omega) ?_
          dsimp only [kR]
          refine cst_of rfl (drf_of rfl (drf_of q2 ?_))
          rw [cq, ← nI_of_nn (vp_nn vq)]
          refine ⟨fun c2 => drf_of rfl ⟨by omega, ?_⟩, fun c2 => stp x ?_⟩
          · refine sp_X4_isJoinedTo (by omega) hX hI hS hC hR hla hlq (fun c3 => br_f (by decide) (stp _ ?_)) (fun c3 => br_t rfl (stp _ ?_))
            · unfold jB
              rw [if_pos ⟨by rw [ga]; exact c1, by rw [gq]; exact c2, c3⟩, hx]
            · unfold jB
              rw [if_neg (fun z => c3 z.2.2), hx]
          · unfold jB
            rw [if_neg (fun z => c2 (by rw [← gq]; exact z.2.1)), hx]
        · have nc : ¬ gS S 121 (nI a) = nI c := by rw [ga]; exact c1
          rw [hx, jB_skip nc]
          show acc = jB S (nI c) (nI o) (nI a) (jA S (nI c) (nI o) a) (nRd S)
          rw [jB_skip nc, hacc]
    refine sX10_twosJoined_5 ?_
    unfold bX10_twosJoined_5
    refine ⟨hX.k11_2, by omega, sp_size (by omega) hL ?_⟩
    rw [l2]
    refine br_t (nI_lt (by omega) (by omega)) ⟨hX.k11_2, by omega, ?_⟩
    refine sp_get (z := (5, a)) (by omega) (by omega) hL rfl (by simp [EL, hla]) (by rw [l2]; omega) ?_
    dsimp only [kR]
    refine cst_of rfl ?_
    have g := lb (nRd S) 0 acc (by omega) rfl
    rw [nI_0] at g
    exact g
theorem lp_X10_be {d rc rs : Nat} {c : Nat} {S : SS} {ρ : List Nat} {σ : XH} {Q : XV → XH → Prop} (hd : 4 ≤ d) (hB : CBase σ S ρ) (hI : SInv S) (hc : c < nCl S) (h : Q (vI (beF S (nI c) (nCl S)).1) σ) : ∀ (m o : Nat) (b w : Int32), o + m = nCl S → b = (beF S (nI c) o).1 → w = (beF S (nI c) o).2 → Ex d rc rs m_X10_beside 30 [vR (some (11, 0)), vI (nI c), vU, vI b, vI w, vI (nI o), vU] [] σ Q := by
  have hX := hB.1
  have hL := hB.2.1
  have h12 := hI.l2
  have l1 := (EL_len S ρ).2.1
  intro m
  induction m with
  | zero =>
    intro o b w ho hb hw
    have e : o = nCl S := by omega
    subst hb
    rw [e]
    refine sX10_beside_30 ?_
    unfold bX10_beside_30
    refine ⟨hX.k11_1, by omega, sp_size (by omega) hL ?_⟩
    rw [l1]
    exact br_f (nI_nlt (Nat.le_refl _) (by omega)) h
  | succ m ih =>
    intro o b w ho hb hw
    have f59 : ∀ q : Int32, q = jA S (nI c) (nI o) (nRd S) → Ex d rc rs m_X10_beside 59 [vR (some (11, 0)), vI (nI c), vU, vI b, vI w, vI (nI o), vU] [vI q] σ Q := fun q hq => by
      refine sX10_beside_59 ?_
      refine ⟨fun z => ?_, fun z => ?_⟩
      · refine sX10_beside_75 ?_
        unfold bX10_beside_75
        rw [nI_1]
        refine ih (o + 1) _ _ (by omega) ?_ ?_
        · unfold beF
          rw [← hw, ← hq, if_pos z]
        · unfold beF
          rw [← hw, ← hq, if_pos z]
      · refine sX10_beside_75 ?_
        unfold bX10_beside_75
        rw [nI_1]
        refine ih (o + 1) _ _ (by omega) ?_ ?_
        · unfold beF
          rw [← hw, ← hq, if_neg z]
          exact hb
        · unfold beF
          rw [← hw, ← hq, if_neg z]
          exact hw
    refine sX10_beside_30 ?_
    unfold bX10_beside_30
    refine ⟨hX.k11_1, by omega, sp_size (by omega) hL ?_⟩
    rw [l1]
    refine br_t (nI_lt (by omega) (by omega)) ⟨fun e => f59 0 (by rw [e, jA_same]), fun e => ⟨by omega, ?_⟩⟩
    refine Ec_of mo_X10_twosJoined.1 (Nat.le_of_ble_eq_true rfl) ?_
    refine sX10_twosJoined_0 ?_
    unfold bX10_twosJoined_0
    have g := lp_X10_twos (d := d - 1) (rc := 0) (rs := 0) (c := c) (o := o) (Q := kI fun x4 h3 => Ex d rc rs m_X10_beside 59 [vR (some (11, 0)), vI (nI c), vU, vI b, vI w, vI (nI o), vU] [vI x4] h3 Q) (by omega) hB hI (f59 _ rfl) (nRd S) 0 0 (by omega) rfl
    rw [nI_0] at g
    exact g
theorem sp_X10_beside {d : Nat} {c : Int32} {S : SS} {ρ : List Nat} {σ : XH} {Q : XV → XH → Prop} (hd : 4 ≤ d) (hB : CBase σ S ρ) (hI : SInv S) (h : Q (vI (besideG S c)) σ) : Ec d 0 0 m_X10_beside [vR (some (11, 0)), vI c] σ Q := by
  have hB2 := hB
  obtain ⟨hX, hL, hS, hC, hR⟩ := hB
  unfold besideG at h
  refine Ec_of mo_X10_beside.1 (Nat.le_of_ble_eq_true rfl) ?_
  refine sX10_beside_0 ?_
  unfold bX10_beside_0
  refine ⟨by omega, ?_⟩
  refine sp_X10_clockAt (by omega) hX hL hI.n2 (by have := hI.l2; omega) (fun r hlr e z => br_f some_ne ?_) (fun z => br_t rfl ?_)
  · subst e
    rw [if_pos z, gS_nI S 119 (by have := hI.l2; omega)] at h
    refine drf_of rfl ⟨by omega, ?_⟩
    refine sp_X1_hasStopped hC hlr (hI.c hlr).2 (fun y => br_f (by decide) ?_) (fun y => br_t rfl ?_)
    · rw [if_neg y] at h
      have g := lp_X10_be (d := d) (rc := 0) (rs := 0) (by omega) hB2 hI hlr h (nCl S) 0 (-1) 0 (by omega) rfl rfl
      rw [nI_0] at g
      exact g
    · rw [if_pos y] at h
      exact h
  · rw [if_neg z] at h
    exact h
