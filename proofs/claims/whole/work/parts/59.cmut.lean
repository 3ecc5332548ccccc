/-! ===== the class: calls that change ===== -/
theorem Loc.cs {P : Int32 → Prop} {S S' : SS} {σ σ' : XH} {T : Nat → Bool} (h : Loc P S S') (hS : CSt σ S) (hF : Fr T σ σ') (t8 : T 8 = false) (t106 : T 106 = false) (k1 : S' 12 1 = S 12 1) (a146 : S' 146 = S 146) : CSs σ' S' ∧ ∀ s, s < nSt S → (∀ c, P c → ¬ gS S 118 c = nI s) → hi σ' 8 s 4 = lonF S' (nI s) := by
  have en : nSt S' = nSt S := by simp only [nSt, k1]
  obtain ⟨h1, h2, h3⟩ := hS
  refine ⟨⟨by rw [hF.c t8, en]; exact h1, by rw [hF.c t106, en]; exact h2, fun s hs => ?_⟩, fun s hs hp => ?_⟩
  · rw [en] at hs
    obtain ⟨g1, g2, g3, g4, g5⟩ := h3 s hs
    rw [hF.i t8, hF.i t106, hF.r t8, hF.n t106, h.2.2.1, h.2.2.2.1, a146]
    exact ⟨g1, g2, g3, g5⟩
  · rw [hF.i t8, h.lonE hp]
    exact (h3 s hs).2.2.2.1
theorem Loc.cc {P : Int32 → Prop} {S S' : SS} {σ σ' : XH} {T : Nat → Bool} (h : Loc P S S') (hC : CCl σ S) (hF : Fr T σ σ') (t2 : T 2 = false) (t101 : T 101 = false) (t102 : T 102 = false) (k2 : S' 12 2 = S 12 2) (a119 : ∀ c, c < nCl S → S' 119 c = S 119 c) : CCs σ' S' ∧ ∀ c, c < nCl S → ¬ P (nI c) → StR σ' S' c (nRd S') := by
  have en : nCl S' = nCl S := by simp only [nCl, k2]
  obtain ⟨h1, h2, h3, h4⟩ := hC
  refine ⟨⟨by rw [hF.c t2, en]; exact h1, by rw [hF.c t101, en]; exact h2, by rw [hF.c t102, en]; exact h3, fun c hc => ?_⟩, fun c hc hp => ?_⟩
  · rw [en] at hc
    obtain ⟨g0, g1, g2, g3, g4, g5, g6, g7⟩ := h4 c hc
    rw [hF.i t2, hF.r t2, hF.n t101, hF.n t102, h.2.2.2.2.1, a119 c hc]
    exact ⟨g0, g1, g2, g3, g4, g5, g6⟩
  · exact h.stR hp (h4 c hc).2.2.2.2.2.2.2 (by rw [hF.i t2]) (by rw [hF.i t101]) (by rw [hF.i t102])
/-- nothing is touched -/
theorem Loc.no {S S' : SS} {σ σ' : XH} {T : Nat → Bool} (h : Loc (fun _ => False) S S') (hS : CSt σ S) (hC : CCl σ S) (hF : Fr T σ σ') (t : ∀ s, s ∈ [8, 106, 2, 101, 102] → T s = false) (k1 : S' 12 1 = S 12 1) (k2 : S' 12 2 = S 12 2) (a146 : S' 146 = S 146) (a119 : ∀ c, c < nCl S → S' 119 c = S 119 c) : CSt σ' S' ∧ CCl σ' S' := by
  have en : nSt S' = nSt S := by simp only [nSt, k1]
  have ec : nCl S' = nCl S := by simp only [nCl, k2]
  obtain ⟨a1, a2⟩ := h.cs hS hF (t 8 (by decide)) (t 106 (by decide)) k1 a146
  obtain ⟨b1, b2⟩ := h.cc hC hF (t 2 (by decide)) (t 101 (by decide)) (t 102 (by decide)) k2 a119
  exact ⟨a1.t (fun s hs => a2 s (by rw [← en]; exact hs) (fun c z => z.elim)), b1.t (fun c hc => b2 c (by rw [← ec]; exact hc) (fun z => z))⟩
theorem sp_X10_pass {d : Nat} {n : Int32} {S : SS} {σ : XH} {Q : XV → XH → Prop} (hd : 1 ≤ d) (hC : CSc σ S) (h : ∀ σ', Fi (tl [11]) σ σ' → CSc σ' (passF S n).2 → Q (vI (passF S n).1) σ') : Ec d 0 0 m_X10_pass [vR (some (11, 0)), vI n] σ Q := by
  unfold passF at h
  have bad : ¬ (inP n 1 400 ∧ ¬ 9999 < S 12 0 + n) → Ex d 0 0 m_X10_pass 23 [vU, vU] [] σ Q := fun z => by
    rw [if_neg z] at h
    refine sX10_pass_23 ?_
    exact h σ (Fi.rf _ _) hC
  refine Ec_of mo_X10_pass.1 (Nat.le_of_ble_eq_true rfl) ?_
  refine sX10_pass_0 ?_
  unfold bX10_pass_0
  refine ⟨by omega, sp_X10_within (fun z => br_f (by decide) ?_) (fun z => br_t rfl (bad (fun y => z y.1)))⟩
  rw [hC.1]
  refine ⟨fun c => bad (fun y => y.2 c), fun c => ?_⟩
  rw [if_pos ⟨z, c⟩] at h
  intro g1 e1
  subst e1
  rw [hi_wI_eq]
  refine h _ (Fi.wI (Fi.rf _ _) (by decide) _ _ _) ⟨?_, ?_, ?_⟩
  · rw [hi_wI_eq]
    exact (up2_eq S 12 0 _).symm
  · rw [hi_wI_k _ _ _ _ _ (by decide)]
    exact hC.2.1.trans (up2_k S 12 (S 12 0 + n) (show 3 ≠ 0 by decide) 12).symm
  · rw [hi_wI_k _ _ _ _ _ (by decide)]
    show _ = if up2 S 12 0 (S 12 0 + n) 12 19 < 0 then -3 else up2 S 12 0 (S 12 0 + n) 12 19
    simp only [up2_k S 12 (S 12 0 + n) (show 19 ≠ 0 by decide) 12]
    exact hC.2.2
theorem sp_X10_table {d : Nat} {n t : Int32} {S : SS} {σ : XH} {Q : XV → XH → Prop} (hd : 2 ≤ d) (hX : CFX σ) (hC : CTb σ S) (h : ∀ σ', Fi (tl [115]) σ σ' → CTb σ' (tableF S n t).2 → Q (vI (tableF S n t).1) σ') : Ec d 0 0 m_X10_table [vR (some (11, 0)), vI n, vI t] σ Q := by
  unfold tableF at h
  refine Ec_of mo_X10_table.1 (Nat.le_of_ble_eq_true rfl) ?_
  refine sX10_table_0 ?_
  unfold bX10_table_0
  refine ⟨by omega, sp_X10_isEdgeNumber (by omega) (fun z => br_f (by decide) ⟨by omega, ?_⟩) (fun z => br_t rfl ?_)⟩
  · rw [if_pos z] at h
    refine sp_X10_isTime (by omega) (fun z2 => br_f (by decide) ?_) (fun z2 => br_t rfl ?_)
    · rw [if_pos z2] at h
      have v : vp_in n 5 := inP_c z (by decide) (by decide)
      refine ⟨hX.k11_7, vp_at hX.n115 v, hX.k11_7, vp_at hX.n115 v, ?_⟩
      intro g1 e1
      subst e1
      rw [hC _ (by have := vp_lt v; omega)]
      refine h _ (Fi.wI (Fi.rf _ _) (by decide) _ _ _) (fun k hk => ?_)
      show hi (wI σ 115 0 n.toNatClampNeg t) 115 0 k = up2 S 145 n.toNatClampNeg t 145 k
      rw [hi_wI_at, up2_at]
      by_cases e : k = n.toNatClampNeg
      · rw [if_pos ⟨rfl, e⟩, if_pos e]
      · rw [if_neg (fun y => e y.2), if_neg e]
        exact hC k hk
    · rw [if_neg z2] at h
      exact h σ (Fi.rf _ _) hC
  · rw [if_neg z] at h
    exact h σ (Fi.rf _ _) hC
theorem lev_ix : ∀ s, s < 11 → ∀ n, n < 5 → 1 ≤ n → 4 * nI s + nI n - 1 = nI (4 * s + n - 1) := by decide +kernel
theorem sp_X10_lever {d : Nat} {s n v : Int32} {S : SS} {ρ : List Nat} {σ : XH} {Q : XV → XH → Prop} (hd : 4 ≤ d) (hX : CFX σ) (hL : LL σ (EL S ρ)) (hI : SInv S) (hS : CSt σ S) (h : ∀ σ', Fi (tl [106]) σ σ' → CSt σ' (leverF S s n v).2 → Q (vI (leverF S s n v).1) σ') : Ec d 0 0 m_X10_lever [vR (some (11, 0)), vI s, vI n, vI v] σ Q := by
  unfold leverF at h
  have h11 := hI.l1
  have bad : ¬ (isSt S s ∧ inP n 1 4 ∧ inP v (-99) 99) → Ex d 0 0 m_X10_lever 30 [vU, vU, vU, vU, vU, vU] [] σ Q := fun z => by
    rw [if_neg z] at h
    refine sX10_lever_30 ?_
    exact h σ (Fi.rf _ _) hS
  refine Ec_of mo_X10_lever.1 (Nat.le_of_ble_eq_true rfl) ?_
  refine sX10_lever_0 ?_
  unfold bX10_lever_0
  refine ⟨by omega, sp_X10_stationAt (by omega) hX hL hI.n1 (by omega) (fun q hq eq z => br_f some_ne ⟨by omega, ?_⟩) (fun z => br_t rfl (bad (fun y => z y.1)))⟩
  refine sp_X10_isEdgeNumber (by omega) (fun z2 => br_f (by decide) ⟨by omega, ?_⟩) (fun z2 => br_t rfl (bad (fun y => z2 y.2.1)))
  refine sp_X10_within (fun z3 => br_f (by decide) ?_) (fun z3 => br_t rfl (bad (fun y => z3 y.2.2)))
  subst eq
  have vn : vp_in n 5 := inP_c z2 (by decide) (by decide)
  have n1 : 1 ≤ n.toNatClampNeg := by
    rw [inP_iff, fa_lt] at z2
    have e1 : (1 : Int32).toInt = 1 := by decide
    have ec : n.toNatClampNeg = n.toInt.toNat := rfl
    omega
  have en : n = nI n.toNatClampNeg := nI_of_nn (vp_nn vn)
  have hn5 := vp_lt vn
  have ix : 4 * nI q + n - 1 = nI (4 * q + n.toNatClampNeg - 1) := by
    have := lev_ix q (by omega) n.toNatClampNeg hn5 n1
    rw [← en] at this
    exact this
  rw [if_pos ⟨z, z2, z3⟩, ix, nI_clamp (by omega), gS_nI S 146 (by omega)] at h
  obtain ⟨g1, g2, g3, g4, g5, g6, g7, g8⟩ := hS.2.2 q hq
  refine drf_of rfl ⟨g5, vp_at g6 vn, drf_of rfl ⟨g5, vp_at g6 vn, ?_⟩⟩
  intro k1 e1
  subst e1
  rw [g8 _ n1 (by omega)]
  refine h _ (Fi.wI (Fi.rf _ _) (by decide) _ _ _) ⟨hS.1, hS.2.1, fun r hr_ => ?_⟩
  obtain ⟨f1, f2, f3, f4, f5, f6, f7, f8⟩ := hS.2.2 r hr_
  have e8 : hi (wI σ 106 q n.toNatClampNeg v) 8 = hi σ 8 := hi_wI_ne _ _ _ _ (by decide)
  have lon : lonF (up2 S 146 (4 * q + n.toNatClampNeg - 1) v) (nI r) = lonF S (nI r) := lonF_cg (fun t ht => up2_s _ _ _ (by revert t; decide)) (by rw [up2_s _ _ _ (by decide)]) _
  dsimp only
  simp only [e8, lon, up2_s S (s := 146) (s' := 116) (4 * q + n.toNatClampNeg - 1) v (by decide), up2_s S (s := 146) (s' := 117) (4 * q + n.toNatClampNeg - 1) v (by decide)]
  refine ⟨f1, f2, f3, f4, f5, f6, ?_, fun k k1 k2 => ?_⟩
  · rw [hi_wI_k _ _ _ _ _ (by omega)]
    exact f7
  · rw [hi_wI_at, up2_at]
    by_cases e : r = q ∧ k = n.toNatClampNeg
    · rw [if_pos e, if_pos (by omega)]
    · rw [if_neg e, if_neg (fun y => e (by omega))]
      exact f8 k k1 k2
theorem sp_X10_number {d : Nat} {r n : Int32} {S : SS} {ρ : List Nat} {σ : XH} {Q : XV → XH → Prop} (hd : 4 ≤ d) (hB : CBase σ S ρ) (hI : SInv S) (h : ∀ σ', Fi (tl [5]) σ σ' → CRd σ' (numberF S r n).2 → Q (vI (numberF S r n).1) σ') : Ec d 0 0 m_X10_number [vR (some (11, 0)), vI r, vI n] σ Q := by
  obtain ⟨hX, hL, hS, hC, hR⟩ := hB
  unfold numberF at h
  have h90 := hI.l8
  refine Ec_of mo_X10_number.1 (Nat.le_of_ble_eq_true rfl) ?_
  refine sX10_number_0 ?_
  unfold bX10_number_0
  refine ⟨by omega, sp_X10_readingAt (by omega) hX hL hI.n8 hI.l8 (fun q hlq eq z => br_f some_ne ?_) (fun z => br_t rfl ?_)⟩
  · subst eq
    rw [if_pos z, kN_eq S (by omega), gS_nI S 125 (by omega), nI_clamp (by omega)] at h
    refine drf_of rfl ⟨by omega, ?_⟩
    refine sp_X4_kindNow (by omega) hR hlq ?_
    refine ⟨fun c => ⟨by omega, ?_⟩, fun c => ?_⟩
    · rw [if_pos c] at h
      refine sp_X10_isEdgeNumber (by omega) (fun z2 => br_f (by decide) ?_) (fun z2 => br_t rfl ?_)
      · rw [if_pos z2] at h
        have c4 := ((kN_is (by decide)).mp c).1
        have n125 : ¬ S 125 q = -1 := fun y => by
          have := (hI.r hlq).2.2.2.2.2.2.2.2.1 (Or.inr (Or.inl c4))
          rw [y] at this
          exact absurd this (by decide)
        have nn : ¬ n = -1 := fun y => by
          rw [y] at z2
          exact absurd z2 (by decide)
        refine drf_of rfl (drf_of rfl ?_)
        intro g1 e1
        subst e1
        rw [(hR.2 q hlq).2.2.2.2.2.2.2.1, if_neg n125]
        refine h _ (Fi.wI (Fi.rf _ _) (by decide) _ _ _) ⟨?_, fun p hp => ?_⟩
        · show hc σ 5 = nRd (up2 S 125 q n)
          rw [hR.1]
          simp only [nRd, up2_s S (s := 125) (s' := 12) q n (by decide)]
        · have hp' : p < nRd S := by
            have e : nRd (up2 S 125 q n) = nRd S := by simp only [nRd, up2_s S (s := 125) (s' := 12) q n (by decide)]
            rw [← e]
            exact hp
          obtain ⟨f0, f1, f2, f3, f4, f5, f6, f7, f8, f9, f10⟩ := hR.2 p hp'
          dsimp only
          simp only [hi_wI_at, up2_s S (s := 125) (s' := 120) q n (by decide), up2_s S (s := 125) (s' := 121) q n (by decide), up2_s S (s := 125) (s' := 122) q n (by decide), up2_s S (s := 125) (s' := 123) q n (by decide), up2_s S (s := 125) (s' := 124) q n (by decide), up2_s S (s := 125) (s' := 126) q n (by decide), up2_s S (s := 125) (s' := 127) q n (by decide), up2_s S (s := 125) (s' := 128) q n (by decide), up2_s S (s := 125) (s' := 129) q n (by decide), up2_at, Nat.reduceEqDiff, and_false, if_false]
          refine ⟨f0, f1, f2, f3, f4, f5, f6, ?_, f8, f9, f10⟩
          by_cases e : p = q
          · rw [if_pos ⟨e, trivial⟩, if_pos e, if_neg nn]
          · rw [if_neg (fun y => e y.1), if_neg e]
            exact f7
      · rw [if_neg z2] at h
        exact h σ (Fi.rf _ _) hR
    · rw [if_neg c] at h
      exact h σ (Fi.rf _ _) hR
  · rw [if_neg z] at h
    exact h σ (Fi.rf _ _) hR
theorem EL_cg {S S' : SS} (h1 : S' 12 1 = S 12 1) (h2 : S' 12 2 = S 12 2) (h8 : S' 12 8 = S 12 8) (h20 : S' 12 20 = S 12 20) (h59 : S' 12 59 = S 12 59) (ρ : List Nat) : EL S' ρ = EL S ρ := by
  funext j
  unfold EL
  simp only [nSt, nCl, nRd, nLe, nPl, h1, h2, h8, h20, h59]
theorem sp_X10_stop {d : Nat} {c t : Int32} {S : SS} {ρ : List Nat} {σ : XH} {Q : XV → XH → Prop} (hd : 5 ≤ d) (hB : CBase σ S ρ) (hI : SInv S) (hI' : SInv (stopF S c t).2) (h : ∀ σ', Fi (tl [2, 101, 102, 8]) σ σ' → CBase σ' (stopF S c t).2 ρ → Q (vI (stopF S c t).1) σ') : Ec d 0 0 m_X10_stop [vR (some (11, 0)), vI c, vI t] σ Q := by
  have hB0 := hB
  obtain ⟨hX, hL, hS, hC, hR⟩ := hB
  unfold stopF at h hI'
  have h12 := hI.l2
  have h11 := hI.l1
  refine Ec_of mo_X10_stop.1 (Nat.le_of_ble_eq_true rfl) ?_
  refine sX10_stop_0 ?_
  unfold bX10_stop_0
  refine ⟨by omega, sp_X10_clockAt (by omega) hX hL hI.n2 (by omega) (fun q hq eq z => br_f some_ne ⟨by omega, ?_⟩) (fun z => br_t rfl ?_)⟩
  · subst eq
    rw [if_pos z, gS_nI S 119 (by omega), nI_clamp (by omega)] at h hI'
    refine sp_X10_isTime (by omega) (fun z2 => br_f (by decide) ?_) (fun z2 => br_t rfl ?_)
    · rw [if_pos z2] at h hI'
      refine drf_of rfl ⟨by omega, ?_⟩
      refine sp_X1_hasStopped hC hq (hI.c hq).2 (fun y => br_f (by decide) ?_) (fun y => br_t rfl ?_)
      · rw [if_neg y] at h
        exact h σ (Fi.rf _ _) hB0
      · rw [if_pos y] at h hI'
        dsimp only at h hI'
        refine drf_of rfl ?_
        intro g1 e1
        -- the new state
        have a : ∀ s, s ≠ 119 → up2 S 119 q t s = S s := fun s hs => up2_s _ _ _ hs
        have en1 : nSt (up2 S 119 q t) = nSt S := by simp only [nSt, a 12 (by decide)]
        have en2 : nCl (up2 S 119 q t) = nCl S := by simp only [nCl, a 12 (by decide)]
        have en8 : nRd (up2 S 119 q t) = nRd S := by simp only [nRd, a 12 (by decide)]
        have hLoc : Loc (fun c => c.toNatClampNeg = q) S (up2 S 119 q t) := by
          refine ⟨by rw [en8]; exact Nat.le_refl _, by rw [en8]; exact hI.l8, a 116 (by decide), a 117 (by decide), a 118 (by decide), fun c hc => ?_, fun r _ => ?_, fun r _ => Or.inl (by rw [a 129 (by decide)]), fun r r1 r2 => by rw [en8] at r2; omega⟩
          · show up2 S 119 q t 119 _ = S 119 _
            rw [up2_at, if_neg hc]
          · rw [a 120 (by decide), a 121 (by decide), a 123 (by decide), a 124 (by decide)]
            exact ⟨rfl, rfl, rfl, rfl⟩
        have t0 : ¬ t < 0 := by
          rw [inP_iff] at z2
          exact z2.1
        have hF : Fi (tl [2]) σ g1 := by
          rw [e1]
          exact Fi.wI (Fi.rf _ _) (by decide) _ _ _
        have hX1 : CFX g1 := hX.fi hF rfl rfl rfl
        have eE : EL (up2 S 119 q t) ρ = EL S ρ := EL_cg (by rw [a 12 (by decide)]) (by rw [a 12 (by decide)]) (by rw [a 12 (by decide)]) (by rw [a 12 (by decide)]) (by rw [a 12 (by decide)]) ρ
        have hL1 : LL g1 (EL (up2 S 119 q t) ρ) := by
          rw [eE]
          exact hL.fr hF.fr rfl rfl rfl rfl
        have hSA : SA (tl [119]) (fun _ => false) S (up2 S 119 q t) := (SA.rf _ _ S).wa q t (by decide) (by decide)
        have hR1 : CRd g1 (up2 S 119 q t) := hR.tr hF.fr hSA (by decide) (by decide) (by decide)
        obtain ⟨a1, a2⟩ := hLoc.cs hS hF.fr rfl rfl (by rw [a 12 (by decide)]) (a 146 (by decide))
        have hCs : CCs g1 (up2 S 119 q t) := by
          obtain ⟨b1, b2, b3, b4⟩ := hC
          refine ⟨by rw [hF.c, en2]; exact b1, by rw [hF.c, en2]; exact b2, by rw [hF.c, en2]; exact b3, fun c' hc' => ?_⟩
          rw [en2] at hc'
          obtain ⟨d0, d1, d2, d3, d4, d5, d6, d7⟩ := b4 c' hc'
          rw [hF.r, hF.n, a 118 (by decide), up2_at, e1]
          refine ⟨by rw [hi_wI_k _ _ _ _ _ (by decide)]; exact d0, d1, d2, d3, d4, d5, ?_⟩
          rw [hi_wI_at]
          by_cases e : c' = q
          · rw [if_pos ⟨e, rfl⟩]
            simp only [e, if_true]
            rw [if_neg t0]
          · rw [if_neg (fun y => e y.1)]
            simp only [e, if_false]
            exact d6
        have vq := hI.c hq
        refine ⟨by omega, sp_keep (by omega) hX1 hL1 hI' a1 hCs hR1 (by rw [en2]; exact hq) (fun c' hc' hne => ?_) (fun s hs hne => ?_) (fun ht => ?_) ?_⟩
        · rw [en2] at hc'
          have hcq : hi g1 2 c' = hi σ 2 c' := by rw [e1, hi_wI_if _ _ _ _ _ hne]
          exact hLoc.stR (by show ¬ (nI c').toNatClampNeg = q; rw [nI_clamp (by omega)]; exact hne) (hC.2.2.2 c' hc').2.2.2.2.2.2.2 (by rw [hcq]) (by rw [hF.i (by decide)]) (by rw [hF.i (by decide)])
        · rw [en1] at hs
          rw [a 118 (by decide)] at hne
          refine a2 s hs (fun c' hc' y => hne ?_)
          have y2 : S 118 c'.toNatClampNeg = nI s := y
          rw [hc'] at y2
          rw [y2, nI_clamp (by omega)]
        · rw [a 118 (by decide)] at ht ⊢
          rw [a 116 (by decide)] at ht
          have hsc := vp_lt vq.1
          have esc : nI (S 118 q).toNatClampNeg = S 118 q := (nI_of_nn (vp_nn vq.1)).symm
          rw [hF.i (by decide), (hS.2.2 _ hsc).2.2.2.1, esc]
          unfold lonF
          have g116 : gS (up2 S 119 q t) 116 (S 118 q) = gS S 116 (S 118 q) := by
            show up2 S 119 q t 116 _ = S 116 _
            rw [a 116 (by decide)]
          rw [g116, if_neg ht, if_neg ht]
        · intro σ' k1 k2 k3
          refine sX10_stop_42 ?_
          refine h σ' ((hF.sub (tl_sub (by decide))).trans k1) ⟨hX1.fi k1 rfl rfl rfl, hL1.fr k1.fr rfl rfl rfl rfl, k2, k3, hR1.tr k1.fr (SA.rf (fun _ => false) (fun _ => false) _) (by decide) (by decide) (by decide)⟩
    · rw [if_neg z2] at h
      exact h σ (Fi.rf _ _) hB0
  · rw [if_neg z] at h
    exact h σ (Fi.rf _ _) hB0
