/-! ===== the class: reading ===== -/
theorem fit_more {k s m : Int32} : fitP k s m ↔ (inP k 1 5 ∧ moreP k s m) := by
  have e1 : (1 : Int32).toInt = 1 := by decide
  have e2 : (2 : Int32).toInt = 2 := by decide
  have e3 : (3 : Int32).toInt = 3 := by decide
  have e4 : (4 : Int32).toInt = 4 := by decide
  have e5 : (5 : Int32).toInt = 5 := by decide
  have e0 : (0 : Int32).toInt = 0 := by decide
  have ek : (1000 : Int32).toInt = 1000 := by decide
  have e49 : (4999 : Int32).toInt = 4999 := by decide
  unfold fitP moreP
  by_cases k1 : k = 1
  · subst k1
    simp only [if_true, show ¬ (1 : Int32) = 3 by decide, show ¬ (1 : Int32) = 4 by decide, show ¬ (1 : Int32) = 5 by decide, if_false]
    exact ⟨fun z => ⟨by decide, z⟩, fun z => z.2⟩
  rw [if_neg k1]
  by_cases k2 : k = 2
  · subst k2
    simp only [if_true, show ¬ (2 : Int32) = 3 by decide, show ¬ (2 : Int32) = 4 by decide, show ¬ (2 : Int32) = 5 by decide, if_false]
    exact ⟨fun z => ⟨by decide, z⟩, fun z => z.2⟩
  rw [if_neg k2]
  by_cases k3 : k = 3
  · subst k3
    simp only [if_true]
    exact ⟨fun z => ⟨by decide, z⟩, fun z => z.2⟩
  rw [if_neg k3]
  by_cases k4 : k = 4
  · subst k4
    simp only [if_true, show ¬ (4 : Int32) = 3 by decide, if_false]
    exact ⟨fun z => ⟨by decide, z⟩, fun z => z.2⟩
  rw [if_neg k4]
  by_cases k5 : k = 5
  · subst k5
    simp only [if_true, show ¬ (5 : Int32) = 3 by decide, show ¬ (5 : Int32) = 4 by decide, if_false]
    have ed := div_t (a := m) (b := 1000) (by decide)
    rw [ek] at ed
    have r := fb_rng m
    have key : (0 < m ∧ inP (m / 1000) 1 4) ↔ inP m 1000 4999 := by
      rw [inP_iff, inP_iff, fa_lt, fa_lt, fa_lt, fa_lt, fa_lt, ed, e0, e1, e4, ek, e49, tdiv_pos _ (by decide)]
      constructor
      · intro z
        rw [if_pos (Or.inl (by omega))] at z
        omega
      · intro z
        rw [if_pos (Or.inl (by omega))]
        omega
    constructor
    · intro z
      exact ⟨by decide, key.mp ⟨z.1, z.2.1⟩, z.2.2⟩
    · intro z
      have := key.mpr z.2.1
      exact ⟨this.1, this.2, z.2.2⟩
  · rw [if_neg k5]
    constructor
    · exact fun z => z.elim
    · intro z
      have := z.1
      rw [inP_iff, fa_lt, fa_lt] at this
      rw [fa_eq] at k1 k2 k3 k4 k5
      omega
theorem sp_X10_reading {d : Nat} {k c x s m : Int32} {S : SS} {ρ : List Nat} {σ : XH} {Q : XV → XH → Prop} (hd : 8 ≤ d) (hB : CBase σ S ρ) (hSc : CSc σ S) (hI : SInv S) (hI' : SInv (readingF S k c x s m).2) (h : ∀ σ', Fr (tl [11, 5, 0, 410, 411, 2, 101, 102, 8]) σ σ' → CBase σ' (readingF S k c x s m).2 ρ → CSc σ' (readingF S k c x s m).2 → Q (vI (readingF S k c x s m).1) σ') : Ec d 2 211 m_X10_reading [vR (some (11, 0)), vI k, vI c, vI x, vI s, vI m] σ Q := by
  have hB0 := hB
  obtain ⟨hX, hL, hS, hC, hR⟩ := hB
  unfold readingF at h hI'
  have h90 := hI.l8
  have h12 := hI.l2
  have h11 := hI.l1
  have l2 := (EL_len S ρ).2.2.1
  have f19 : ¬ (isCl S c ∧ inP x 0 5) → Ex d 2 211 m_X10_reading 19 [vU, vU, vU, vU, vU, vU, vU, vU] [] σ Q := fun z => by
    rw [if_neg z] at h
    refine sX10_reading_19 ?_
    exact h σ (Fr.rf _ _) hB0 hSc
  refine Ec_of mo_X10_reading.1 (Nat.le_of_ble_eq_true rfl) ?_
  refine sX10_reading_0 ?_
  unfold bX10_reading_0
  refine ⟨by omega, sp_X10_clockAt (by omega) hX hL hI.n2 (by omega) (fun cn hcn eq z => br_f some_ne ⟨by omega, ?_⟩) (fun z => br_t rfl (f19 (fun y => z y.1)))⟩
  refine sp_X10_isHand (by omega) (fun z2 => br_f (by decide) ⟨by omega, ?_⟩) (fun z2 => br_t rfl (f19 (fun y => z2 y.2)))
  rw [if_pos ⟨z, z2⟩] at h hI'
  have f40 : ¬ (inP k 1 5 ∧ inP s 0 999999 ∧ moreP k s m) → Ex d 2 211 m_X10_reading 40 [vU, vU, vU, vU, vU, vU, vU, vU] [] σ Q := fun z => by
    rw [if_neg z] at h
    refine sX10_reading_40 ?_
    exact h σ (Fr.rf _ _) hB0 hSc
  refine sp_X10_isTime (by omega) (fun z3 => br_f (by decide) ⟨by omega, ?_⟩) (fun z3 => br_t rfl (f40 (fun y => z3 y.2.1)))
  refine sp_X10_fitsKind (by omega) (fun z4 => br_f (by decide) ⟨hX.k11_2, by omega, sp_size (by omega) hL ?_⟩) (fun z4 => br_t rfl (f40 (fun y => z4 (fit_more.mpr ⟨y.1, y.2.2⟩))))
  have z5 := fit_more.mp z4
  rw [if_pos ⟨z5.1, z3, z5.2⟩] at h hI'
  rw [l2]
  have e90 : (90 : Int32) = nI 90 := by decide
  refine ⟨fun c9 => ⟨by omega, by omega, by omega, ?_⟩, fun c9 => ?_⟩
  · rw [e90] at c9
    have hlt := (nI_ltI (by omega) (by omega)).mp c9
    have n90 : ¬ S 12 8 = 90 := fun y => by
      rw [hI.n8, e90] at y
      have := nI_inj (by omega) (by omega) y
      omega
    rw [if_neg n90] at h hI'
    subst eq
    have hk6 : ¬ k = 6 := fun y => by
      rw [y] at z5
      exact absurd z5.1 (by decide)
    refine sp_X10_tell (by omega) hX hL hR hSc hI hlt ?_
    intro σ1 hT
    dsimp only [kR]
    obtain ⟨-, -, -, -, -, ⟨u0, -, -, -, -, -, u6, u7, -⟩, -⟩ := id hT
    -- what follows, once the two fields are told
    have fin : ∀ (σ2 : XH) (m' num : Int32), m' = (if k = 5 then (m - m / 1000 * 1000) - 500 else m) → num = (if k = 3 then m else if k = 4 then 1 else if k = 5 then m / 1000 else -1) → Fi (tl [5]) σ1 σ2 → (∀ r j, hi σ2 5 r j = if r = nRd S ∧ j = 6 then (if k = 3 ∨ k = 6 then 0 else m') else if r = nRd S ∧ j = 7 then (if num = -1 then 0 else num) else hi σ1 5 r j) → Ex d (2 - 2) (211 - 211) m_X10_reading 142 [vR (some (11, 0)), vI k, vU, vU, vU, vU, vR (some (2, cn)), vR (some (5, nRd S))] [] σ2 Q := fun σ2 m' num em en hF2 h5 => by
      rw [← em, ← en] at h hI'
      have hb := told_base (k := k) (c := nI cn) (h := x) (s := s) (m := m') (num := num) (q := -1) (ρ := ρ) hX hR hSc hI hlt (by rw [if_neg hk6, nI_clamp (by omega)]; exact hT) hF2 h5
      obtain ⟨b1, b2, b3, b4, b5⟩ := hb
      have f158 : ∀ σ', Fi (tl [2, 101, 102, 8]) σ2 σ' → CBase σ' (addF S k (nI cn) x s m' num (-1)).2 ρ → CSc σ' (addF S k (nI cn) x s m' num (-1)).2 → Ex d (2 - 2) (211 - 211) m_X10_reading 158 [vU, vU, vU, vU, vU, vU, vU, vR (some (5, nRd S))] [] σ' Q := fun σ' p1 p2 p3 => by
        refine sX10_reading_158 ?_
        refine drf_of rfl ?_
        have e0 : hi σ' 5 (nRd S) 0 = nI (nRd S) := by
          rw [p1.i rfl, h5, if_neg (fun y => absurd y.2 (by decide)), if_neg (fun y => absurd y.2 (by decide))]
          exact u0
        rw [e0]
        have := h σ' ((b1.sub (tl_sub (by decide))).trans (p1.fr.sub (tl_sub (by decide)))) p2 p3
        have ev : (addF S k (nI cn) x s m' num (-1)).1 = nI (nRd S) := by
          show S 12 8 + 1 - 1 = _
          rw [hI.n8, nI_1, nI_pred]
        rw [ev] at this
        exact this
      have f152 : Ex d (2 - 2) (211 - 211) m_X10_reading 152 [vR (some (11, 0)), vU, vU, vU, vU, vU, vR (some (2, cn)), vR (some (5, nRd S))] [] σ2 Q := by
        obtain ⟨hLoc, q1, q2, aoth⟩ := told_loc (k := k) (c := nI cn) (h := x) (s := s) (m := m') (num := num) (q := -1) hI hlt (fun c' => c'.toNatClampNeg = cn) (Or.inl (nI_clamp (by omega)))
        obtain ⟨a1, a2⟩ := hLoc.cs hS b1 rfl rfl q1 (aoth 146 (by decide))
        obtain ⟨d1, d2⟩ := hLoc.cc hC b1 rfl rfl rfl q2 (fun c' _ => by rw [aoth 119 (by decide)])
        have en1 : nSt (addF S k (nI cn) x s m' num (-1)).2 = nSt S := by simp only [nSt, q1]
        have en2 : nCl (addF S k (nI cn) x s m' num (-1)).2 = nCl S := by simp only [nCl, q2]
        have vq := hI.c hcn
        refine sX10_reading_152 ?_
        refine ⟨by omega, sp_keep (by omega) b2 b3 hI' a1 d1 b4 (by rw [en2]; exact hcn) (fun c' hc' hne => ?_) (fun t ht hne => ?_) (fun ht => ?_) ?_⟩
        · rw [en2] at hc'
          exact d2 c' hc' (by show ¬ (nI c').toNatClampNeg = _; rw [nI_clamp (by omega)]; exact hne)
        · rw [en1] at ht
          rw [aoth 118 (by decide)] at hne
          refine a2 t ht (fun c' hc' y => hne ?_)
          have y2 : S 118 c'.toNatClampNeg = nI t := y
          rw [hc'] at y2
          rw [y2, nI_clamp (by omega)]
        · rw [aoth 118 (by decide)] at ht ⊢
          rw [aoth 116 (by decide)] at ht
          have hsc := vp_lt vq.1
          have esc : nI (S 118 cn).toNatClampNeg = S 118 cn := (nI_of_nn (vp_nn vq.1)).symm
          rw [b1.i (by decide), (hS.2.2 _ hsc).2.2.2.1, esc]
          unfold lonF
          have g116 : gS (addF S k (nI cn) x s m' num (-1)).2 116 (S 118 cn) = gS S 116 (S 118 cn) := by
            show (addF S k (nI cn) x s m' num (-1)).2 116 _ = S 116 _
            rw [aoth 116 (by decide)]
          rw [g116, if_neg ht, if_neg ht]
        · intro σ' k1 k2 k3
          exact f158 σ' k1 ⟨b2.fi k1 rfl rfl rfl, b3.fr k1.fr rfl rfl rfl rfl, k2, k3, b4.tr k1.fr (SA.rf (fun _ => false) (fun _ => false) _) (by decide) (by decide) (by decide)⟩ (b5.tr k1.fr (SA.rf (fun _ => false) (fun _ => false) _) (by decide) (by decide) (by decide))
      refine sX10_reading_142 ?_
      refine ⟨fun _ => f152, fun n1 => ⟨fun _ => f152, fun n2 => ?_⟩⟩
      obtain ⟨c1, c2⟩ := told_plain (k := k) (c := nI cn) (h := x) (s := s) (m := m') (num := num) (q := -1) hS hC hI hlt ⟨n1, n2⟩ b1
      exact f158 σ2 (Fi.rf _ _) ⟨b2, b3, c1, c2, b4⟩ b5
    refine ⟨fun k3 => drf_of rfl ?_, fun k3 => ⟨fun k5 => ⟨by decide, drf_of rfl ?_⟩, fun k5 => drf_of rfl ?_⟩⟩
    · intro g1 e1
      refine fin g1 m m (by rw [if_neg (by rw [k3]; decide)]) (by rw [if_pos k3]) (by rw [e1]; exact Fi.wI (Fi.rf _ _) (by decide) _ _ _) (fun r j => ?_)
      rw [e1, hi_wI_at]
      have mn : ¬ m = -1 := fun y => by
        have z6 := z5.2
        unfold moreP at z6
        rw [if_pos k3, y] at z6
        exact absurd z6 (by decide)
      by_cases c1 : r = nRd S ∧ j = 6
      · rw [if_pos c1, if_neg (fun y => by omega), if_pos (Or.inl k3), c1.1, c1.2]
        exact u6
      · rw [if_neg c1, if_neg mn]
    · intro g1 e1
      refine ⟨by decide, drf_of rfl ?_⟩
      intro g2 e2
      refine fin g2 _ _ (by rw [if_pos k5]) (by rw [if_neg k3, if_neg (by rw [k5]; decide), if_pos k5]) (by rw [e2, e1]; exact Fi.wI (Fi.wI (Fi.rf _ _) (by decide) _ _ _) (by decide) _ _ _) (fun r j => ?_)
      rw [e2, hi_wI_at, e1, hi_wI_at]
      have mn : ¬ m / 1000 = -1 := fun y => by
        have z6 := z4
        unfold fitP at z6
        rw [if_neg (by rw [k5]; decide), if_neg (by rw [k5]; decide), if_neg k3, if_neg (by rw [k5]; decide), if_pos k5, y] at z6
        exact absurd z6.2.1 (by decide)
      rw [if_neg (show ¬ (k = 3 ∨ k = 6) from fun y => y.elim k3 hk6), if_neg mn]
    · intro g1 e1
      refine sX10_reading_127 ?_
      have f139 : ∀ e : Int32, e = (if k = 4 then 1 else 0) → Ex d (2 - 2) (211 - 211) m_X10_reading 139 [vR (some (11, 0)), vI k, vU, vU, vU, vU, vR (some (2, cn)), vR (some (5, nRd S))] [vI e, vR (some (5, nRd S))] g1 Q := fun e ee => by
        refine sX10_reading_139 ?_
        refine drf_of rfl ?_
        intro g2 e2
        refine fin g2 m (if k = 4 then 1 else -1) (by rw [if_neg k5]) (by rw [if_neg k3, if_neg k5]) (by rw [e2, e1]; exact Fi.wI (Fi.wI (Fi.rf _ _) (by decide) _ _ _) (by decide) _ _ _) (fun r j => ?_)
        rw [e2, hi_wI_at, e1, hi_wI_at, if_neg (show ¬ (k = 3 ∨ k = 6) from fun y => y.elim k3 hk6)]
        have ex : e = (if (if k = 4 then (1 : Int32) else -1) = -1 then 0 else (if k = 4 then (1 : Int32) else -1)) := by
          rw [ee]
          by_cases k4 : k = 4
          · rw [if_pos k4, if_pos k4, if_neg (by decide)]
          · rw [if_neg k4, if_neg k4, if_pos rfl]
        rw [← ex]
        by_cases c1 : r = nRd S ∧ j = 6
        · rw [if_neg (show ¬ (r = nRd S ∧ j = 7) from fun y => by omega), if_pos c1, if_pos c1]
        · by_cases c2 : r = nRd S ∧ j = 7
          · rw [if_pos c2, if_neg c1, if_pos c2]
          · rw [if_neg c2, if_neg c1, if_neg c1, if_neg c2]
      exact ⟨fun k4 => f139 1 (by rw [if_pos k4]), fun k4 => f139 0 (by rw [if_neg k4])⟩
  · have n90 : S 12 8 = 90 := by
      rw [e90] at c9 ⊢
      have := mt (nI_ltI (a := nRd S) (b := 90) (by omega) (by omega)).mpr c9
      rw [hI.n8, show nRd S = 90 by omega]
    rw [if_pos n90] at h
    exact h σ (Fr.rf _ _) hB0 hSc
