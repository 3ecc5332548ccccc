/-! ===== the class: readings, copies ===== -/
theorem told_base {σ σ1 σ' : XH} {S : SS} {ρ : List Nat} {k c h s m num q : Int32} (hX : CFX σ) (hR : CRd σ S) (hSc : CSc σ S) (hI : SInv S) (hn : nRd S < 90)
    (hT : TL σ σ1 S ρ (nRd S) k (some (2, c.toNatClampNeg)) h s (if k = 6 then some (5, q.toNatClampNeg) else none)) (hF : Fi (tl [5]) σ1 σ')
    (h5 : ∀ r j, hi σ' 5 r j = if r = nRd S ∧ j = 6 then (if k = 3 ∨ k = 6 then 0 else m) else if r = nRd S ∧ j = 7 then (if num = -1 then 0 else num) else hi σ1 5 r j) :
    Fr (tl [11, 5, 0, 410, 411]) σ σ' ∧ CFX σ' ∧ LL σ' (EL (addF S k c h s m num q).2 ρ) ∧ CRd σ' (addF S k c h s m num q).2 ∧ CSc σ' (addF S k c h s m num q).2 := by
  obtain ⟨a120, a121, a122, a123, a124, a125, a126, a127, a128, a129, a12, aoth⟩ := addF_s (k := k) (c := c) (h := h) (s := s) (m := m) (n := num) (q := q) hI.n8 (show nRd S < 100000 by omega)
  generalize (addF S k c h s m num q).2 = S' at *
  obtain ⟨t1, t2, t3, t4, t5, ⟨u0, u1, u2, u3, u4, u5, u6, u7, u8, u9, u10⟩, t7, t8⟩ := hT
  have hF1 : Fr (tl [11, 5, 0, 410, 411]) σ σ' := t1.trans (hF.fr.sub (tl_sub (by decide)))
  have e8 : nRd S' = nRd S + 1 := by
    show (S' 12 8).toNatClampNeg = _
    rw [a12, if_pos rfl, nI_clamp (by omega)]
  have r11 : hr σ' 11 = hr σ 11 := by rw [hF.r]; exact t2
  have i11 : hi σ' 11 = hi σ1 11 := hF.i rfl
  refine ⟨hF1, hX.fr11 hF1 (by decide) r11 (by rw [hF.c]; exact t3), ?_, ?_, ?_⟩
  · have eE : EL S' ρ = fun i => if i = 2 then EL S ρ 2 ++ [(5, nRd S)] else EL S ρ i := by
      funext j
      have w : ∀ p, p ≠ 8 → p ≠ 3 → S' 12 p = S 12 p := fun p h1 h2 => by rw [a12, if_neg h1, if_neg h2]
      match j with
      | 0 => simp only [EL, nSt, w 1 (by decide) (by decide), Nat.reduceEqDiff, if_false]
      | 1 => simp only [EL, nCl, w 2 (by decide) (by decide), Nat.reduceEqDiff, if_false]
      | 2 =>
        simp only [EL, if_true]
        rw [e8, List.range_succ, List.map_append]
        rfl
      | 3 => simp only [EL, nLe, w 20 (by decide) (by decide), Nat.reduceEqDiff, if_false]
      | 4 => simp only [EL, Nat.reduceEqDiff, if_false]
      | j + 5 =>
        rw [if_neg (by omega)]
        show (List.range (nPl S')).map _ = (List.range (nPl S)).map _
        rw [show nPl S' = nPl S from by simp only [nPl, w 59 (by decide) (by decide)]]
    rw [eE]
    exact t8.fr hF.fr rfl rfl rfl rfl
  · refine ⟨by rw [hF.c, e8]; exact t4, fun r hr_ => ?_⟩
    rw [e8] at hr_
    by_cases e : r = nRd S
    · subst e
      simp only [h5, hF.r, a120, a121, a122, a123, a124, a125, a126, a127, a128, a129, Nat.reduceEqDiff, and_false, and_true, if_false, if_true, true_and, reduceIte]
      exact ⟨u0, u1, u2, u3, u4, u5, u8, u9, u10⟩
    · obtain ⟨f0, f1, f2, f3, f4, f5, f6, f7, f8, f9, f10⟩ := hR.2 r (by omega)
      obtain ⟨w1, w2⟩ := t5 r e
      have e5 : ∀ j, hi σ' 5 r j = hi σ 5 r j := fun j => by rw [h5, if_neg (fun y => e y.1), if_neg (fun y => e y.1), w1]
      have x5 : ∀ j, hr σ' 5 r j = hr σ 5 r j := fun j => by rw [hF.r, w2]
      simp only [e5, x5, a120, a121, a122, a123, a124, a125, a126, a127, a128, a129, e, if_false]
      exact ⟨f0, f1, f2, f3, f4, f5, f6, f7, f8, f9, f10⟩
  · refine ⟨?_, ?_, ?_⟩
    · rw [i11, t7, if_neg (by decide), a12, if_neg (by decide), if_neg (by decide)]
      exact hSc.1
    · rw [i11, t7, if_pos rfl, a12, if_neg (by decide), if_pos rfl]
    · have e19 : S' 12 19 = S 12 19 := by rw [a12, if_neg (by decide), if_neg (by decide)]
      rw [i11, t7, if_neg (by decide)]
      simp only [e19]
      exact hSc.2.2
theorem told_loc {S : SS} {k c h s m num q : Int32} (hI : SInv S) (hn : nRd S < 90) (P : Int32 → Prop) (hP : P c ∨ (¬ k = 1 ∧ ¬ k = 2)) : Loc P S (addF S k c h s m num q).2 ∧ (addF S k c h s m num q).2 12 1 = S 12 1 ∧ (addF S k c h s m num q).2 12 2 = S 12 2 ∧ (∀ t, t ∉ [12, 120, 121, 122, 123, 124, 125, 126, 127, 128, 129] → (addF S k c h s m num q).2 t = S t) := by
  obtain ⟨a120, a121, a122, a123, a124, a125, a126, a127, a128, a129, a12, aoth⟩ := addF_s (k := k) (c := c) (h := h) (s := s) (m := m) (n := num) (q := q) hI.n8 (show nRd S < 100000 by omega)
  generalize (addF S k c h s m num q).2 = S' at *
  have e8 : nRd S' = nRd S + 1 := by
    show (S' 12 8).toNatClampNeg = _
    rw [a12, if_pos rfl, nI_clamp (by omega)]
  refine ⟨⟨by omega, by omega, aoth 116 (by decide), aoth 117 (by decide), aoth 118 (by decide), fun c' _ => ?_, fun r hr_ => ?_, fun r hr_ => ?_, fun r r1 r2 => ?_⟩, by rw [a12, if_neg (by decide), if_neg (by decide)], by rw [a12, if_neg (by decide), if_neg (by decide)], aoth⟩
  · show S' 119 _ = S 119 _
    rw [aoth 119 (by decide)]
  · have e : ¬ r = nRd S := by omega
    rw [a120, a121, a123, a124, if_neg e, if_neg e, if_neg e, if_neg e]
    exact ⟨rfl, rfl, rfl, rfl⟩
  · rw [a129, if_neg (by omega)]
    exact Or.inl rfl
  · have e : r = nRd S := by omega
    rw [a121, a120, if_pos e, if_pos e]
    exact hP
/-- readings that are neither star nor moon: the clocks and stations stand as they stood -/
theorem told_plain {σ σ' : XH} {S : SS} {k c h s m num q : Int32} (hS : CSt σ S) (hC : CCl σ S) (hI : SInv S) (hn : nRd S < 90) (hk : ¬ k = 1 ∧ ¬ k = 2) (hF : Fr (tl [11, 5, 0, 410, 411]) σ σ') : CSt σ' (addF S k c h s m num q).2 ∧ CCl σ' (addF S k c h s m num q).2 := by
  obtain ⟨hLoc, k1, k2, aoth⟩ := told_loc (k := k) (c := c) (h := h) (s := s) (m := m) (num := num) (q := q) hI hn (fun _ => False) (Or.inr hk)
  exact hLoc.no hS hC hF (by decide) k1 k2 (aoth 146 (by decide)) (fun c' _ => by rw [aoth 119 (by decide)])
theorem sp_X10_copied {d : Nat} {r x : Int32} {S : SS} {ρ : List Nat} {σ : XH} {Q : XV → XH → Prop} (hd : 8 ≤ d) (hB : CBase σ S ρ) (hSc : CSc σ S) (hI : SInv S) (h : ∀ σ', Fr (tl [11, 5, 0, 410, 411]) σ σ' → CBase σ' (copiedF S r x).2 ρ → CSc σ' (copiedF S r x).2 → Q (vI (copiedF S r x).1) σ') : Ec d 2 211 m_X10_copied [vR (some (11, 0)), vI r, vI x] σ Q := by
  have hB0 := hB
  obtain ⟨hX, hL, hS, hC, hR⟩ := hB
  unfold copiedF at h
  have h90 := hI.l8
  have l2 := (EL_len S ρ).2.2.1
  refine Ec_of mo_X10_copied.1 (Nat.le_of_ble_eq_true rfl) ?_
  refine sX10_copied_0 ?_
  unfold bX10_copied_0
  refine ⟨by omega, sp_X10_readingAt (by omega) hX hL hI.n8 hI.l8 (fun q hq eq z => br_f some_ne ⟨by omega, ?_⟩) (fun z => br_t rfl ?_)⟩
  · subst eq
    rw [if_pos z, gS_nI S 120 (by omega), gS_nI S 121 (by omega), gS_nI S 122 (by omega)] at h
    obtain ⟨g0, g1, g2, g3, g4, g5, g6, g7, g8, g9, g10⟩ := hR.2 q hq
    refine sp_X10_isTime (by omega) (fun z2 => br_f (by decide) ?_) (fun z2 => br_t rfl ?_)
    · rw [if_pos z2] at h
      refine drf_of rfl ?_
      rw [g1]
      refine ⟨fun c6 => ?_, fun c6 => ⟨hX.k11_2, by omega, sp_size (by omega) hL ?_⟩⟩
      · rw [if_pos c6] at h
        exact h σ (Fr.rf _ _) hB0 hSc
      · rw [if_neg c6] at h
        rw [l2]
        have e90 : (90 : Int32) = nI 90 := by decide
        refine ⟨fun c9 => ?_, fun c9 => ?_⟩
        · rw [e90] at c9
          have hlt := (nI_ltI (by omega) (by omega)).mp c9
          have n90 : ¬ S 12 8 = 90 := fun y => by
            rw [hI.n8, e90] at y
            have := nI_inj (by omega) (by omega) y
            omega
          rw [if_neg n90] at h
          refine drf_of rfl (drf_of rfl ⟨by omega, by omega, by omega, ?_⟩)
          rw [g2, g3]
          refine sp_X10_tell (by omega) hX hL hR hSc hI hlt ?_
          intro σ1 hT
          dsimp only [kR]
          refine drf_of rfl ?_
          obtain ⟨-, -, -, -, -, ⟨u0, -, -, -, -, -, u6, u7, -⟩, -⟩ := id hT
          rw [u0]
          have hb := told_base (k := 6) (c := S 121 q) (h := S 122 q) (s := x) (m := 0) (num := -1) (q := nI q) (ρ := ρ) hX hR hSc hI hlt (by rw [if_pos rfl, nI_clamp (by omega)]; exact hT) (Fi.rf _ σ1) (fun p j => by
            by_cases c1 : p = nRd S ∧ j = 6
            · rw [if_pos c1, if_pos (Or.inr rfl), c1.1, c1.2]
              exact u6
            · rw [if_neg c1]
              by_cases c2 : p = nRd S ∧ j = 7
              · rw [if_pos c2, if_pos rfl, c2.1, c2.2]
                exact u7
              · rw [if_neg c2])
          obtain ⟨b1, b2, b3, b4, b5⟩ := hb
          obtain ⟨c1, c2⟩ := told_plain (k := 6) (c := S 121 q) (h := S 122 q) (s := x) (m := 0) (num := -1) (q := nI q) hS hC hI hlt (by decide) b1
          have := h σ1 b1 ⟨b2, b3, c1, c2, b4⟩ b5
          have ev : (addF S 6 (S 121 q) (S 122 q) x 0 (-1) (nI q)).1 = nI (nRd S) := by
            show S 12 8 + 1 - 1 = _
            rw [hI.n8, nI_1, nI_pred]
          rw [ev] at this
          exact this
        · have n90 : S 12 8 = 90 := by
            rw [e90] at c9 ⊢
            have := mt (nI_ltI (a := nRd S) (b := 90) (by omega) (by omega)).mpr c9
            rw [hI.n8, show nRd S = 90 by omega]
          rw [if_pos n90] at h
          exact h σ (Fr.rf _ _) hB0 hSc
    · rw [if_neg z2] at h
      exact h σ (Fr.rf _ _) hB0 hSc
  · rw [if_neg z] at h
    exact h σ (Fr.rf _ _) hB0 hSc
