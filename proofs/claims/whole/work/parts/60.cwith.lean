/-! ===== the class: withdrawing ===== -/
theorem sp_X10_withdraw {d : Nat} {r : Int32} {S : SS} {ρ : List Nat} {σ : XH} {Q : XV → XH → Prop} (hd : 5 ≤ d) (hB : CBase σ S ρ) (hSc : CSc σ S) (hI : SInv S) (hI' : SInv (withdrawF S r).2) (h : ∀ σ', Fi (tl [11, 5, 2, 101, 102, 8]) σ σ' → CBase σ' (withdrawF S r).2 ρ → CSc σ' (withdrawF S r).2 → Q (vI (withdrawF S r).1) σ') : Ec d 0 0 m_X10_withdraw [vR (some (11, 0)), vI r] σ Q := by
  have hB0 := hB
  obtain ⟨hX, hL, hS, hC, hR⟩ := hB
  unfold withdrawF at h hI'
  have h12 := hI.l2
  have h11 := hI.l1
  have h90 := hI.l8
  refine Ec_of mo_X10_withdraw.1 (Nat.le_of_ble_eq_true rfl) ?_
  refine sX10_withdraw_0 ?_
  unfold bX10_withdraw_0
  refine ⟨by omega, sp_X10_readingAt (by omega) hX hL hI.n8 hI.l8 (fun q hq eq z => br_f some_ne ?_) (fun z => br_t rfl ?_)⟩
  · subst eq
    rw [if_pos z, gS_nI S 129 (by omega), nI_clamp (by omega)] at h hI'
    refine drf_of rfl ⟨by omega, ?_⟩
    refine sp_X4_isWithdrawn hR hq (fun y => br_f (by decide) ?_) (fun y => br_t rfl ?_)
    · rw [if_pos y] at h
      exact h σ (Fi.rf _ _) hB0 hSc
    · rw [if_neg y] at h hI'
      dsimp only at h hI'
      intro g1 e1
      refine drf_of rfl ?_
      intro g2 e2
      generalize hw : S 12 3 + 1 = w at h hI'
      have eo : hi g1 11 0 13 = w := by
        rw [e1, hi_wI_eq, hSc.2.1, hw]
      rw [eo] at e2
      generalize hS' : up2 (up2 S 12 3 w) 129 q w = S' at h hI'
      have a : ∀ s, s ≠ 129 → s ≠ 12 → S' s = S s := fun s h1 h2 => by rw [← hS', up2_s _ _ _ h1, up2_s _ _ _ h2]
      have k : ∀ j, j ≠ 3 → S' 12 j = S 12 j := fun j hj => by rw [← hS', up2_s _ _ _ (show 12 ≠ 129 by decide), up2_k _ _ _ hj]
      have k3 : S' 12 3 = w := by rw [← hS', up2_s _ _ _ (show 12 ≠ 129 by decide), up2_eq]
      have a129 : ∀ p, S' 129 p = if p = q then w else S 129 p := fun p => by rw [← hS', up2_at, up2_s _ _ _ (show 129 ≠ 12 by decide)]
      have en1 : nSt S' = nSt S := by simp only [nSt, k 1 (by decide)]
      have en2 : nCl S' = nCl S := by simp only [nCl, k 2 (by decide)]
      have en8 : nRd S' = nRd S := by simp only [nRd, k 8 (by decide)]
      have hF : Fi (tl [11, 5]) σ g2 := by
        rw [e2, e1]
        exact Fi.wI (Fi.wI (Fi.rf _ _) (by decide) _ _ _) (by decide) _ _ _
      have hX1 : CFX g2 := hX.fi hF rfl rfl rfl
      have eE : EL S' ρ = EL S ρ := EL_cg (k 1 (by decide)) (k 2 (by decide)) (k 8 (by decide)) (k 20 (by decide)) (k 59 (by decide)) ρ
      have hL1 : LL g2 (EL S' ρ) := by
        rw [eE]
        exact hL.fr hF.fr rfl rfl rfl rfl
      have i5 : ∀ p j, hi g2 5 p j = if p = q ∧ j = 10 then w else hi σ 5 p j := fun p j => by
        rw [e2, hi_wI_at, e1, hi_wI_ne _ _ _ _ (show 5 ≠ 11 by decide)]
      have hR1 : CRd g2 S' := by
        refine ⟨by rw [hF.c, en8]; exact hR.1, fun p hp => ?_⟩
        rw [en8] at hp
        obtain ⟨f0, f1, f2, f3, f4, f5, f6, f7, f8, f9, f10⟩ := hR.2 p hp
        simp only [i5, hF.r, a 120 (by decide) (by decide), a 121 (by decide) (by decide), a 122 (by decide) (by decide), a 123 (by decide) (by decide), a 124 (by decide) (by decide), a 125 (by decide) (by decide), a 126 (by decide) (by decide), a 127 (by decide) (by decide), a 128 (by decide) (by decide), a129, Nat.reduceEqDiff, and_false, and_true, if_false]
        refine ⟨f0, f1, f2, f3, f4, f5, f6, f7, f8, f9, ?_⟩
        by_cases e : p = q
        · rw [if_pos e, if_pos e]
        · rw [if_neg e, if_neg e]
          exact f10
      have hSc1 : CSc g2 S' := by
        have e11 : ∀ j, hi g2 11 0 j = if j = 13 then w else hi σ 11 0 j := fun j => by
          rw [e2, hi_wI_ne _ _ _ _ (show 11 ≠ 5 by decide), e1, hi_wI_at, hSc.2.1, hw]
          by_cases e : j = 13
          · rw [if_pos ⟨rfl, e⟩, if_pos e]
          · rw [if_neg (fun y => e y.2), if_neg e]
        refine ⟨?_, ?_, ?_⟩
        · rw [e11, if_neg (by decide), k 0 (by decide)]
          exact hSc.1
        · rw [e11, if_pos rfl, k3]
        · rw [e11, if_neg (by decide)]
          simp only [k 19 (by decide)]
          exact hSc.2.2
      obtain ⟨j1, j2, -⟩ := hI.r hq
      have locP : ∀ P : Int32 → Prop, (P (S 121 q) ∨ (¬ S 120 q = 1 ∧ ¬ S 120 q = 2)) → Loc P S S' := fun P hP => by
        refine ⟨by rw [en8]; exact Nat.le_refl _, by rw [en8]; exact hI.l8, a 116 (by decide) (by decide), a 117 (by decide) (by decide), a 118 (by decide) (by decide), fun c _ => ?_, fun p _ => ?_, fun p _ => ?_, fun p r1 r2 => by rw [en8] at r2; omega⟩
        · show S' 119 _ = S 119 _
          rw [a 119 (by decide) (by decide)]
        · rw [a 120 (by decide) (by decide), a 121 (by decide) (by decide), a 123 (by decide) (by decide), a 124 (by decide) (by decide)]
          exact ⟨rfl, rfl, rfl, rfl⟩
        · rw [a129]
          by_cases e : p = q
          · rw [if_pos e, e]
            exact Or.inr hP
          · rw [if_neg e]
            exact Or.inl rfl
      have q1 : hi g2 5 q 1 = S 120 q := by
        rw [i5, if_neg (fun y => absurd y.2 (by decide))]
        exact (hR.2 q hq).2.1
      have f64 : ∀ σ', Fi (tl [11, 5, 2, 101, 102, 8]) σ σ' → CBase σ' S' ρ → CSc σ' S' → Ex d 0 0 m_X10_withdraw 64 [vU, vU, vU] [] σ' Q := fun σ' p1 p2 p3 => by
        refine sX10_withdraw_64 ?_
        exact h σ' p1 p2 p3
      have f56 : Ex d 0 0 m_X10_withdraw 56 [vR (some (11, 0)), vU, vR (some (5, q))] [] g2 Q := by
        have hc := vp_lt j2
        have hLoc := locP (fun c => c.toNatClampNeg = (S 121 q).toNatClampNeg) (Or.inl rfl)
        obtain ⟨a1, a2⟩ := hLoc.cs hS hF.fr rfl rfl (k 1 (by decide)) (a 146 (by decide) (by decide))
        obtain ⟨b1, b2⟩ := hLoc.cc hC hF.fr rfl rfl rfl (k 2 (by decide)) (fun c _ => by rw [a 119 (by decide) (by decide)])
        have vq := hI.c hc
        refine sX10_withdraw_56 ?_
        refine drf_of rfl ?_
        rw [hF.r, (hR.2 q hq).2.2.1]
        refine ⟨by omega, sp_keep (by omega) hX1 hL1 hI' a1 b1 hR1 (by rw [en2]; exact hc) (fun c' hc' hne => ?_) (fun s hs hne => ?_) (fun ht => ?_) ?_⟩
        · rw [en2] at hc'
          exact b2 c' hc' (by show ¬ (nI c').toNatClampNeg = _; rw [nI_clamp (by omega)]; exact hne)
        · rw [en1] at hs
          rw [a 118 (by decide) (by decide)] at hne
          refine a2 s hs (fun c' hc' y => hne ?_)
          have y2 : S 118 c'.toNatClampNeg = nI s := y
          rw [hc'] at y2
          rw [y2, nI_clamp (by omega)]
        · rw [a 118 (by decide) (by decide)] at ht ⊢
          rw [a 116 (by decide) (by decide)] at ht
          have hsc := vp_lt vq.1
          have esc : nI (S 118 (S 121 q).toNatClampNeg).toNatClampNeg = S 118 (S 121 q).toNatClampNeg := (nI_of_nn (vp_nn vq.1)).symm
          rw [hF.i (by decide), (hS.2.2 _ hsc).2.2.2.1, esc]
          unfold lonF
          have g116 : gS S' 116 (S 118 (S 121 q).toNatClampNeg) = gS S 116 (S 118 (S 121 q).toNatClampNeg) := by
            show S' 116 _ = S 116 _
            rw [a 116 (by decide) (by decide)]
          rw [g116, if_neg ht, if_neg ht]
        · intro σ' k1 k2 k3
          refine f64 σ' ((hF.sub (tl_sub (by decide))).trans (k1.sub (tl_sub (by decide)))) ⟨hX1.fi k1 rfl rfl rfl, hL1.fr k1.fr rfl rfl rfl rfl, k2, k3, hR1.tr k1.fr (SA.rf (fun _ => false) (fun _ => false) _) (by decide) (by decide) (by decide)⟩ ?_
          exact hSc1.tr k1.fr (SA.rf (fun _ => false) (fun _ => false) _) (by decide) (by decide) (by decide)
      refine drf_of rfl ?_
      rw [q1]
      refine ⟨fun _ => f56, fun n1 => drf_of rfl ?_⟩
      rw [q1]
      refine ⟨fun _ => f56, fun n2 => ?_⟩
      have hLoc := locP (fun _ => False) (Or.inr ⟨n1, n2⟩)
      obtain ⟨c1, c2⟩ := hLoc.no hS hC hF.fr (by decide) (k 1 (by decide)) (k 2 (by decide)) (a 146 (by decide) (by decide)) (fun c _ => by rw [a 119 (by decide) (by decide)])
      exact f64 g2 (hF.sub (tl_sub (by decide))) ⟨hX1, hL1, c1, c2, hR1⟩ hSc1
  · rw [if_neg z] at h
    exact h σ (Fi.rf _ _) hB0 hSc
