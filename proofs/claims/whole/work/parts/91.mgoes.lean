/-! ===== the reference takes a clause, and a text ===== -/
theorem MR.setw {S : SS} {R : RT} {ev : Int32 → Int32 → Bool} (h : MR S R ev) {i : Nat} (hi6 : i < 6) (x : Int32) : MR (up2 S 138 i x) (rset R (100 + i) x) ev := by
  obtain ⟨h1, h2, h3⟩ := h
  refine ⟨fun j hj => ?_, fun j hj => ?_, ?_⟩
  · have : j ≤ 36 := by revert hj; revert j; decide
    rw [up2_s _ _ _ (show 12 ≠ 138 by decide)]
    show _ = if j = 100 + i then x else R.1 j
    rw [if_neg (by omega)]
    exact h1 j hj
  · rw [up2_at]
    show _ = if 100 + j = 100 + i then x else R.1 (100 + j)
    by_cases c : j = i
    · rw [if_pos c, if_pos (by omega)]
    · rw [if_neg c, if_neg (by omega)]
      exact h2 j hj
  · rw [up2_s _ _ _ (show 12 ≠ 138 by decide)]
    exact h3
theorem PT.wk {S : SS} {b n a : Nat} {ch : Nat → Int32} (h : PT S b n a ch) (j : Nat) (x : Int32) (hj : ∀ i, i ∈ [40, 41, 42] → i ≠ j) : PT (up2 S 12 j x) b n a ch := by
  obtain ⟨h1, h2, h3, h4, h5, h6, h7⟩ := h
  refine ⟨by rw [up2_k _ _ _ (hj 40 (by decide))]; exact h1, by rw [up2_k _ _ _ (hj 41 (by decide))]; exact h2, by rw [up2_k _ _ _ (hj 42 (by decide))]; exact h3, h4, h5, h6, fun k hk => ?_⟩
  rw [up2_s _ _ _ (show 136 ≠ 12 by decide)]
  exact h7 k hk
theorem sp_X11_takesW {d b n a : Nat} {ch : Nat → Int32} {R : RT} {ev : Int32 → Int32 → Bool} {σ : XH} {S : SS} {Q : XV → XH → Prop} (hd : 5 ≤ d) (hM : MI σ) (hP : PT S b n a ch) (hR : MR S R ev) (c119 : gN ch n a = 119)
    (h1 : (gC ch n a R).1 = true → ∀ S', GS S S' → PT S' b n (gC ch n a R).2.1 ch → MR S' (gC ch n a R).2.2 ev → Q (vI 1) (up σ S'))
    (h0 : (gC ch n a R).1 = false → ∀ S', GS S S' → PT S' b n (gC ch n a R).2.1 ch → Q (vI 0) (up σ S')) : Ec d 0 0 m_X11_takesW [vR (some (12, 0))] (up σ S) Q := by
  have hlt : a < n := gN_lt c119 (by decide)
  have eg : gC ch n a R = (if gN ch n (a + 1) = 105 then gAft ch n [105, 116, 104, 100, 114, 97, 119, 110] (a + 1) R fun a' => (true, a', rset R 36 1) else gAft ch n [101, 105, 103, 104, 32] (a + 1) R fun a' => gWeigh ch n a' R) := by
    unfold gC
    rw [if_neg (by rw [c119]; decide), if_neg (by rw [c119]; decide), if_neg (by rw [c119]; decide), if_neg (by rw [c119]; decide), if_neg (by rw [c119]; decide), if_pos c119]
  rw [eg] at h1 h0
  refine Ec_of mo_X11_takesW.1 (Nat.le_of_ble_eq_true rfl) ?_
  refine sX11_takesW_0 ?_
  intro g e
  rw [hi_up _ _ rfl, hP.2.2.1, nI_1, wI_up _ _ rfl] at e
  have e' : g = up σ (adv S (a + 1)) := e
  rw [e']
  have hP1 := hP.adv (a' := a + 1) hlt
  have hR1 := hR.adv (a + 1)
  have g1 : GS S (adv S (a + 1)) := (GS.rf S).adv (a + 1)
  refine ⟨by omega, sp_X11_next hM hP1 ⟨fun c => ⟨by omega, ?_⟩, fun c => ⟨by omega, ?_⟩⟩⟩
  · rw [if_pos c] at h1 h0
    refine sp_X11_takesWord (k := 8) (by omega) hM (by omega) w_ithdrawn (by decide +kernel) hP1 (fun w => ⟨Or.inr rfl, ?_⟩) (fun w => ⟨Or.inl rfl, ?_⟩)
    · have hle := gW_le (ch := ch) (n := n) [105, 116, 104, 100, 114, 97, 119, 110] (a + 1) hlt (by decide)
      have ea : gAft ch n [105, 116, 104, 100, 114, 97, 119, 110] (a + 1) R (fun a' => (true, a', rset R 36 1)) = (true, (gW ch n [105, 116, 104, 100, 114, 97, 119, 110] (a + 1)).2, rset R 36 1) := if_pos w
      rw [ea] at h1
      rw [adv_adv]
      intro g e
      rw [wI_up _ _ rfl] at e
      have q1 : PT (up2 (adv S (gW ch n [105, 116, 104, 100, 114, 97, 119, 110] (a + 1)).2) 12 36 1) b n (gW ch n [105, 116, 104, 100, 114, 97, 119, 110] (a + 1)).2 ch := (hP.adv hle).wk 36 1 (by decide)
      have q2 : MR (up2 (adv S (gW ch n [105, 116, 104, 100, 114, 97, 119, 110] (a + 1)).2) 12 36 1) (rset R 36 1) ev := (hR.adv _).set (by decide) 1
      have q3 : GS S (up2 (adv S (gW ch n [105, 116, 104, 100, 114, 97, 119, 110] (a + 1)).2) 12 36 1) := SA.wk ((GS.rf S).adv _) 36 1 rfl
      have e36 : hi g 12 0 36 = 1 := by rw [e, hi_up _ _ rfl, up2_eq]
      rw [e36, e]
      exact ⟨Or.inr rfl, h1 rfl _ q3 q1 q2⟩
    · have hle := gW_le (ch := ch) (n := n) [105, 116, 104, 100, 114, 97, 119, 110] (a + 1) hlt (by decide)
      have ea : gAft ch n [105, 116, 104, 100, 114, 97, 119, 110] (a + 1) R (fun a' => (true, a', rset R 36 1)) = (false, (gW ch n [105, 116, 104, 100, 114, 97, 119, 110] (a + 1)).2, R) := if_neg (by rw [w]; decide)
      rw [ea] at h0
      rw [adv_adv]
      intro g e
      rw [wI_up _ _ rfl] at e
      have q1 : PT (up2 (adv S (gW ch n [105, 116, 104, 100, 114, 97, 119, 110] (a + 1)).2) 12 36 0) b n (gW ch n [105, 116, 104, 100, 114, 97, 119, 110] (a + 1)).2 ch := (hP.adv hle).wk 36 0 (by decide)
      have q3 : GS S (up2 (adv S (gW ch n [105, 116, 104, 100, 114, 97, 119, 110] (a + 1)).2) 12 36 0) := SA.wk ((GS.rf S).adv _) 36 0 rfl
      have e36 : hi g 12 0 36 = 0 := by rw [e, hi_up _ _ rfl, up2_eq]
      rw [e36, e]
      exact ⟨Or.inl rfl, h0 rfl _ q3 q1⟩
  · rw [if_neg c] at h1 h0
    have ew : gW ch n [101, 105, 103, 104, 32] (a + 1) = _ := gW_app (ch := ch) (n := n) (c := 32) [101, 105, 103, 104] (a + 1)
    have hle := gW_le (ch := ch) (n := n) [101, 105, 103, 104] (a + 1) hlt (by decide)
    refine sp_X11_takesWord (k := 4) (by omega) hM (by omega) w_eigh (by decide +kernel) hP1 (fun w => br_f (by decide) ?_) (fun w => br_t rfl ?_)
    · rw [if_pos w] at ew
      rw [adv_adv]
      have hP2 := hP.adv (a' := (gW ch n [101, 105, 103, 104] (a + 1)).2) hle
      have hR2 := hR.adv (gW ch n [101, 105, 103, 104] (a + 1)).2
      refine sX11_takesW_48 ⟨by omega, sp_X11_takes (by omega) hM hP2 (fun cb => br_f (by decide) ?_) (fun cb => br_t rfl ?_)⟩
      · rw [if_pos cb] at ew
        have hltb : (gW ch n [101, 105, 103, 104] (a + 1)).2 + 1 ≤ n := gN_lt cb (by decide)
        have ea : gAft ch n [101, 105, 103, 104, 32] (a + 1) R (fun a' => gWeigh ch n a' R) = gWeigh ch n ((gW ch n [101, 105, 103, 104] (a + 1)).2 + 1) R := by
          unfold gAft
          rw [ew]
          rfl
        rw [ea] at h1 h0
        rw [adv_adv]
        generalize (gW ch n [101, 105, 103, 104] (a + 1)).2 + 1 = a2 at *
        have hP3 := hP.adv (a' := a2) hltb
        have hR3 := hR.adv a2
        have f109 : ∀ a', a' ≤ n → gWeigh ch n a2 R = (false, a', R) → Ex d 0 0 m_X11_takesW 109 [vU, vU] [] (up σ (adv S a')) Q := fun a' ha' eg => by
          rw [eg] at h0
          exact sX11_takesW_109 ⟨Or.inl rfl, h0 rfl _ ((GS.rf S).adv a') (hP.adv ha')⟩
        have f72 : gWeigh ch n a2 R = (false, a2, R) → Ex d 0 0 m_X11_takesW 72 [vU, vU] [] (up σ (adv S a2)) Q := fun eg => by
          rw [eg] at h0
          exact sX11_takesW_72 ⟨Or.inl rfl, h0 rfl _ ((GS.rf S).adv a2) hP3⟩
        refine ⟨by omega, sp_X11_next hM hP3 ⟨by omega, sp_X11_in (by omega) (fun ci => br_f (by decide) ⟨by omega, sp_X11_next hM hP3 ?_⟩) (fun ci => br_t rfl (f72 (by unfold gWeigh; rw [if_neg ci])))⟩⟩
        dsimp only [kI]
        intro g e
        have hlt2 : a2 < n := gN_lt (c := gN ch n a2) rfl (fun y => by
          rw [y] at ci
          exact absurd ci (by decide))
        rw [hi_up _ _ rfl, hP3.2.2.1, nI_1, wI_up _ _ rfl] at e
        have e' : g = up σ (adv (adv S a2) (a2 + 1)) := e
        rw [e', adv_adv]
        have hP4 := hP.adv (a' := a2 + 1) hlt2
        refine ⟨by omega, sp_X11_takes (by omega) hM hP4 (fun cs => br_f (by decide) ?_) (fun cs => br_t rfl (f109 (a2 + 1) hlt2 (by unfold gWeigh; rw [if_pos ci, if_neg cs])))⟩
        have hlt3 := gN_lt cs (by decide)
        rw [adv_adv]
        have hP5 := hP.adv (a' := a2 + 2) hlt3
        refine ⟨by omega, sp_X11_takesNumber (m := 2) (by omega) hM (by omega) hP5 (fun cd => br_f (by decide) ?_) (fun cd => br_t rfl (f109 (a2 + 2) hlt3 (by unfold gWeigh; rw [if_pos ci, if_pos cs, if_neg cd])))⟩
        have eg : gWeigh ch n a2 R = (true, (gD ch n 2 (a2 + 2) 0).1, rset R (100 + (gN ch n a2 - 48).toNatClampNeg) (gD ch n 2 (a2 + 2) 0).2) := by
          unfold gWeigh
          rw [if_pos ci, if_pos cs, if_pos cd]
        rw [eg] at h1
        have hgd := gD_le (ch := ch) 2 (a2 + 2) 0 hlt3
        have hh : ∃ i, i < 6 ∧ gN ch n a2 - 48 = nI i := by
          rw [inP_iff] at ci
          have e1 : (48 : Int32).toInt = 48 := by decide
          have e2 : (53 : Int32).toInt = 53 := by decide
          rw [fa_lt, fa_lt, e1, e2] at ci
          refine ⟨((gN ch n a2).toInt - 48).toNat, by omega, ?_⟩
          apply Int32.toInt_inj.mp
          rw [nI_toInt (by omega), fb_subI (by rw [e1]; omega) (by rw [e1]; omega), e1]
          omega
        obtain ⟨i, hi6, ei⟩ := hh
        rw [ei] at h1 ⊢
        rw [nI_clamp (by omega)] at h1 ⊢
        refine ⟨hM.r138, vp_at hM.n138 (vp_in_nI hi6 (by omega)), ?_⟩
        have t5 : SA (tl [138, 140, 300]) (tl [31, 32, 33, 34, 35, 36, 37, 42, 43, 46, 47, 48]) (adv S (a2 + 2)) (nset (adv S (a2 + 2)) (gD ch n 2 (a2 + 2) 0).2 (gD ch n 2 (a2 + 2) 0).1) := ((SA.rf _ _ _).wk 43 _ rfl).wk 42 _ rfl
        have t6 : SA (tl []) (tl [42, 43]) (adv S (a2 + 2)) (nset (adv S (a2 + 2)) (gD ch n 2 (a2 + 2) 0).2 (gD ch n 2 (a2 + 2) 0).1) := ((SA.rf _ _ _).wk 43 _ rfl).wk 42 _ rfl
        have e43 : hi (up σ (nset (adv S (a2 + 2)) (gD ch n 2 (a2 + 2) 0).2 (gD ch n 2 (a2 + 2) 0).1)) 12 0 43 = (gD ch n 2 (a2 + 2) 0).2 := by
          rw [hi_up _ _ rfl]
          unfold nset adv
          rw [up2_k _ _ _ (by decide), up2_eq]
        intro g e
        rw [e43, wI_up _ _ rfl] at e
        rw [e]
        have hP6 := hP5.nset (gD ch n 2 (a2 + 2) 0).2 hgd
        have hR6 := (hR.adv (a2 + 2)).sa t6 rfl (by decide)
        have sa : SA (tl [138]) (tl []) (nset (adv S (a2 + 2)) (gD ch n 2 (a2 + 2) 0).2 (gD ch n 2 (a2 + 2) 0).1) (up2 (nset (adv S (a2 + 2)) (gD ch n 2 (a2 + 2) 0).2 (gD ch n 2 (a2 + 2) 0).1) 138 i (gD ch n 2 (a2 + 2) 0).2) := (SA.rf _ _ _).wa _ _ (by decide) rfl
        refine ⟨Or.inr rfl, h1 rfl _ ?_ (hP6.sa sa rfl (by decide)) (hR6.setw hi6 _)⟩
        exact SA.wa (SA.trans ((GS.rf S).adv (a2 + 2)) t5) i _ (by decide) rfl
      · rw [if_neg cb] at ew
        have ea : gAft ch n [101, 105, 103, 104, 32] (a + 1) R (fun a' => gWeigh ch n a' R) = (false, (gW ch n [101, 105, 103, 104] (a + 1)).2, R) := by
          unfold gAft
          rw [ew]
          rfl
        rw [ea] at h0
        exact sX11_takesW_72 ⟨Or.inl rfl, h0 rfl _ ((GS.rf S).adv _) hP2⟩
    · rw [if_neg (by rw [w]; decide)] at ew
      have ea : gAft ch n [101, 105, 103, 104, 32] (a + 1) R (fun a' => gWeigh ch n a' R) = (false, (gW ch n [101, 105, 103, 104] (a + 1)).2, R) := by
        unfold gAft
        rw [ew]
        rfl
      rw [ea] at h0
      rw [adv_adv]
      exact sX11_takesW_72 ⟨Or.inl rfl, h0 rfl _ ((GS.rf S).adv _) (hP.adv hle)⟩
