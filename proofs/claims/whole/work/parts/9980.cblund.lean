/-! ===== the fewest blunders: the class ===== -/
theorem sp_X8_agrees {d : Nat} {h dd out : Int32} {σ : XH} {S : SS} {Q : XV → XH → Prop} (hd : 3 ≤ d) (hX : CFX σ) (hI : SInv S) (hSt : StI S) (hY : TY σ S h dd (CL S h dd))
    (hQ : ∀ A B, Q (vI (bI (clB S h dd out))) (TW σ A B)) : Ec d 0 0 m_X8_agrees [vR (some (9, 0)), vI out, vI ((ctR S h dd).1 33)] σ Q := by
  have hl := CL_len hI h dd
  refine Ec_of mo_X8_agrees.1 (Nat.le_of_ble_eq_true rfl) ?_
  have hq := hQ (smA S h dd out).1 (smA S h dd out).2
  unfold clB at hq
  refine sX8_agrees_0 ⟨by omega, sp_X8_solves (by omega) hX hI hY (fun z => br_f (by decide) ⟨by omega, sp_X8_bestDistance (by omega) z ?_⟩) (fun z => br_t rfl ⟨Or.inr rfl, ?_⟩)⟩
  · rw [if_pos z] at hq
    have hp := ds_rng (smA S h dd out).1 (smA S h dd out).2
    have hX2 := hX.TW (smA S h dd out).1 (smA S h dd out).2
    have hY2 := hY.TW (smA S h dd out).1 (smA S h dd out).2
    generalize dsF (smA S h dd out).1 (smA S h dd out).2 = p at *
    generalize TW σ (smA S h dd out).1 (smA S h dd out).2 = σ2 at *
    have lp : ∀ (m k : Nat), k + m = (CL S h dd).length → clK S h dd out p ((ctR S h dd).1 33) (CL S h dd) k = true → Ex d 0 0 m_X8_agrees 18 [vR (some (9, 0)), vI out, vI ((ctR S h dd).1 33), vI p, vI (nI k)] [] σ2 Q := by
      intro m
      induction m with
      | zero =>
        intro k hkm hc
        have ek : k = (CL S h dd).length := by omega
        refine sX8_agrees_18 ?_
        unfold bX8_agrees_18
        rw [hY2.1, ek]
        refine ⟨fun q => ?_, fun _ => ⟨Or.inr rfl, ?_⟩⟩
        · have := (c_lt (by omega) (by omega)).mp q
          omega
        · rw [ek] at hc
          rw [hc] at hq
          exact hq
      | succ m ih =>
        intro k hkm hc
        have hk : k < (CL S h dd).length := by omega
        have ec : clK S h dd out p ((ctR S h dd).1 33) (CL S h dd) (k + 1) = (clK S h dd out p ((ctR S h dd).1 33) (CL S h dd) k && (loP out k || decide (¬ (ctR S h dd).1 33 < abI (rsF S h dd ((CL S h dd).getD k 0) p)))) := rfl
        have f52 : (loP out k || decide (¬ (ctR S h dd).1 33 < abI (rsF S h dd ((CL S h dd).getD k 0) p))) = true → Ex d 0 0 m_X8_agrees 52 [vR (some (9, 0)), vI out, vI ((ctR S h dd).1 33), vI p, vI (nI k)] [] σ2 Q := fun y => by
          refine sX8_agrees_52 ?_
          unfold bX8_agrees_52
          rw [nI_1]
          exact ih (k + 1) (by omega) (by rw [ec, hc, y]; rfl)
        refine sX8_agrees_18 ?_
        unfold bX8_agrees_18
        rw [hY2.1]
        refine ⟨fun _ => ⟨by omega, sp_X8_isLeftOut (by omega) (fun elo => br_f (by decide) (f52 (by rw [elo]; rfl))) (fun elo => br_t rfl ⟨by omega, sp_X8_restAt (by omega) hX2 hI hSt hY2 hk hp ⟨by omega, sp_absI ?_⟩⟩)⟩, fun q => absurd ((c_lt (by omega) (by omega)).mpr hk) q⟩
        refine ⟨fun y => ⟨Or.inl rfl, ?_⟩, fun y => f52 (by rw [elo, decide_eq_true y]; rfl)⟩
        have ef : clK S h dd out p ((ctR S h dd).1 33) (CL S h dd) (CL S h dd).length = false := by
          cases hcl : clK S h dd out p ((ctR S h dd).1 33) (CL S h dd) (CL S h dd).length
          · rfl
          · have := clK_dn (CL S h dd).length (k + 1) hk hcl
            rw [ec, elo, decide_eq_false (fun z => z y), Bool.or_false, Bool.and_false] at this
            exact Bool.noConfusion this
        rw [ef] at hq
        exact hq
    exact lp (CL S h dd).length 0 (by omega) rfl
  · rw [if_neg z] at hq
    exact hq
theorem sp_X8_fewest {d : Nat} {h dd : Int32} {σ : XH} {S : SS} {Q : XV → XH → Prop} (hd : 4 ≤ d) (hX : CFX σ) (hI : SInv S) (hSt : StI S) (hY : TY σ S h dd (CL S h dd)) (hn : (CL S h dd).length ≤ 12)
    (hQ : ∀ σ', Fi (tl [9]) σ σ' → Q (vI (nI (upB (blC S h dd) (2 ^ (CL S h dd).length - 1) (2 ^ (CL S h dd).length)))) σ') : Ec d 0 0 m_X8_fewestLeftOut [vR (some (9, 0)), vI ((ctR S h dd).1 33)] σ Q := by
  obtain ⟨s1, s2, s3⟩ := shl1_n _ hn
  have hpos : 0 < 2 ^ (CL S h dd).length := Nat.two_pow_pos _
  refine Ec_of mo_X8_fewestLeftOut.1 (Nat.le_of_ble_eq_true rfl) ?_
  refine sX8_fewestLeftOut_0 ?_
  unfold bX8_fewestLeftOut_0
  rw [hY.1, s2]
  refine ⟨fun z => ?_, fun _ => ?_⟩
  · have := (c_lt (n := 12) (N := (CL S h dd).length) (by omega) (by omega)).mp z
    omega
  · have lp : ∀ (m k : Nat) (σ' : XH), k + m = 2 ^ (CL S h dd).length → Fi (tl [9]) σ σ' → hi σ' = hi σ → Ex d 0 0 m_X8_fewestLeftOut 22 [vR (some (9, 0)), vI ((ctR S h dd).1 33), vI (nI (upB (blC S h dd) (2 ^ (CL S h dd).length - 1) k)), vI (nI k)] [] σ' Q := by
      intro m
      induction m with
      | zero =>
        intro k σ' hkm hf he
        have ek : k = 2 ^ (CL S h dd).length := by omega
        refine sX8_fewestLeftOut_22 ?_
        unfold bX8_fewestLeftOut_22
        rw [he, hY.1, s1, ek]
        refine ⟨fun z => absurd z (i_lt_irr _), fun _ => ?_⟩
        have := hQ σ' hf
        exact this
      | succ m ih =>
        intro k σ' hkm hf he
        have hX' : CFX σ' := hX.fi hf rfl rfl rfl
        have hY' : TY σ' S h dd (CL S h dd) := by
          unfold TY
          rw [he]
          exact hY
        have f54 : ∀ b σ'', Fi (tl [9]) σ σ'' → hi σ'' = hi σ → b = upB (blC S h dd) (2 ^ (CL S h dd).length - 1) (k + 1) → Ex d 0 0 m_X8_fewestLeftOut 54 [vR (some (9, 0)), vI ((ctR S h dd).1 33), vI (nI b), vI (nI k)] [] σ'' Q := fun b σ'' h1 h2 h3 => by
          refine sX8_fewestLeftOut_54 ?_
          unfold bX8_fewestLeftOut_54
          rw [nI_1, h3]
          exact ih (k + 1) σ'' (by omega) h1 h2
        have e : upB (blC S h dd) (2 ^ (CL S h dd).length - 1) (k + 1) = if bcE (nI k) < bcE (nI (upB (blC S h dd) (2 ^ (CL S h dd).length - 1) k)) ∧ blC S h dd k = true then k else upB (blC S h dd) (2 ^ (CL S h dd).length - 1) k := rfl
        refine sX8_fewestLeftOut_22 ?_
        unfold bX8_fewestLeftOut_22
        rw [he, hY.1, s1]
        have hlt : nI k < nI (2 ^ (CL S h dd).length) := nI_lt (by omega) (by omega)
        refine ⟨fun _ => ⟨by omega, sp_bitCount ⟨by omega, sp_bitCount ⟨fun y => ⟨by omega, sp_X8_agrees (by omega) hX' hI hSt hY' (fun A B => ?_)⟩, fun y => f54 _ σ' hf he (by rw [e, if_neg (fun z => y z.1)])⟩⟩⟩, fun z => absurd hlt z⟩
        have hf2 : Fi (tl [9]) σ (TW σ' A B) := hf.trans (TW_fi _ _ _)
        cases hcl : clB S h dd (nI k) with
        | false => exact br_t rfl (f54 _ _ hf2 he (by rw [e, if_neg (fun z => by
            have z2 : clB S h dd (nI k) = true := z.2
            rw [hcl] at z2
            exact Bool.noConfusion z2)]))
        | true => exact br_f (by decide) (f54 _ _ hf2 he (by rw [e, if_pos ⟨y, hcl⟩]))
    exact lp (2 ^ (CL S h dd).length) 0 σ (by omega) (Fi.rf _ _) rfl
theorem sp_X10_blunders {d : Nat} {h dd : Int32} {S : SS} {ρ : List Nat} {σ : XH} {Q : XV → XH → Prop} (hd : 8 ≤ d) (hI : SInv S) (hO : OrI S) (hSt : StI S) (hU : RuI S) (hC : CCt σ S ρ) (hQ : ∀ σ', Fi (tl [9, 107, 108, 109, 110, 111, 112]) σ σ' → Q (vI (blundersG S h dd)) σ') : Ec d 0 0 m_X10_blunders [vR (some (11, 0)), vI h, vI dd] σ Q := by
  have hl := CL_len hI h dd
  have hX := hC.1.1
  unfold blundersG at hQ
  refine Ec_of mo_X10_blunders.1 (Nat.le_of_ble_eq_true rfl) ?_
  refine sX10_blunders_0 ⟨by omega, sp_X10_isHouse (by omega) (fun c1 => br_f (by decide) ⟨by omega, sp_X10_isDay (by omega) (fun c2 => br_f (by decide) ⟨by omega, sp_X10_gather (by omega) hI hO hSt hU hC (fun σ1 k1 k2 => ?_)⟩) (fun c2 => br_t rfl ?_)⟩) (fun c1 => br_t rfl ?_)⟩
  · have hq := fun σ' => hQ σ'
    rw [if_neg (fun y => y c1), if_neg (fun y => y c2)] at hq
    have hX1 : CFX σ1 := hX.fi k1 rfl rfl rfl
    have hC1 := hC.fi hI k1 (by decide)
    refine ⟨hX1.k11_10, ?_⟩
    rw [k2.1]
    refine ⟨fun z => sX10_blunders_58 ?_, fun z => ⟨hX1.k11_10, by omega, sp_X10_ruleIn (by omega) hX1 hC1.1.2.1 hI hC1.2.1 ?_⟩⟩
    · have := (c_lt (n := 12) (N := (CL S h dd).length) (by omega) (by omega)).mp z
      rw [if_pos this] at hq
      exact hq σ1 k1
    · have hn : ¬ 12 < (CL S h dd).length := fun q => z ((c_lt (n := 12) (N := (CL S h dd).length) (by omega) (by omega)).mpr q)
      rw [if_neg hn] at hq
      obtain ⟨n, g1, g2, g3⟩ := hC1.2.1.cell hI.l25 (ruF_in S h dd (nRu S) (by have := hI.l25; omega))
      have x33 : hi σ1 6 (ruC ρ (ruF S h dd (nRu S))) 9 = (ctR S h dd).1 33 := g1.2.1 33 (by decide)
      dsimp only [kR]
      refine drf_of rfl ?_
      rw [x33]
      exact ⟨by omega, sp_X8_fewest (by omega) hX1 hI hSt k2 (by omega) (fun σ2 j1 => sX10_blunders_58 (hq σ2 (k1.trans (j1.sub (tl_sub (by decide))))))⟩
  · rw [if_neg (fun y => y c1), if_pos c2] at hQ
    exact hQ σ (Fi.rf _ _)
  · rw [if_pos c1] at hQ
    exact hQ σ (Fi.rf _ _)
