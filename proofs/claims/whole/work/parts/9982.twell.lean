/-! ===== tooWell: the reference, the class ===== -/
theorem sp_X11_tooWell {d : Nat} {h dd span : Int32} {σ : XH} {S : SS} {Q : XV → XH → Prop} (hd : 13 ≤ d) (hM : MI σ) (hI : SInv S) (hU : RuI S) (hQ : ∀ T σ', FS S T → Fi (tl [12]) σ σ' → Q (vI (tooWellG S h dd span)) (up σ' T)) : Ec d 0 0 m_X11_tooWell [vR (some (12, 0)), vI h, vI dd, vI span] (up σ S) Q := by
  have hl_ := CL_len hI h dd
  unfold tooWellG at hQ
  refine Ec_of mo_X11_tooWell.1 (Nat.le_of_ble_eq_true rfl) ?_
  refine sX11_tooWell_0 ⟨by omega, sp_X11_isHouse (by omega) (fun c1 => br_f (by decide) ⟨by omega, sp_X11_isDay (by omega) (fun c2 => br_f (by decide) ⟨by omega, sp_X11_in (by omega) (fun c3 => br_f (by decide) ⟨by omega, sp_X11_findCounted (by omega) hM hI hU (fun T hF hY h6 => ?_)⟩) (fun c3 => br_t rfl (sX11_tooWell_29 ?_))⟩) (fun c2 => br_t rfl (sX11_tooWell_29 ?_))⟩) (fun c1 => br_t rfl ?_)⟩
  · have hq := fun σ' => hQ T σ' hF
    rw [if_neg (fun y => y c1), if_neg (fun y => y.elim (fun y => y c2) (fun y => y c3))] at hq
    have e49 : ∀ σ', hi (up σ' T) 12 0 49 = nI (CL S h dd).length := fun _ => hY.1
    dsimp only [kU]
    rw [e49]
    refine ⟨fun z => sX11_tooWell_55 ?_, fun z => ⟨by omega, sp_X11_findSum (by omega) hM hI hF hY (Or.inl rfl) (fun z2 => br_f (by decide) ⟨by omega, sp_X11_distanceOf (by omega) z2 ?_⟩) (fun z2 => br_t rfl (sX11_tooWell_55 ?_))⟩⟩
    · have := (c_lt (n := 8) (N := (CL S h dd).length) (by omega) (by omega)).mp z
      rw [if_pos (Or.inl this)] at hq
      exact hq σ (Fi.rf _ _)
    · have hn : ¬ 8 < (CL S h dd).length := fun q => z ((c_lt (n := 8) (N := (CL S h dd).length) (by omega) (by omega)).mpr q)
      have hq2 := hq _ (LW_fi σ (smA S h dd 0).1 (smA S h dd 0).2)
      rw [if_neg (fun y => y.elim hn (fun y => y z2))] at hq2
      have hM2 : MI (LW σ (smA S h dd 0).1 (smA S h dd 0).2) := hM.LW _ _
      generalize LW σ (smA S h dd 0).1 (smA S h dd 0).2 = σ2 at *
      generalize dsF (smA S h dd 0).1 (smA S h dd 0).2 = p at *
      dsimp only [kI]
      -- the ways one by one
      have lp2 : ∀ (m k : Nat), k + m = 3 ^ (CL S h dd).length → Ex d 0 0 m_X11_tooWell 118 [vU, vU, vU, vI span, vU, vL (arF S h dd p (CL S h dd) (CL S h dd).length), vU, vI (nI (3 ^ (CL S h dd).length)), vI (nI (cn3 (CL S h dd).length (twP span (arF S h dd p (CL S h dd) (CL S h dd).length)) k)), vI (nI k), vU, vU] [] (up σ2 T) Q := by
        have hp3 := pow3_le (CL S h dd).length (by omega)
        intro m
        induction m with
        | zero =>
          intro k hkm
          have ek : k = 3 ^ (CL S h dd).length := by omega
          refine sX11_tooWell_118 ⟨fun y => ?_, fun _ => ?_⟩
          · rw [ek] at y
            exact absurd y (i_lt_irr _)
          · rw [ek, cn3_wy]
            exact hq2
        | succ m ih =>
          intro k hkm
          refine sX11_tooWell_118 ⟨fun _ => ?_, fun y => absurd (nI_lt (by omega) (by omega)) y⟩
          refine lp_ds3 (n := (CL S h dd).length) (by omega) ?_ (CL S h dd).length k 0 (by omega) (by omega) (by omega) (by omega)
          exact ih (k + 1) (by omega)
      have lp1 : ∀ (m k : Nat), k + m = (CL S h dd).length → Ex d 0 0 m_X11_tooWell 73 [vR (some (12, 0)), vU, vU, vI span, vI p, vL (arF S h dd p (CL S h dd) k), vU, vI (nI (3 ^ k)), vI (nI k), vU, vU, vU] [] (up σ2 T) Q := by
        intro m
        induction m with
        | zero =>
          intro k hkm
          have ek : k = (CL S h dd).length := by omega
          refine sX11_tooWell_73 ?_
          unfold bX11_tooWell_73
          rw [e49, ek]
          refine ⟨fun y => absurd y (i_lt_irr _), fun _ => ?_⟩
          exact lp2 (3 ^ (CL S h dd).length) 0 (by omega)
        | succ m ih =>
          intro k hkm
          have hk : k < (CL S h dd).length := by omega
          refine sX11_tooWell_73 ?_
          unfold bX11_tooWell_73
          rw [e49]
          refine ⟨fun _ => ⟨by omega, sp_X11_restOf (by omega) hM2 hI hF hY hk ⟨by omega, sp_X11_abs ?_⟩⟩, fun y => absurd ((c_lt (by omega) (by omega)).mpr hk) y⟩
          dsimp only [kI]
          rw [pow3_n k (by omega), nI_1]
          exact ih (k + 1) (by omega)
      exact lp1 (CL S h dd).length 0 (by omega)
    · have hq2 := hq _ (LW_fi σ (smA S h dd 0).1 (smA S h dd 0).2)
      rw [if_pos (Or.inr z2)] at hq2
      exact hq2
  · rw [if_neg (fun y => y c1), if_pos (Or.inr c3)] at hQ
    exact hQ S σ (FS.rf S) (Fi.rf _ _)
  · rw [if_neg (fun y => y c1), if_pos (Or.inl c2)] at hQ
    exact hQ S σ (FS.rf S) (Fi.rf _ _)
  · rw [if_pos c1] at hQ
    exact hQ S σ (FS.rf S) (Fi.rf _ _)
theorem sp_X8_restsTogether {d : Nat} {h dd p : Int32} {σ : XH} {S : SS} {Q : XV → XH → Prop} (hd : 2 ≤ d) (hX : CFX σ) (hI : SInv S) (hS : StI S) (hY : TY σ S h dd (CL S h dd)) (hp : 0 ≤ p.toInt ∧ p.toInt ≤ 99999) (hQ : Q (vL (arF S h dd p (CL S h dd) (CL S h dd).length)) σ) : Ec d 0 0 m_X8_restsTogether [vR (some (9, 0)), vI p] σ Q := by
  have hl_ := CL_len hI h dd
  have lp : ∀ (m k : Nat), k + m = (CL S h dd).length → Ex d 0 0 m_X8_restsTogether 5 [vR (some (9, 0)), vI p, vL (arF S h dd p (CL S h dd) k), vU, vI (nI k)] [] σ Q := by
    intro m
    induction m with
    | zero =>
      intro k hkm
      have ek : k = (CL S h dd).length := by omega
      refine sX8_restsTogether_5 ?_
      unfold bX8_restsTogether_5
      rw [hY.1, ek]
      exact ⟨fun y => absurd y (i_lt_irr _), fun _ => hQ⟩
    | succ m ih =>
      intro k hkm
      have hk : k < (CL S h dd).length := by omega
      refine sX8_restsTogether_5 ?_
      unfold bX8_restsTogether_5
      rw [hY.1]
      refine ⟨fun _ => ⟨by omega, sp_X8_restAt (by omega) hX hI hS hY hk hp ⟨by omega, sp_absI ?_⟩⟩, fun q => absurd ((c_lt (by omega) (by omega)).mpr hk) q⟩
      dsimp only [kI]
      rw [nI_1]
      exact ih (k + 1) (by omega)
  refine Ec_of mo_X8_restsTogether.1 (Nat.le_of_ble_eq_true rfl) ?_
  refine sX8_restsTogether_0 ?_
  unfold bX8_restsTogether_0
  exact lp (CL S h dd).length 0 (by omega)
theorem sp_X8_waysBelow {d n : Nat} {span : Int32} {total : Int64} {σ : XH} {Q : XV → XH → Prop} (hd : 1 ≤ d) (hX : CFX σ) (hn8 : n ≤ 8) (h97 : hi σ 9 0 7 = nI n) (hQ : ∀ σ', Fi (tl [113]) σ σ' → Q (vI (nI (wyC n (twP span total)))) σ') : Ec d 0 0 m_X8_waysBelow [vR (some (9, 0)), vL total, vI span] σ Q := by
  -- the row holds the ways of k
  have lpS : ∀ (m j : Nat) (g : XH), j + m = 17 → Fi (tl [113]) σ g → (∀ i, i < 17 → hi g 113 0 i = nI (wyN n i)) → Ex d 0 0 m_X8_waysBelow 99 [vR (some (9, 0)), vL total, vU, vI span, vI (nI (swN (twP span total) (wyN n) j)), vI (nI j)] [] g Q := by
    intro m
    induction m with
    | zero =>
      intro j g hjm hf hw
      have ej : j = 17 := by omega
      subst ej
      refine sX8_waysBelow_99 ?_
      unfold bX8_waysBelow_99
      rw [hf.n, hX.n113]
      refine ⟨by rw [hf.r]; exact hX.k9_6, fun y => absurd y (by decide), fun _ => ?_⟩
      rw [swN_wy n _ 17 (by omega)]
      exact hQ g hf
    | succ m ih =>
      intro j g hjm hf hw
      have f132 : ∀ a, a = swN (twP span total) (wyN n) (j + 1) → Ex d 0 0 m_X8_waysBelow 132 [vR (some (9, 0)), vL total, vU, vI span, vI (nI a), vI (nI j)] [] g Q := fun a ea => by
        refine sX8_waysBelow_132 ?_
        unfold bX8_waysBelow_132
        rw [nI_1, ea]
        exact ih (j + 1) g (by omega) hf hw
      have es : swN (twP span total) (wyN n) (j + 1) = swN (twP span total) (wyN n) j + (if twP span total j = true then wyN n j else 0) := rfl
      refine sX8_waysBelow_99 ?_
      unfold bX8_waysBelow_99
      rw [hf.n, hX.n113, nI_clamp (by omega), hw j (by omega), lgc_lt, nI_add]
      refine ⟨by rw [hf.r]; exact hX.k9_6, fun _ => ⟨fun y => ⟨by rw [hf.r]; exact hX.k9_6, vp_in_nI (by omega) (by omega), f132 _ ?_⟩, fun y => f132 _ ?_⟩, fun y => absurd ((c_lt (n := j) (N := 17) (by omega) (by omega)).mpr (by omega)) y⟩
      · rw [es, if_pos (decide_eq_true y)]
      · rw [es, if_neg (fun z => y (of_decide_eq_true z)), Nat.add_zero]
  have lpR : ∀ (m k : Nat) (g : XH), k + m = n → Fi (tl [113]) σ g → (∀ i, i < 17 → hi g 113 0 i = nI (wyN k i)) → Ex d 0 0 m_X8_waysBelow 18 [vR (some (9, 0)), vL total, vU, vI span, vI (nI k), vU] [] g Q := by
    intro m
    induction m with
    | zero =>
      intro k g hkm hf hw
      have ek : k = n := by omega
      subst ek
      refine sX8_waysBelow_18 ?_
      unfold bX8_waysBelow_18
      rw [hf.i (s := 9) rfl, h97]
      exact ⟨fun y => absurd y (i_lt_irr _), fun _ => lpS 17 0 g rfl hf hw⟩
    | succ m ih =>
      intro k g hkm hf hw
      -- one after another, from the highest down
      have lpD : ∀ (j : Nat) (g : XH), j < 17 → Fi (tl [113]) σ g → (∀ i, i < 17 → hi g 113 0 i = nI (if j < i then wyN (k + 1) i else wyN k i)) → Ex d 0 0 m_X8_waysBelow 36 [vR (some (9, 0)), vL total, vU, vI span, vI (nI k), vI (nI j)] [] g Q := by
        intro j
        induction j with
        | zero =>
          intro g _ hf hw
          refine sX8_waysBelow_36 ⟨fun _ => ?_, fun y => absurd (by decide) y⟩
          rw [nI_1]
          refine ih (k + 1) g (by omega) hf (fun i hi_ => ?_)
          rw [hw i hi_]
          by_cases c : 0 < i
          · rw [if_pos c]
          · have : i = 0 := by omega
            subst this
            rw [if_neg c]
            rfl
        | succ j ihj =>
          intro g hj hf hw
          have hh : hr g 9 0 6 = some (113, 0) := by rw [hf.r]; exact hX.k9_6
          have hnn : hn g 113 0 = 17 := by rw [hf.n]; exact hX.n113
          have k16 : k ≤ 8 := by omega
          have f78 : ∀ q0 : Int32, q0 = nI (if j + 1 < 2 then 0 else wyN k (j + 1 - 2)) → Ex d 0 0 m_X8_waysBelow 78 [vR (some (9, 0)), vL total, vU, vI span, vI (nI k), vI (nI (j + 1))] [vI q0, vI (nI (wyN k j)), vI (nI (wyN k (j + 1))), vI (nI (j + 1)), vR (some (113, 0))] g Q := fun q0 eq => by
            refine sX8_waysBelow_78 ⟨vp_at hnn (vp_in_nI (by omega) (by omega)), ?_⟩
            intro g2 e2
            rw [nI_clamp (by omega), eq, nI_add, nI_add] at e2
            rw [show nI (j + 1) + (-1) = nI (j + 1) - 1 from (Int32.sub_eq_add_neg _ _).symm, nI_pred]
            have ew : wyN k (j + 1) + (wyN k j + (if j + 1 < 2 then 0 else wyN k (j + 1 - 2))) = wyN (k + 1) (j + 1) := rfl
            rw [ew] at e2
            refine ihj g2 (by omega) (by rw [e2]; exact Fi.wI hf rfl _ _ _) (fun i hi_ => ?_)
            rw [e2, hi_wI_at]
            by_cases c : i = j + 1
            · rw [if_pos ⟨rfl, c⟩, if_pos (by omega), c]
            · rw [if_neg (fun z => c z.2), hw i hi_]
              by_cases c2 : j + 1 < i
              · rw [if_pos c2, if_pos (by omega)]
              · rw [if_neg c2, if_neg (by omega)]
          have w0 : hi g 113 0 (j + 1) = nI (wyN k (j + 1)) := by rw [hw (j + 1) (by omega), if_neg (by omega)]
          have w1 : hi g 113 0 j = nI (wyN k j) := by rw [hw j (by omega), if_neg (by omega)]
          refine sX8_waysBelow_36 ?_
          unfold bX8_waysBelow_36
          rw [nI_pred, nI_clamp (by omega), nI_clamp (by omega), w0, w1]
          refine ⟨fun y => ?_, fun _ => ⟨hh, vp_at hnn (vp_in_nI (by omega) (by omega)), hh, vp_at hnn (vp_in_nI (by omega) (by omega)), fun y => f78 0 ?_, fun y => ⟨hh, ?_, f78 _ ?_⟩⟩⟩
          · have := (c_lt (n := j + 1) (N := 1) (by omega) (by omega)).mp y
            omega
          · have := (c_lt (n := j + 1) (N := 2) (by omega) (by omega)).mp y
            rw [if_pos this]
            rfl
          · have : ¬ j + 1 < 2 := fun q => y ((c_lt (n := j + 1) (N := 2) (by omega) (by omega)).mpr q)
            have e2 : nI (j + 1) - 2 = nI (j - 1) := by
              have := nI_sb (a := j + 1) (b := 2) (by omega)
              have e : nI (j + 1) - 2 = nI (j + 1 - 2) := this
              rw [e]
              congr 1
            rw [e2]
            exact vp_at hnn (vp_in_nI (by omega) (by omega))
          · have hge : ¬ j + 1 < 2 := fun q => y ((c_lt (n := j + 1) (N := 2) (by omega) (by omega)).mpr q)
            have e2 : nI (j + 1) - 2 = nI (j - 1) := by
              have := nI_sb (a := j + 1) (b := 2) (by omega)
              have e : nI (j + 1) - 2 = nI (j + 1 - 2) := this
              rw [e]
              congr 1
            rw [e2, nI_clamp (by omega), hw (j - 1) (by omega), if_neg (by omega), if_neg hge]
            congr 2
      refine sX8_waysBelow_18 ?_
      unfold bX8_waysBelow_18
      rw [hf.i (s := 9) rfl, h97, hf.n, hX.n113]
      refine ⟨fun _ => ⟨by rw [hf.r]; exact hX.k9_6, ?_⟩, fun y => absurd ((c_lt (by omega) (by omega)).mpr (by omega)) y⟩
      have := lpD 16 g (by omega) hf (fun i hi_ => by rw [if_neg (by omega)]; exact hw i hi_)
      exact this
  refine Ec_of mo_X8_waysBelow.1 (Nat.le_of_ble_eq_true rfl) ?_
  refine sX8_waysBelow_0 ⟨hX.k9_6, hd, sp_fill (s := 113) (n := 17) (by omega) (by omega) hX.n113 (fun g1 f1 _ z1 => ?_)⟩
  refine ⟨by rw [f1.r]; exact hX.k9_6, by rw [f1.n]; exact vp_at hX.n113 (vp_in_nI (n := 0) (by omega) (by omega)), ?_⟩
  intro g2 e2
  rw [show (0 : Int32).toNatClampNeg = 0 by decide] at e2
  refine lpR n 0 g2 (by omega) (by rw [e2]; exact Fi.wI f1 rfl _ _ _) (fun i hi_ => ?_)
  rw [e2, hi_wI_at]
  by_cases c : i = 0
  · rw [if_pos ⟨rfl, c⟩, c]
    rfl
  · rw [if_neg (fun z => c z.2), z1 i hi_]
    have e : wyN 0 i = 0 := if_neg c
    rw [e]
    rfl
theorem sp_X10_tooWell {d : Nat} {h dd span : Int32} {S : SS} {ρ : List Nat} {σ : XH} {Q : XV → XH → Prop} (hd : 9 ≤ d) (hI : SInv S) (hO : OrI S) (hSt : StI S) (hU : RuI S) (hC : CCt σ S ρ) (hQ : ∀ σ', Fi (tl [9, 107, 108, 109, 110, 111, 112, 113]) σ σ' → Q (vI (tooWellG S h dd span)) σ') : Ec d 0 0 m_X10_tooWell [vR (some (11, 0)), vI h, vI dd, vI span] σ Q := by
  have hl_ := CL_len hI h dd
  have hX := hC.1.1
  unfold tooWellG at hQ
  have tw : ∀ {σ1 : XH}, Fi (tl [9, 107, 108, 109, 110, 111, 112]) σ σ1 → Fi (tl [9, 107, 108, 109, 110, 111, 112, 113]) σ (TW σ1 (smA S h dd 0).1 (smA S h dd 0).2) := fun k => (k.sub (tl_sub (by decide))).trans ((TW_fi _ _ _).sub (tl_sub (by decide)))
  refine Ec_of mo_X10_tooWell.1 (Nat.le_of_ble_eq_true rfl) ?_
  refine sX10_tooWell_0 ⟨by omega, sp_X10_isHouse (by omega) (fun c1 => br_f (by decide) ⟨by omega, sp_X10_isDay (by omega) (fun c2 => br_f (by decide) ⟨by omega, sp_X10_within (fun c3 => br_f (by decide) ⟨by omega, sp_X10_gathersSum (by omega) hI hO hSt hU hC (fun c => ?_) (fun c z σ1 k1 k2 => br_f (by decide) ?_) (fun c z σ1 k1 k2 => br_t rfl (sX10_tooWell_50 ?_))⟩) (fun c3 => br_t rfl (sX10_tooWell_26 ?_))⟩) (fun c2 => br_t rfl (sX10_tooWell_26 ?_))⟩) (fun c1 => br_t rfl ?_)⟩
  · exact absurd c (fun z => z.elim (fun y => y c1) (fun y => y c2))
  · have hX1 : CFX σ1 := hX.fi k1 rfl rfl rfl
    have hX2 := hX1.TW (smA S h dd 0).1 (smA S h dd 0).2
    have hq := hQ
    rw [if_neg (fun y => y c1), if_neg (fun y => y.elim (fun y => y c2) (fun y => y c3))] at hq
    have e97 : hi (TW σ1 (smA S h dd 0).1 (smA S h dd 0).2) 9 0 7 = nI (CL S h dd).length := k2.1
    refine ⟨hX2.k11_10, ?_⟩
    rw [e97]
    refine ⟨fun y => sX10_tooWell_50 ?_, fun y => ⟨hX2.k11_10, hX2.k11_10, hX2.k11_10, by omega, sp_X8_bestDistance (by omega) z ⟨by omega, sp_X8_restsTogether (by omega) hX2 hI hSt (k2.TW _ _) (ds_rng _ _) ⟨by omega, ?_⟩⟩⟩⟩
    · have := (c_lt (n := 8) (N := (CL S h dd).length) (by omega) (by omega)).mp y
      have hq2 := hq _ (tw k1)
      rw [if_pos (Or.inl this)] at hq2
      exact hq2
    · have hn : ¬ 8 < (CL S h dd).length := fun q => y ((c_lt (n := 8) (N := (CL S h dd).length) (by omega) (by omega)).mpr q)
      refine sp_X8_waysBelow (by omega) hX2 (by omega) e97 (fun σ2 j1 => ?_)
      have hq2 := hq σ2 ((tw k1).trans (j1.sub (tl_sub (by decide))))
      rw [if_neg (fun y => y.elim hn (fun y => y z))] at hq2
      exact hq2
  · have hq2 := hQ _ (tw k1)
    rw [if_neg (fun y => y c1), if_neg (fun y => y.elim (fun y => y c2) (fun y => y c3)), if_pos (Or.inr z)] at hq2
    exact hq2
  · rw [if_neg (fun y => y c1), if_pos (Or.inr c3)] at hQ
    exact hQ σ (Fi.rf _ _)
  · rw [if_neg (fun y => y c1), if_pos (Or.inl c2)] at hQ
    exact hQ σ (Fi.rf _ _)
  · rw [if_pos c1] at hQ
    exact hQ σ (Fi.rf _ _)
