/-! ===== the class gathers what a house counts on a day ===== -/
theorem gD_bd {ch : Nat → Int32} {n : Nat} : ∀ (j i a : Nat) (v : Int32), i + j ≤ 6 → 0 ≤ v.toInt → v.toInt < ((10 ^ i : Nat) : Int) → 0 ≤ (gD ch n j a v).2.toInt ∧ (gD ch n j a v).2.toInt < ((10 ^ (i + j) : Nat) : Int)
  | 0, i, a, v, _, h0, h1 => ⟨h0, h1⟩
  | j + 1, i, a, v, h6, h0, h1 => by
    unfold gD
    by_cases z : inP (gN ch n a) 48 57
    · rw [if_pos z]
      obtain ⟨s1, s2, s3⟩ := num_step h0 h1 (by omega) z
      have := gD_bd (ch := ch) (n := n) j (i + 1) (a + 1) _ (by omega) s2 s3
      have e : i + 1 + j = i + (j + 1) := by omega
      rw [e] at this
      exact this
    · rw [if_neg z]
      have : 10 ^ i ≤ 10 ^ (i + (j + 1)) := Nat.pow_le_pow_right (by omega) (by omega)
      exact ⟨h0, by show v.toInt < _; omega⟩
def RB (R : RT) : Prop := (∀ i, i < 6 → 0 ≤ (R.1 (100 + i)).toInt ∧ (R.1 (100 + i)).toInt ≤ 99) ∧ 0 ≤ (R.1 33).toInt ∧ (R.1 33).toInt ≤ 9999
theorem RB.rt0 : RB rt0 := by
  refine ⟨fun i hi_ => ?_, by decide, by decide⟩
  have e : CSpotTimersLaw_law_r3327_87c8ce.rt0.1 (100 + i) = 1 := by
    show (if 100 + i = 31 then _ else _) = _
    rw [if_neg (by omega), if_neg (by omega), if_neg (by omega), if_neg (by omega)]
  rw [e]
  decide
theorem RB.set {R : RT} (h : RB R) {j : Nat} (hj : j < 100) (h33 : j ≠ 33) (x : Int32) : RB (rset R j x) := by
  refine ⟨fun i hi_ => ?_, ?_⟩
  · have e : (rset R j x).1 (100 + i) = R.1 (100 + i) := if_neg (by omega)
    rw [e]
    exact h.1 i hi_
  · have e : (rset R j x).1 33 = R.1 33 := if_neg (fun z => h33 z.symm)
    rw [e]
    exact h.2
theorem gC_rb {ch : Nat → Int32} {n a : Nat} {R : RT} (h : RB R) : (gC ch n a R).1 = true → RB (gC ch n a R).2.2 := by
  have aft : ∀ (l : List Int32) (b : Nat) (f : Nat → CR), (∀ b', (f b').1 = true → RB (f b').2.2) → (gAft ch n l b R f).1 = true → RB (gAft ch n l b R f).2.2 := fun l b f hf => by
    unfold gAft
    by_cases c : (gW ch n l b).1 = true
    · rw [if_pos c]
      exact hf _
    · rw [if_neg c]
      exact fun z => Bool.noConfusion z
  unfold gC
  split
  · refine aft _ _ _ (fun b' => ?_)
    unfold gBlur
    split
    · exact fun _ => h.set (by omega) (by omega) _
    · split
      · exact fun _ => h.set (by omega) (by omega) _
      · split
        · exact fun _ => h.set (by omega) (by omega) _
        · exact fun z => Bool.noConfusion z
  · split
    · exact aft _ _ _ (fun b' _ => h.set (by omega) (by omega) _)
    · split
      · exact aft _ _ _ (fun b' _ => h.set (by omega) (by omega) _)
      · split
        · refine aft _ _ _ (fun b' => ?_)
          unfold gRest
          split
          · intro _
            obtain ⟨g1, g2⟩ := gD_bd (ch := ch) (n := n) 4 0 b' 0 (by omega) (by decide) (by decide)
            refine ⟨fun i hi_ => ?_, g1, ?_⟩
            · have e : (rset R 33 (gD ch n 4 b' 0).2).1 (100 + i) = R.1 (100 + i) := if_neg (by omega)
              rw [e]
              exact h.1 i hi_
            · show (gD ch n 4 b' 0).2.toInt ≤ 9999
              have e : ((10 ^ (0 + 4) : Nat) : Int) = 10000 := by decide
              omega
          · exact fun z => Bool.noConfusion z
        · split
          · refine aft _ _ _ (fun b' => ?_)
            unfold gStrike
            split
            · exact fun _ => h.set (by omega) (by omega) _
            · exact fun z => Bool.noConfusion z
          · split
            · split
              · exact aft _ _ _ (fun b' _ => h.set (by omega) (by omega) _)
              · refine aft _ _ _ (fun b' => ?_)
                unfold gWeigh
                split
                · split
                  · split
                    · intro _
                      obtain ⟨g1, g2⟩ := gD_bd (ch := ch) (n := n) 2 0 (b' + 2) 0 (by omega) (by decide) (by decide)
                      have e2 : ((10 ^ (0 + 2) : Nat) : Int) = 100 := by decide
                      refine ⟨fun i hi_ => ?_, ?_⟩
                      · show 0 ≤ (if 100 + i = _ then _ else _ : Int32).toInt ∧ (if 100 + i = _ then _ else _ : Int32).toInt ≤ 99
                        split
                        · exact ⟨g1, by omega⟩
                        · exact h.1 i hi_
                      · have e : (rset R (100 + (gN ch n b' - 48).toNatClampNeg) (gD ch n 2 (b' + 2) 0).2).1 33 = R.1 33 := if_neg (by omega)
                        rw [e]
                        exact h.2
                    · exact fun z => Bool.noConfusion z
                  · exact fun z => Bool.noConfusion z
                · exact fun z => Bool.noConfusion z
            · exact fun z => Bool.noConfusion z
theorem gG_rb {ch : Nat → Int32} {n : Nat} : ∀ (c a : Nat) (R : RT), RB R → (gG ch n c a R).1 = true → RB (gG ch n c a R).2.2
  | 0, a, R, hR, h => by
    unfold gG at h ⊢
    split at h
    · rename_i z
      rw [if_pos z]
      exact gC_rb hR z.1
    · exact Bool.noConfusion h
  | c + 1, a, R, hR, h => by
    unfold gG at h ⊢
    split at h
    · rename_i z
      rw [if_pos z]
      split at h
      · rename_i z2
        rw [if_pos z2]
        exact gC_rb hR z
      · rename_i z2
        rw [if_neg z2]
        split at h
        · rename_i z3
          rw [if_pos z3]
          exact gG_rb c _ _ (gC_rb hR z) h
        · exact Bool.noConfusion h
    · exact Bool.noConfusion h
theorem ctR_rb {S : SS} (hI : SInv S) (hU : RuI S) (h d : Int32) : RB (ctR S h d) := by
  have h25 := hI.l25
  show RB (ruR S (ruF S h d (nRu S)))
  unfold ruR
  rcases ruF_in S h d (nRu S) (by omega) with e | ⟨j, hj, e⟩
  · rw [e, if_pos (by decide)]
    exact RB.rt0
  · rw [e, if_neg (neg_nn (by omega)), nI_clamp (by omega)]
    exact gG_rb 9 0 rt0 RB.rt0 (hU j hj).2.2.2
theorem ctR_li {S : SS} (hI : SInv S) (hU : RuI S) (h d : Int32) : LI (ctR S h d).2 := by
  have h25 := hI.l25
  show LI (ruR S (ruF S h d (nRu S))).2
  unfold ruR
  rcases ruF_in S h d (nRu S) (by omega) with e | ⟨j, hj, e⟩
  · rw [e, if_pos (by decide)]
    exact LI.nil
  · rw [e, if_neg (neg_nn (by omega)), nI_clamp (by omega)]
    exact gA_ok (hU j hj).2.2.2
/-! the tally -/
def TY (σ : XH) (S : SS) (h d : Int32) (L : List Nat) : Prop := hi σ 9 0 7 = nI L.length ∧ ∀ k r, L[k]? = some r → hi σ 107 0 k = nI r ∧ hi σ 108 0 k = vlF S h d r ∧ hi σ 109 0 k = wtF S h d r ∧ hi σ 110 0 k = lvF S r ∧ hi σ 111 0 k = vlF S h d r - S 145 (nuF S r).toNatClampNeg
theorem TY.fi {σ σ' : XH} {S : SS} {h d : Int32} {L : List Nat} {T : Nat → Bool} (hY : TY σ S h d L) (hF : Fi T σ σ') (t : ∀ s, s ∈ [9, 107, 108, 109, 110, 111] → T s = false) : TY σ' S h d L := by
  unfold TY
  rw [hF.i (t 9 (by decide)), hF.i (t 107 (by decide)), hF.i (t 108 (by decide)), hF.i (t 109 (by decide)), hF.i (t 110 (by decide)), hF.i (t 111 (by decide))]
  exact hY
theorem sp_X8_placeOf {d : Nat} {x h dd : Int32} {L : List Nat} {σ : XH} {S : SS} {Q : XV → XH → Prop} (hX : CFX σ) (hY : TY σ S h dd L) (hL : L.length ≤ 90) (hQ : Q (vI (plL L 0 x)) σ) : Ec d 0 0 m_X8_placeOf [vR (some (9, 0)), vI x] σ Q := by
  have lp : ∀ (l : List Nat) (i : Nat), L.drop i = l → i ≤ L.length → plL l i x = plL L 0 x → Ex d 0 0 m_X8_placeOf 2 [vR (some (9, 0)), vI x, vI (nI i)] [] σ Q := by
    intro l
    induction l with
    | nil =>
      intro i hl hi_ hp
      have hz : L.length ≤ i := by
        have : (L.drop i).length = 0 := by rw [hl]; rfl
        rw [List.length_drop] at this
        omega
      refine sX8_placeOf_2 ?_
      unfold bX8_placeOf_2
      rw [hY.1]
      refine ⟨fun z => ?_, fun _ => ?_⟩
      · have := (c_lt (by omega) (by omega)).mp z
        omega
      · rw [← hp] at hQ
        exact hQ
    | cons r l ih =>
      intro i hl hi_ hp
      have hlt : i < L.length := by
        have : (L.drop i).length = l.length + 1 := by rw [hl]; rfl
        rw [List.length_drop] at this
        omega
      have hci : L[i]? = some r := by
        have e : (L.drop i)[0]? = some r := by rw [hl]; rfl
        rw [List.getElem?_drop] at e
        exact e
      have hdl : L.drop (i + 1) = l := by
        have : (L.drop i).drop 1 = l := by rw [hl]; rfl
        rw [List.drop_drop] at this
        exact this
      refine sX8_placeOf_2 ?_
      unfold bX8_placeOf_2
      rw [hY.1, nI_clamp (by omega), (hY.2 i r hci).1, nI_1]
      refine ⟨fun _ => ⟨hX.k9_0, vp_at hX.n107 (vp_in_nI (by omega) (by omega)), fun z => ?_, fun z => ?_⟩, fun z => absurd ((c_lt (n := i) (N := L.length) (by omega) (by omega)).mpr hlt) z⟩
      · have : plL (r :: l) i x = nI i := if_pos z
        rw [this] at hp
        rw [← hp] at hQ
        exact hQ
      · have : plL (r :: l) i x = plL l (i + 1) x := if_neg z
        rw [this] at hp
        exact ih (i + 1) hdl (by omega) hp
  refine Ec_of mo_X8_placeOf.1 (Nat.le_of_ble_eq_true rfl) ?_
  refine sX8_placeOf_0 ?_
  unfold bX8_placeOf_0
  exact lp L 0 rfl (Nat.zero_le _) rfl
theorem plL_neg : ∀ (L : List Nat) (k r : Nat), (∀ q, q ∈ L → q < 1000) → r < 1000 → k + L.length < 1000 → (plL L k (nI r) < 0 ↔ ¬ r ∈ L)
  | [], k, r, _, _, _ => ⟨fun _ z => (by cases z), fun _ => (by show (-1 : Int32) < 0; decide)⟩
  | q :: l, k, r, hL, hr, hk => by
    have hk' : k + (l.length + 1) < 1000 := hk
    unfold plL
    by_cases c : nI q = nI r
    · have e : q = r := nI_inj (by have := hL q List.mem_cons_self; omega) (by omega) c
      rw [if_pos c]
      exact ⟨fun z => absurd z (neg_nn (by omega)), fun z => absurd (by rw [e]; exact List.mem_cons_self) z⟩
    · rw [if_neg c, plL_neg l (k + 1) r (fun p hp => hL p (List.mem_cons_of_mem _ hp)) hr (by omega)]
      constructor
      · intro z y
        rcases List.mem_cons.mp y with y | y
        · exact c (by rw [y])
        · exact z y
      · exact fun z y => z (List.mem_cons_of_mem _ y)
theorem and1 (x : Int32) : x &&& 1 = 0 ∨ x &&& 1 = 1 := by
  by_cases c : x.toBitVec.getLsbD 0 = true
  · right
    apply Int32.toBitVec_inj.mp
    apply BitVec.eq_of_getLsbD_eq
    intro i hi
    rw [Int32.toBitVec_and, BitVec.getLsbD_and]
    by_cases c2 : i = 0
    · subst c2
      rw [c]
      rfl
    · have e : (1 : Int32).toBitVec.getLsbD i = false := by
        have : ∀ j, j < 32 → ¬ j = 0 → (1 : Int32).toBitVec.getLsbD j = false := by decide +kernel
        exact this i hi c2
      rw [e, Bool.and_false]
  · left
    apply Int32.toBitVec_inj.mp
    apply BitVec.eq_of_getLsbD_eq
    intro i hi
    rw [Int32.toBitVec_and, BitVec.getLsbD_and]
    have ez : (0 : Int32).toBitVec.getLsbD i = false := BitVec.getLsbD_zero
    rw [ez]
    by_cases c2 : i = 0
    · subst c2
      have : x.toBitVec.getLsbD 0 = false := by simpa using c
      rw [this, Bool.false_and]
    · have e : (1 : Int32).toBitVec.getLsbD i = false := by
        have : ∀ j, j < 32 → ¬ j = 0 → (1 : Int32).toBitVec.getLsbD j = false := by decide +kernel
        exact this i hi c2
      rw [e, Bool.and_false]
theorem sp_X7_leverOf {d s n : Nat} {S : SS} {σ : XH} {Q : XV → XH → Prop} (hS : CSt σ S) (hs : s < nSt S) (h1 : 1 ≤ n) (h4 : n ≤ 4) (hQ : Q (vI (S 146 (4 * s + n - 1))) σ) : Ec d 0 0 m_X7_leverOf [vR (some (8, s)), vI (nI n)] σ Q := by
  obtain ⟨s0, s1, s2, s3, s4, s5, s6, s7⟩ := hS.2.2 s hs
  refine Ec_of mo_X7_leverOf.1 (Nat.le_of_ble_eq_true rfl) ?_
  refine sX7_leverOf_0 ?_
  unfold bX7_leverOf_0
  rw [s5, nI_clamp (by omega)]
  refine ⟨fun z => absurd z (neg_nn (by omega)), fun _ => ⟨s4, fun _ => ⟨s4, vp_in_nI (by omega) (by omega), sX7_leverOf_23 ?_⟩, fun z => absurd ((c_lt (n := n) (N := 5) (by omega) (by omega)).mpr (by omega)) z⟩⟩
  show Q (vI (hi σ 106 s n)) σ
  rw [s7 n h1 h4]
  exact hQ
theorem sp_X10_tableOf {d n : Nat} {S : SS} {σ : XH} {Q : XV → XH → Prop} (hd : 1 ≤ d) (hX : CFX σ) (hT : CTb σ S) (h4 : n ≤ 4) (hQ : Q (vI (S 145 n)) σ) : Ec d 0 0 m_X10_tableOf [vR (some (11, 0)), vI (nI n)] σ Q := by
  have hin : inP (nI n) 0 ((Int32.ofNat 5) - 1) := (inP_nI (n := 5) (by omega)).mpr (vp_in_nI (by omega) (by omega))
  refine Ec_of mo_X10_tableOf.1 (Nat.le_of_ble_eq_true rfl) ?_
  refine sX10_tableOf_0 ?_
  unfold bX10_tableOf_0
  rw [hX.n115, nI_clamp (by omega)]
  refine ⟨hX.k11_7, hd, sp_X10_within (fun _ => br_f (by decide) ⟨hX.k11_7, vp_at hX.n115 (vp_in_nI (by omega) (by omega)), sX10_tableOf_25 ?_⟩) (fun z => absurd hin z)⟩
  show Q (vI (hi σ 115 0 n)) σ
  rw [hT n h4]
  exact hQ
/-- of a reading of an edge: its number and station as naturals -/
theorem nu_at {S : SS} (hI : SInv S) {r : Nat} (hr : r < nRd S) (hk : isSk (S 120 (oN S r))) : ∃ n, 1 ≤ n ∧ n ≤ 4 ∧ nuF S r = nI n ∧ (nuF S r).toNatClampNeg = n := by
  have h := (hI.r (oN_lt hI hr)).2.2.2.2.2.2.2.2.1 hk
  have h' : inP (nuF S r) 1 4 := h
  rw [inP_iff] at h'
  have e1 : (1 : Int32).toInt = 1 := by decide
  have e2 : (4 : Int32).toInt = 4 := by decide
  rw [fa_lt, fa_lt, e1, e2] at h'
  have e : nuF S r = nI (nuF S r).toInt.toNat := by
    apply Int32.toInt_inj.mp
    rw [nI_toInt (by omega)]
    omega
  refine ⟨(nuF S r).toInt.toNat, by omega, by omega, e, ?_⟩
  rfl
theorem st_at {S : SS} (hI : SInv S) {r : Nat} (hr : r < nRd S) : stF S r < nSt S ∧ S 118 (S 121 r).toNatClampNeg = nI (stF S r) := by
  have hcl := (hI.r hr).2.1
  have h := (hI.2.2.2.2.2.2.2.2.1 (S 121 r) hcl).1
  exact ⟨vp_lt h, nI_of_nn (fun z => h (Or.inl z))⟩
theorem sp_X8_add {d r : Nat} {h dd tb : Int32} {L : List Nat} {S : SS} {σ : XH} {Q : XV → XH → Prop} (hd : 1 ≤ d) (hX : CFX σ) (hI : SInv S) (hS : CSt σ S) (hC : CCl σ S) (hR : CRd σ S) (hr : r < nRd S) (hk : isSk (S 120 (oN S r))) (hY : TY σ S h dd L) (hL : L.length < 90) (ht : tb = S 145 (nuF S r).toNatClampNeg)
    (hQ : ∀ σ', Fi (tl [9, 107, 108, 109, 110, 111]) σ σ' → TY σ' S h dd (L ++ [r]) → Q vU σ') : Ec d 0 0 m_X8_add [vR (some (9, 0)), vR (some (5, r)), vI (vlF S h dd r), vI (wtF S h dd r), vI tb] σ Q := by
  obtain ⟨g0, g1, g2, g3, g4, g5, g6, g7, g8, g9, g10⟩ := hR.2 r hr
  have hoN := oN_lt hI hr
  obtain ⟨o0, o1, o2, o3, o4, o5, o6, o7, o8, o9, o10⟩ := hR.2 _ hoN
  have hcl := vp_lt (hI.r hr).2.1
  obtain ⟨c0, c1, c2, c3, c4, c5, c6, c7⟩ := hC.2.2.2 _ hcl
  obtain ⟨n, n1, n4, en, enn⟩ := nu_at hI hr hk
  obtain ⟨hst, est⟩ := st_at hI hr
  have e125 : hi σ 5 (oN S r) 7 = nI n := by
    rw [o7]
    have e : S 125 (oN S r) = nI n := en
    rw [e, if_neg (fun z => by
      have := congrArg Int32.toInt z
      rw [nI_toInt (by omega)] at this
      have e1 : (-1 : Int32).toInt = -1 := by decide
      omega)]
  refine Ec_of mo_X8_add.1 (Nat.le_of_ble_eq_true rfl) ?_
  refine sX8_add_0 ?_
  unfold bX8_add_0
  rw [hY.1]
  refine ⟨fun _ => ⟨hX.k9_0, drf_of rfl ⟨vp_at hX.n107 (vp_in_nI hL (by omega)), ?_⟩⟩, fun z => absurd ((c_lt (n := L.length) (N := 90) (by omega) (by omega)).mpr hL) z⟩
  intro h2 e2
  rw [nI_clamp (by omega), g0] at e2
  have a97 : hi h2 9 0 7 = nI L.length := by rw [e2, hi_wI_ne _ _ _ _ (by decide)]; exact hY.1
  rw [a97]
  refine ⟨by rw [e2]; exact hX.k9_1, by rw [e2]; exact vp_at hX.n108 (vp_in_nI hL (by omega)), ?_⟩
  intro h3 e3
  rw [nI_clamp (by omega)] at e3
  have b97 : hi h3 9 0 7 = nI L.length := by rw [e3, hi_wI_ne _ _ _ _ (by decide)]; exact a97
  rw [b97]
  refine ⟨by rw [e3, e2]; exact hX.k9_2, by rw [e3, e2]; exact vp_at hX.n109 (vp_in_nI hL (by omega)), ?_⟩
  intro h4 e4
  rw [nI_clamp (by omega)] at e4
  have d97 : hi h4 9 0 7 = nI L.length := by rw [e4, hi_wI_ne _ _ _ _ (by decide)]; exact b97
  have f4 : Fi (tl [9, 107, 108, 109, 110, 111]) σ h4 := by
    rw [e4, e3, e2]
    exact Fi.wI (Fi.wI (Fi.wI (Fi.rf _ _) (by decide) _ _ _) (by decide) _ _ _) (by decide) _ _ _
  have hR4 : CRd h4 S := hR.tr f4.fr (SA.rf (tl []) (tl []) S) (by decide) (by decide) (by decide)
  have hS4 : CSt h4 S := hS.tr f4.fr (SA.rf (tl []) (tl []) S) (by decide) (by decide) (by decide)
  refine ⟨by rw [f4.r]; exact hX.k9_3, ?_⟩
  refine drf_of rfl (drf_of (by rw [f4.r]; exact g2) (drf_of rfl ⟨by omega, sp_X4_origin hR4 hr ?_⟩))
  dsimp only [kR]
  refine drf_of rfl (drf_of (by rw [f4.r]; exact c1) ⟨by omega, ?_⟩)
  have e125' : hi h4 5 (oN S r) 7 = nI n := by rw [f4.i (s := 5) rfl]; exact e125
  rw [e125', d97]
  refine sp_X7_leverOf hS4 hst n1 n4 ?_
  have elv : S 146 (4 * (S 118 (S 121 r).toNatClampNeg).toNatClampNeg + n - 1) = lvF S r := by
    unfold lvF
    rw [enn]
    rfl
  rw [elv]
  refine ⟨by rw [f4.n]; exact vp_at hX.n110 (vp_in_nI hL (by omega)), ?_⟩
  intro h5 e5
  rw [nI_clamp (by omega)] at e5
  have i97 : hi h5 9 0 7 = nI L.length := by rw [e5, hi_wI_ne _ _ _ _ (by decide)]; exact d97
  have f5 : Fi (tl [9, 107, 108, 109, 110, 111]) σ h5 := by
    rw [e5]
    exact Fi.wI f4 (by decide) _ _ _
  refine sX8_add_69 ?_
  unfold bX8_add_69
  rw [i97]
  refine ⟨by rw [f5.r]; exact hX.k9_4, by rw [f5.n]; exact vp_at hX.n111 (vp_in_nI hL (by omega)), ?_⟩
  intro h6 e6 h7 e7
  rw [nI_clamp (by omega)] at e6
  have k97 : hi h6 9 0 7 = nI L.length := by rw [e6, hi_wI_ne _ _ _ _ (by decide)]; exact i97
  rw [k97, nI_1] at e7
  have f7 : Fi (tl [9, 107, 108, 109, 110, 111]) σ h7 := by
    rw [e7, e6]
    exact Fi.wI (Fi.wI f5 (by decide) _ _ _) (by decide) _ _ _
  have w107 : ∀ k, hi h7 107 0 k = if k = L.length then nI r else hi σ 107 0 k := fun k => by
    rw [e7, hi_wI_ne _ _ _ _ (by decide), e6, hi_wI_ne _ _ _ _ (by decide), e5, hi_wI_ne _ _ _ _ (by decide), e4, hi_wI_ne _ _ _ _ (by decide), e3, hi_wI_ne _ _ _ _ (by decide), e2, hi_wI_at]
    simp only [true_and]
  have w108 : ∀ k, hi h7 108 0 k = if k = L.length then vlF S h dd r else hi σ 108 0 k := fun k => by
    rw [e7, hi_wI_ne _ _ _ _ (by decide), e6, hi_wI_ne _ _ _ _ (by decide), e5, hi_wI_ne _ _ _ _ (by decide), e4, hi_wI_ne _ _ _ _ (by decide), e3, hi_wI_at, e2, hi_wI_ne _ _ _ _ (by decide)]
    simp only [true_and]
  have w109 : ∀ k, hi h7 109 0 k = if k = L.length then wtF S h dd r else hi σ 109 0 k := fun k => by
    rw [e7, hi_wI_ne _ _ _ _ (by decide), e6, hi_wI_ne _ _ _ _ (by decide), e5, hi_wI_ne _ _ _ _ (by decide), e4, hi_wI_at, e3, hi_wI_ne _ _ _ _ (by decide), e2, hi_wI_ne _ _ _ _ (by decide)]
    simp only [true_and]
  have w110 : ∀ k, hi h7 110 0 k = if k = L.length then lvF S r else hi σ 110 0 k := fun k => by
    rw [e7, hi_wI_ne _ _ _ _ (by decide), e6, hi_wI_ne _ _ _ _ (by decide), e5, hi_wI_at, e4, hi_wI_ne _ _ _ _ (by decide), e3, hi_wI_ne _ _ _ _ (by decide), e2, hi_wI_ne _ _ _ _ (by decide)]
    simp only [true_and]
  have w111 : ∀ k, hi h7 111 0 k = if k = L.length then vlF S h dd r - tb else hi σ 111 0 k := fun k => by
    rw [e7, hi_wI_ne _ _ _ _ (by decide), e6, hi_wI_at, e5, hi_wI_ne _ _ _ _ (by decide), e4, hi_wI_ne _ _ _ _ (by decide), e3, hi_wI_ne _ _ _ _ (by decide), e2, hi_wI_ne _ _ _ _ (by decide)]
    simp only [true_and]
  refine hQ h7 f7 ⟨by rw [e7, hi_wI_eq, List.length_append]; rfl, fun k q hq => ?_⟩
  rw [w107, w108, w109, w110, w111]
  rcases Nat.lt_or_ge k L.length with c | c
  · rw [List.getElem?_append_left c] at hq
    have hne : ¬ k = L.length := by omega
    rw [if_neg hne, if_neg hne, if_neg hne, if_neg hne, if_neg hne]
    exact hY.2 k q hq
  · rw [List.getElem?_append_right c] at hq
    have hk1 := (List.getElem?_eq_some_iff.mp hq).1
    have e0 : ([r] : List Nat).length = 1 := rfl
    have ek : k = L.length := by omega
    rw [ek, Nat.sub_self] at hq
    have : some r = some q := hq
    have eq : q = r := (Option.some.inj this).symm
    rw [if_pos ek, if_pos ek, if_pos ek, if_pos ek, if_pos ek, eq, ht]
    exact ⟨rfl, rfl, rfl, rfl, rfl⟩
