/-! ===== the class: mayCount, gather, counted, counts ===== -/
abbrev mayP (S : SS) (h d : Int32) (L : List Nat) (r : Nat) : Prop := ¬ hasF S h (nI r) d (nLe S) = 0 ∧ isSk (S 120 (oN S r)) ∧ ¬ (hasF S h (nI r) d (nLe S) = 2 ∧ (ctR S h d).1 36 = 0) ∧ ¬ (S 120 r = 6 ∧ ((ctR S h d).1 35 = 0 ∨ (S 127 r).toNatClampNeg ∈ L)) ∧ ¬ (((ctR S h d).1 31 >>> (nuF S r &&& 31)) &&& 1 = 0) ∧ ¬ wtF S h d r = 0
/-- what the class's heap must hold for the counting -/
def CCt (σ : XH) (S : SS) (ρ : List Nat) : Prop := CBase σ S ρ ∧ CRu σ S ρ ∧ CLe σ S ∧ CTb σ S
theorem CCt.fi {σ σ' : XH} {S : SS} {ρ : List Nat} {T : Nat → Bool} (hI : SInv S) (h : CCt σ S ρ) (hF : Fi T σ σ') (t : ∀ s, s ∈ [8, 106, 2, 101, 102, 5, 0, 410, 411, 510, 500, 501, 513, 6, 103, 104, 105, 3, 115] → T s = false) : CCt σ' S ρ := by
  obtain ⟨h1, h2, h3, h4⟩ := h
  have hX : CFX σ' := h1.1.fi hF (t 500 (by decide)) (t 501 (by decide)) (t 513 (by decide))
  refine ⟨h1.tr hF.fr hX (SA.rf (tl []) (tl []) S) (fun s hs => t s (by revert hs; revert s; decide)) (by decide) (by decide), h2.tr hI.l25 hF.fr (SA.rf (tl []) (tl []) S) (fun s hs => t s (by revert hs; revert s; decide)) (by decide) rfl, h3.tr hF.fr (SA.rf (tl []) (tl []) S) (fun s hs => t s (by revert hs; revert s; decide)) (by decide) (by decide), h4.tr hF.fr (SA.rf (tl []) (tl []) S) (fun s hs => t s (by revert hs; revert s; decide)) (by decide) (by decide)⟩
theorem sp_X10_mayCount {d r n : Nat} {h dd : Int32} {L : List Nat} {S : SS} {ρ : List Nat} {σ : XH} {Q : XV → XH → Prop} (hd : 4 ≤ d) (hI : SInv S) (hO : OrI S) (hB : CBase σ S ρ) (hr : r < nRd S) (hRR : RR σ (ruC ρ (ctX S h dd)) n (ctR S h dd)) (hRB : RB (ctR S h dd)) (hY : TY σ S h dd L) (hLn : ∀ q, q ∈ L → q < r) (hL : L.length ≤ 90) (hH : ∀ s, s < 11 → hi σ 112 0 s = hrd S h dd s (nLe S))
    (q1 : mayP S h dd L r → Q (vI 1) σ) (q0 : ¬ mayP S h dd L r → Q (vI 0) σ) : Ec d 0 0 m_X10_mayCount [vR (some (11, 0)), vR (some (5, r)), vR (some (6, ruC ρ (ctX S h dd)))] σ Q := by
  obtain ⟨hX, hLL, hS, hC, hR⟩ := hB
  have h90 := hI.l8
  have h20 := hI.l20
  obtain ⟨g0, g1, g2, g3, g4, g5, g6, g7, g8, g9, g10⟩ := hR.2 r hr
  have hoN := oN_lt hI hr
  obtain ⟨o0, o1, o2, o3, o4, o5, o6, o7, o8, o9, o10⟩ := hR.2 _ hoN
  have hcl := vp_lt (hI.r hr).2.1
  obtain ⟨c0, c1, c2, c3, c4, c5, c6, c7⟩ := hC.2.2.2 _ hcl
  obtain ⟨hst, est⟩ := st_at hI hr
  obtain ⟨s0, s1⟩ := hS.2.2 _ hst
  obtain ⟨r1, r2, r3, r4, r5⟩ := id hRR
  have x31 : hi σ 6 (ruC ρ (ctX S h dd)) 7 = (ctR S h dd).1 31 := r2 31 (by decide)
  have x35 : hi σ 6 (ruC ρ (ctX S h dd)) 11 = (ctR S h dd).1 35 := r2 35 (by decide)
  have x36 : hi σ 6 (ruC ρ (ctX S h dd)) 12 = (ctR S h dd).1 36 := r2 36 (by decide)
  obtain ⟨a, ea, ea1, ea2⟩ := hO.2.1 r hr
  have ha240 := ordC_le hI
  have hhas : hasF S h (nI r) dd (nLe S) = (if S 128 r < hrd S h dd (stF S r) (nLe S) then (if 0 < S 129 r ∧ S 129 r < hrd S h dd (stF S r) (nLe S) then 2 else 1) else 0) := has_eq est (by rw [ea, nI_toInt (by omega)]; omega) (by omega) (nLe S) (by omega) (fun j hj => hO.2.2.2.1 r j hr hj)
  -- the end of it
  have f92 : isSk (S 120 (oN S r)) → (¬ (((ctR S h dd).1 31 >>> (nuF S r &&& 31)) &&& 1 = 0) ∧ ¬ wtF S h dd r = 0 → Q (vI 1) σ) → (¬ (¬ (((ctR S h dd).1 31 >>> (nuF S r &&& 31)) &&& 1 = 0) ∧ ¬ wtF S h dd r = 0) → Q (vI 0) σ) → Ex d 0 0 m_X10_mayCount 92 [vU, vR (some (5, r)), vR (some (6, ruC ρ (ctX S h dd))), vU] [] σ Q := fun hk k1 k0 => by
    obtain ⟨m, m1, m4, en, enn⟩ := nu_at hI hr hk
    have e125 : hi σ 5 (oN S r) 7 = nuF S r := by
      rw [o7]
      have e : S 125 (oN S r) = nI m := en
      rw [e, if_neg (fun z => by
        have := congrArg Int32.toInt z
        rw [nI_toInt (by omega)] at this
        have e1 : (-1 : Int32).toInt = -1 := by decide
        omega)]
      exact en.symm
    have hh := (hI.r hr).2.2.1
    have vh : vp_in (S 122 r) 6 := inP_c hh (by decide) (by decide)
    have hlt6 := vp_lt vh
    have eh : S 122 r = nI (S 122 r).toNatClampNeg := nI_of_nn (fun z => vh (Or.inl z))
    refine sX10_mayCount_92 (drf_of rfl (drf_of rfl ⟨by omega, sp_X4_origin hR hr ?_⟩))
    dsimp only [kR]
    refine drf_of rfl ?_
    rw [x31, e125]
    refine ⟨fun z => drf_of rfl (drf_of rfl ⟨by omega, ?_⟩), fun z => sX10_mayCount_125 (sX10_mayCount_126 ⟨Or.inl rfl, k0 (fun y => ?_)⟩)⟩
    · rw [g3, eh]
      refine sp_X5_weightOf hRR hlt6 ?_
      have ew : (ctR S h dd).1 (100 + (S 122 r).toNatClampNeg) = wtF S h dd r := rfl
      rw [ew]
      have hb : ¬ (((ctR S h dd).1 31 >>> (nuF S r &&& 31)) &&& 1 = 0) := by rw [z]; decide
      have hw0 := (hRB.1 _ hlt6).1
      rw [ew] at hw0
      have e0 : (0 : Int32).toInt = 0 := by decide
      refine ⟨fun y => sX10_mayCount_126 ⟨Or.inr rfl, k1 ⟨hb, fun q => ?_⟩⟩, fun y => sX10_mayCount_125 (sX10_mayCount_126 ⟨Or.inl rfl, k0 (fun q => q.2 ?_)⟩)⟩
      · rw [q] at y
        exact absurd y (by decide)
      · rw [fa_lt, e0] at y
        apply Int32.toInt_inj.mp
        rw [e0]
        omega
    · exact z ((and1 _).resolve_left y.1)
  have f59 : isSk (S 120 (oN S r)) → ¬ hasF S h (nI r) dd (nLe S) = 0 → ¬ (hasF S h (nI r) dd (nLe S) = 2 ∧ (ctR S h dd).1 36 = 0) → Ex d 0 0 m_X10_mayCount 59 [vR (some (11, 0)), vR (some (5, r)), vR (some (6, ruC ρ (ctX S h dd))), vU] [] σ Q := fun hk p1 p2 => by
    have go : ¬ (S 120 r = 6 ∧ ((ctR S h dd).1 35 = 0 ∨ (S 127 r).toNatClampNeg ∈ L)) → Ex d 0 0 m_X10_mayCount 92 [vU, vR (some (5, r)), vR (some (6, ruC ρ (ctX S h dd))), vU] [] σ Q := fun p3 => f92 hk (fun y => q1 ⟨p1, hk, p2, p3, y.1, y.2⟩) (fun y => q0 (fun g => y ⟨g.2.2.2.2.1, g.2.2.2.2.2⟩))
    have f90 : (S 120 r = 6 ∧ ((ctR S h dd).1 35 = 0 ∨ (S 127 r).toNatClampNeg ∈ L)) → Ex d 0 0 m_X10_mayCount 90 [vU, vU, vU, vU] [] σ Q := fun p3 => sX10_mayCount_90 ⟨Or.inl rfl, q0 (fun g => g.2.2.2.1 p3)⟩
    refine sX10_mayCount_59 (drf_of rfl ?_)
    rw [g5]
    by_cases k6 : S 120 r = 6
    · rw [if_pos k6]
      refine ⟨fun z => absurd z (by simp), fun _ => drf_of rfl ?_⟩
      rw [x35]
      refine ⟨fun z => f90 ⟨k6, Or.inl z⟩, fun z => ⟨hX.k11_10, drf_of rfl ?_⟩⟩
      have hsr := ((hI.r hr).2.2.2.2.1 k6).1
      have hsl := vp_lt hsr
      rw [if_pos k6] at g5
      refine drf_of g5 ⟨by omega, ?_⟩
      have esn : hi σ 5 (S 127 r).toNatClampNeg 0 = nI (S 127 r).toNatClampNeg := (hR.2 _ (by omega)).1
      rw [esn]
      refine sp_X8_placeOf hX hY hL ?_
      have hpl := plL_neg L 0 (S 127 r).toNatClampNeg (fun q hq => by have := hLn q hq; omega) (by omega) (by omega)
      refine ⟨fun z2 => go (fun q => q.2.elim z (hpl.mp z2)), fun z2 => f90 ⟨k6, Or.inr (Classical.byContradiction fun q => z2 (hpl.mpr q))⟩⟩
    · rw [if_neg k6]
      exact ⟨fun _ => go (fun q => k6 q.1), fun z => absurd rfl z⟩
  have f33 : ¬ mayP S h dd L r → Ex d 0 0 m_X10_mayCount 33 [vU, vU, vU, vU] [] σ Q := fun z => sX10_mayCount_33 ⟨Or.inl rfl, q0 z⟩
  refine Ec_of mo_X10_mayCount.1 (Nat.le_of_ble_eq_true rfl) ?_
  refine sX10_mayCount_0 ⟨hX.k11_10, drf_of rfl (drf_of g2 (drf_of c1 ⟨by omega, ?_⟩))⟩
  have s0' : hi σ 8 (S 118 (S 121 r).toNatClampNeg).toNatClampNeg 0 = nI (stF S r) := s0
  rw [s0']
  have hst11 : stF S r < 11 := by have := hI.l1; omega
  refine sp_heardFrom hX hst11 ?_
  rw [hH _ hst11]
  dsimp only [kI]
  refine drf_of rfl ⟨by omega, sp_X4_isOfEdge (by omega) hX hI hR hr (fun hk => br_f (by decide) ?_) (fun hk => br_t rfl (f33 (fun g => hk g.2.1)))⟩
  refine drf_of rfl ?_
  rw [g9]
  refine ⟨fun z => drf_of rfl ⟨by omega, ?_⟩, fun z => f33 (fun g => g.1 (by rw [hhas, if_neg z]))⟩
  rw [if_pos z] at hhas
  refine sp_X4_isWithdrawn hR hr (fun w => br_f (by decide) (drf_of rfl ?_)) (fun w => br_t rfl (f59 hk (by rw [hhas, if_neg (fun y => w y.1)]; decide) (fun y => ?_)))
  · rw [g10]
    refine ⟨fun z2 => drf_of rfl ?_, fun z2 => f59 hk (by rw [hhas, if_neg (fun y => z2 y.2)]; decide) (fun y => ?_)⟩
    · rw [x36]
      rw [if_pos ⟨w, z2⟩] at hhas
      exact ⟨fun z3 => ⟨Or.inl rfl, q0 (fun g => g.2.2.1 ⟨hhas, z3⟩)⟩, fun z3 => f59 hk (by rw [hhas]; decide) (fun y => z3 y.2)⟩
    · rw [hhas, if_neg (fun y => z2 y.2)] at y
      exact absurd y.1 (by decide)
  · rw [hhas, if_neg (fun y => w y.1)] at y
    exact absurd y.1 (by decide)
theorem lp_gather {d rc rs n : Nat} {h dd : Int32} {S : SS} {ρ : List Nat} {Q : XV → XH → Prop} (hd : 6 ≤ d) (hI : SInv S) (hO : OrI S) (hSt : StI S) (hU : RuI S) :
    ∀ (m r : Nat) (σ : XH), r + m = nRd S → CCt σ S ρ → RR σ (ruC ρ (ctX S h dd)) n (ctR S h dd) → (∀ s, s < 11 → hi σ 112 0 s = hrd S h dd s (nLe S)) → TY σ S h dd (ctL S h dd r) →
    (∀ σ', Fi (tl [9, 107, 108, 109, 110, 111]) σ σ' → TY σ' S h dd (CL S h dd) → Q vU σ') → Ex d rc rs m_X10_gather 24 [vR (some (11, 0)), vU, vU, vR (some (6, ruC ρ (ctX S h dd))), vI (nI r), vU, vU] [] σ Q := by
  have h90 := hI.l8
  have hRB := ctR_rb hI hU h dd
  have hLI := ctR_li hI hU h dd
  intro m
  induction m with
  | zero =>
    intro r σ hrm hC hRR hH hY hQ
    obtain ⟨⟨hX, hLL, hS, hCC, hR⟩, hCu, hCL, hCT⟩ := id hC
    refine sX10_gather_24 ⟨hX.k11_2, by omega, sp_size (by omega) hLL ?_⟩
    rw [(EL_len S ρ).2.2.1]
    refine ⟨fun y => ?_, fun _ => ?_⟩
    · have := (c_lt (by omega) (by omega)).mp y
      omega
    · have er : r = nRd S := by omega
      rw [er] at hY
      exact hQ σ (Fi.rf _ _) hY
  | succ m ih =>
    intro r σ hrm hC hRR hH hY hQ
    have hr : r < nRd S := by omega
    obtain ⟨hB, hCu, hCL, hCT⟩ := id hC
    obtain ⟨hX, hLL, hS, hCC, hR⟩ := id hB
    obtain ⟨g0, g1, g2, g3, g4, g5, g6, g7, g8, g9, g10⟩ := hR.2 r hr
    have hlen := ctL_len (S := S) (h := h) (d := dd) r
    have l2 := (EL_len S ρ).2.2.1
    have f121 : ∀ σ1, Fi (tl [9, 107, 108, 109, 110, 111]) σ σ1 → TY σ1 S h dd (ctL S h dd (r + 1)) → Ex d rc rs m_X10_gather 121 [vR (some (11, 0)), vU, vU, vR (some (6, ruC ρ (ctX S h dd))), vI (nI r), vU, vU] [] σ1 Q := fun σ1 k1 k2 => by
      refine sX10_gather_121 ?_
      unfold bX10_gather_121
      rw [nI_1]
      refine ih (r + 1) σ1 (by omega) (hC.fi hI k1 (by decide)) (hRR.cg ?_ ?_ ?_ ?_ ?_ ?_ ?_ ?_) (fun s hs => by rw [k1.i (s := 112) rfl]; exact hH s hs) k2 (fun σ' p1 p2 => hQ σ' (k1.trans p1) p2)
      · rw [k1.i (s := 6) rfl]
      · rw [k1.i (s := 103) rfl]
      · rw [k1.i (s := 104) rfl]
      · rw [k1.i (s := 105) rfl]
      · rw [k1.r]
      · rw [k1.n]
      · rw [k1.n]
      · rw [k1.n]
    have bad : ¬ goodP S h dd (ctL S h dd r) r → Ex d rc rs m_X10_gather 121 [vR (some (11, 0)), vU, vU, vR (some (6, ruC ρ (ctX S h dd))), vI (nI r), vU, vU] [] σ Q := fun z => by
      refine f121 σ (Fi.rf _ _) ?_
      have ec : ctL S h dd (r + 1) = ctL S h dd r := if_neg z
      rw [ec]
      exact hY
    refine sX10_gather_24 ⟨hX.k11_2, by omega, sp_size (by omega) hLL ?_⟩
    rw [l2]
    refine ⟨fun _ => ⟨hX.k11_2, by omega, ?_⟩, fun y => absurd ((c_lt (by omega) (by omega)).mpr hr) y⟩
    refine sp_get (z := (5, r)) (by omega) (by omega) hLL rfl (by simp [EL, hr]) (by rw [l2]; omega) ?_
    dsimp only [kR]
    refine cst_of rfl ⟨by omega, ?_⟩
    refine sp_X10_mayCount (by omega) hI hO hB hr hRR hRB hY (fun q hq => ctL_lt _ _ hq) (by omega) hH (fun hm => br_f (by decide) ?_) (fun hm => br_t rfl (bad (fun g => hm ⟨g.1, g.2.1, g.2.2.1, g.2.2.2.1, g.2.2.2.2.1, g.2.2.2.2.2.1⟩)))
    have hk := hm.2.1
    have x32 : hi σ 6 (ruC ρ (ctX S h dd)) 8 = (ctR S h dd).1 32 := hRR.2.1 32 (by decide)
    refine drf_of rfl (drf_of rfl ⟨by omega, ?_⟩)
    rw [x32]
    refine sp_X4_valueBy (by omega) hX hI hS hCC hR hr (fun _ => seO_sum hI hSt (vp_in_nI hr (by omega))) ?_
    have ev : asO S ((ctR S h dd).1 32) (nI r) = vlF S h dd r := rfl
    rw [ev]
    refine sX10_gather_71 ⟨fun z => bad (fun g => g.2.2.2.2.2.2.1 z), fun z => drf_of rfl ⟨by omega, ?_⟩⟩
    refine sp_X5_strikesOut (by omega) hRR.1 hLI.ok hI hS hCC hR hr hk ?_
    have hh := (hI.r hr).2.2.1
    have vh : vp_in (S 122 r) 6 := inP_c hh (by decide) (by decide)
    have eh : S 122 r = nI (S 122 r).toNatClampNeg := nI_of_nn (fun z => vh (Or.inl z))
    cases hst : struck (evF (fcF S r (vlF S h dd r))) (ctR S h dd).2 with
    | true => exact br_f (by decide) (bad (fun g => by
        have g8 := g.2.2.2.2.2.2.2
        rw [hst] at g8
        exact Bool.noConfusion g8))
    | false =>
      have hg : goodP S h dd (ctL S h dd r) r := ⟨hm.1, hm.2.1, hm.2.2.1, hm.2.2.2.1, hm.2.2.2.2.1, hm.2.2.2.2.2, z, hst⟩
      refine br_t rfl ⟨hX.k11_10, drf_of rfl (drf_of rfl ⟨by omega, ?_⟩)⟩
      rw [g3, eh]
      refine sp_X5_weightOf hRR (vp_lt vh) ?_
      have ew : (ctR S h dd).1 (100 + (S 122 r).toNatClampNeg) = wtF S h dd r := rfl
      rw [ew]
      dsimp only [kI]
      refine drf_of rfl ⟨by omega, sp_X4_origin hR hr ?_⟩
      dsimp only [kR]
      obtain ⟨o, o1, o4, eo, eoo⟩ := nu_at hI hr hk
      have e125 : hi σ 5 (oN S r) 7 = nI o := by
        rw [(hR.2 _ (oN_lt hI hr)).2.2.2.2.2.2.2.1]
        have e : S 125 (oN S r) = nI o := eo
        rw [e, if_neg (fun z => by
          have := congrArg Int32.toInt z
          rw [nI_toInt (by omega)] at this
          have e1 : (-1 : Int32).toInt = -1 := by decide
          omega)]
      refine drf_of rfl ?_
      rw [e125]
      refine ⟨by omega, sp_X10_tableOf (by omega) hX hCT o4 ⟨by omega, ?_⟩⟩
      refine sp_X8_add (by omega) hX hI hS hCC hR hr hk hY (by omega) (by rw [eoo]) (fun σ1 k1 k2 => f121 σ1 k1 ?_)
      have ec : ctL S h dd (r + 1) = ctL S h dd r ++ [r] := if_pos hg
      rw [ec]
      exact k2
theorem sp_X10_gather {d : Nat} {h dd : Int32} {S : SS} {ρ : List Nat} {σ : XH} {Q : XV → XH → Prop} (hd : 7 ≤ d) (hI : SInv S) (hO : OrI S) (hSt : StI S) (hU : RuI S) (hC : CCt σ S ρ) (hQ : ∀ σ', Fi (tl [9, 107, 108, 109, 110, 111, 112]) σ σ' → TY σ' S h dd (CL S h dd) → Q vU σ') : Ec d 0 0 m_X10_gather [vR (some (11, 0)), vI h, vI dd] σ Q := by
  obtain ⟨⟨hX, hLL, hS, hCC, hR⟩, hCu, hCL, hCT⟩ := id hC
  refine Ec_of mo_X10_gather.1 (Nat.le_of_ble_eq_true rfl) ?_
  refine sX10_gather_0 ⟨by omega, sp_X10_ruleIn (by omega) hX hLL hI hCu ⟨by omega, sp_X10_hear (by omega) hI hX hLL hCL (fun σ1 k1 k2 => ?_)⟩⟩
  dsimp only [kU]
  refine ⟨by rw [k1.r]; exact hX.k11_10, ?_⟩
  intro g e
  have f1 : Fi (tl [9, 112]) σ g := by
    rw [e]
    exact Fi.wI (k1.sub (tl_sub (by decide))) (by decide) _ _ _
  have hC1 := hC.fi hI f1 (by decide)
  obtain ⟨n, q1, q2, q3⟩ := hC1.2.1.cell hI.l25 (ruF_in S h dd (nRu S) (by have := hI.l25; omega))
  refine lp_gather (n := n) (by omega) hI hO hSt hU (nRd S) 0 g (by omega) hC1 q1 (fun s hs => ?_) ⟨by rw [e, hi_wI_eq]; rfl, fun k r hk => by cases hk⟩ (fun σ' p1 p2 => hQ σ' ((f1.sub (tl_sub (by decide))).trans (p1.sub (tl_sub (by decide)))) p2)
  rw [e, hi_wI_ne _ _ _ _ (by decide)]
  exact k2 s hs
theorem sp_X10_counted {d : Nat} {h dd w : Int32} {S : SS} {ρ : List Nat} {σ : XH} {Q : XV → XH → Prop} (hd : 8 ≤ d) (hI : SInv S) (hO : OrI S) (hSt : StI S) (hU : RuI S) (hC : CCt σ S ρ) (hQ : ∀ σ', Fi (tl [9, 107, 108, 109, 110, 111, 112]) σ σ' → Q (vI (countedG S h dd w)) σ') : Ec d 0 0 m_X10_counted [vR (some (11, 0)), vI h, vI dd, vI w] σ Q := by
  have hl := CL_len hI h dd
  have hX := hC.1.1
  unfold countedG at hQ
  refine Ec_of mo_X10_counted.1 (Nat.le_of_ble_eq_true rfl) ?_
  refine sX10_counted_0 ⟨by omega, sp_X10_isHouse (by omega) (fun c1 => br_f (by decide) ⟨fun c2 => sX10_counted_12 ?_, fun c2 => ⟨by omega, sp_X10_isDay (by omega) (fun c3 => br_f (by decide) ⟨by omega, sp_X10_gather (by omega) hI hO hSt hU hC (fun σ1 k1 k2 => ?_)⟩) (fun c3 => br_t rfl ?_)⟩⟩) (fun c1 => br_t rfl (sX10_counted_12 ?_))⟩
  · rw [if_pos (Or.inr c2)] at hQ
    exact hQ σ (Fi.rf _ _)
  · have hq := hQ σ1 k1
    rw [if_neg (fun z => z.elim (fun y => y c1) c2), if_neg (fun z => z c3)] at hq
    have hX1 : CFX σ1 := hX.fi k1 rfl rfl rfl
    dsimp only [kU]
    rw [k2.1]
    refine ⟨fun z => ⟨hX1.k11_10, ?_⟩, fun z => ⟨hX1.k11_10, fun z2 => ?_, fun z2 => sX10_counted_67 ?_⟩⟩
    · rw [if_pos z] at hq; exact hq
    · obtain ⟨k, hk, ek⟩ := w_at c2 z z2 (by omega)
      rw [if_neg z, if_pos z2] at hq
      rw [ek] at hq ⊢
      rw [nI_clamp (by omega)] at hq ⊢
      have x107 : hi σ1 107 0 k = nI ((CL S h dd).getD k 0) := (k2.2 k _ (getD_at hk)).1
      rw [x107]
      exact ⟨hX1.k11_10, hX1.k9_0, vp_at hX1.n107 (vp_in_nI (by omega) (by omega)), sX10_counted_67 hq⟩
    · rw [if_neg z, if_neg z2] at hq; exact hq
  · rw [if_neg (fun z => z.elim (fun y => y c1) c2), if_pos c3] at hQ
    exact hQ σ (Fi.rf _ _)
  · rw [if_pos (Or.inl c1)] at hQ
    exact hQ σ (Fi.rf _ _)
theorem sp_X10_gatheredAt {d : Nat} {h dd x : Int32} {S : SS} {ρ : List Nat} {σ : XH} {Q : XV → XH → Prop} (hd : 8 ≤ d) (hI : SInv S) (hO : OrI S) (hSt : StI S) (hU : RuI S) (hC : CCt σ S ρ) (q0 : ¬ inP h 0 2 ∨ ¬ inP dd 0 9999 → Q (vI (-1)) σ) (q1 : ¬ (¬ inP h 0 2 ∨ ¬ inP dd 0 9999) → ∀ σ', Fi (tl [9, 107, 108, 109, 110, 111, 112]) σ σ' → TY σ' S h dd (CL S h dd) → Q (vI (plL (CL S h dd) 0 x)) σ') : Ec d 0 0 m_X10_gatheredAt [vR (some (11, 0)), vI h, vI dd, vI x] σ Q := by
  have hl := CL_len hI h dd
  have hX := hC.1.1
  refine Ec_of mo_X10_gatheredAt.1 (Nat.le_of_ble_eq_true rfl) ?_
  refine sX10_gatheredAt_0 ⟨by omega, sp_X10_isHouse (by omega) (fun c1 => br_f (by decide) ⟨by omega, sp_X10_isDay (by omega) (fun c2 => br_f (by decide) ⟨by omega, sp_X10_gather (by omega) hI hO hSt hU hC (fun σ1 k1 k2 => ?_)⟩) (fun c2 => br_t rfl (sX10_gatheredAt_14 (q0 (Or.inr c2))))⟩) (fun c1 => br_t rfl (sX10_gatheredAt_14 (q0 (Or.inl c1))))⟩
  have hX1 : CFX σ1 := hX.fi k1 rfl rfl rfl
  exact ⟨hX1.k11_10, by omega, sp_X8_placeOf hX1 k2 hl (q1 (fun z => z.elim (fun y => y c1) (fun y => y c2)) σ1 k1 k2)⟩
theorem sp_X10_counts {d : Nat} {h dd x : Int32} {S : SS} {ρ : List Nat} {σ : XH} {Q : XV → XH → Prop} (hd : 9 ≤ d) (hI : SInv S) (hO : OrI S) (hSt : StI S) (hU : RuI S) (hC : CCt σ S ρ) (hQ : ∀ σ', Fi (tl [9, 107, 108, 109, 110, 111, 112]) σ σ' → Q (vI (countsG S h dd x)) σ') : Ec d 0 0 m_X10_counts [vR (some (11, 0)), vI h, vI dd, vI x] σ Q := by
  have hl := CL_len hI h dd
  have hX := hC.1.1
  unfold countsG at hQ
  refine Ec_of mo_X10_counts.1 (Nat.le_of_ble_eq_true rfl) ?_
  refine sX10_counts_0 ⟨by omega, sp_X10_gatheredAt (by omega) hI hO hSt hU hC (fun c => ?_) (fun c σ1 k1 k2 => ?_)⟩
  · rw [if_pos c] at hQ
    exact ⟨fun _ => sX10_counts_29 (hQ σ (Fi.rf _ _)), fun z => absurd (by decide) z⟩
  · have hq := hQ σ1 k1
    rw [if_neg c] at hq
    have hX1 : CFX σ1 := hX.fi k1 rfl rfl rfl
    refine ⟨fun z => sX10_counts_29 ?_, fun z => ⟨hX1.k11_10, hX1.k9_1, ?_⟩⟩
    · rw [if_pos z] at hq; exact hq
    · rw [if_neg z] at hq
      rcases plL_in (CL S h dd) 0 x with e | ⟨j, r, p1, p2, p3⟩
      · rw [e] at z
        exact absurd (by decide) z
      · rw [Nat.zero_add] at p3
        rw [p3] at hq ⊢
        have hj := (List.getElem?_eq_some_iff.mp p1).1
        rw [nI_clamp (by omega)] at hq
        have x108 : hi σ1 108 0 (nI j).toNatClampNeg = vlF S h dd ((CL S h dd).getD j 0) := by
          rw [nI_clamp (by omega)]
          exact (k2.2 j _ (getD_at hj)).2.1
        rw [x108]
        exact ⟨vp_at hX1.n108 (vp_in_nI (by omega) (by omega)), sX10_counts_29 hq⟩
