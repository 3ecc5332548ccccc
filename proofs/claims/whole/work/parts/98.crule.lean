/-! ===== the class: its rules; rule, ruleIn, ruled ===== -/
def CRu (σ : XH) (S : SS) (ρ : List Nat) : Prop := (hc σ 103 = hc σ 6 ∧ hc σ 104 = hc σ 6 ∧ hc σ 105 = hc σ 6) ∧ ρ.length = nRu S ∧ (0 < hc σ 6 ∧ hi σ 6 0 0 = -1 ∧ RR σ 0 0 rt0) ∧
  ∀ k t, ρ[k]? = some t → t < hc σ 6 ∧ hi σ 6 t 0 = nI k ∧ hi σ 6 t 1 = S 134 k ∧ hi σ 6 t 2 = S 135 k ∧ RR σ t (nTx S k) (ruR S (nI k))
theorem RR.cg {σ σ' : XH} {t n : Nat} {R : RT} (h : RR σ t n R) (i6 : hi σ' 6 t = hi σ 6 t) (i103 : hi σ' 103 t = hi σ 103 t) (i104 : hi σ' 104 t = hi σ 104 t) (i105 : hi σ' 105 t = hi σ 105 t) (r6 : hr σ' 6 t = hr σ 6 t) (n103 : hn σ' 103 t = hn σ 103 t) (n104 : hn σ' 104 t = hn σ 104 t) (n105 : hn σ' 105 t = hn σ 105 t) : RR σ' t n R := by
  obtain ⟨⟨r1, r2, n1, n2, r140, hL, e6, hk⟩, h2, h3, h4, h5⟩ := h
  exact ⟨⟨by rw [r6]; exact r1, by rw [r6]; exact r2, by rw [n104]; exact n1, by rw [n105]; exact n2, r140, hL, by rw [i6]; exact e6, fun k x hx => by rw [i104, i105]; exact hk k x hx⟩, fun j hj => by rw [i6]; exact h2 j hj, by rw [r6]; exact h3, by rw [n103]; exact h4, fun j hj => by rw [i103]; exact h5 j hj⟩
theorem ruR_cg {S S' : SS} {k : Nat} (hk : k < 1000) (h6 : ∀ j, tx S' k j = tx S k j) (h7 : S' 137 k = S 137 k) : nTx S' k = nTx S k ∧ ruR S' (nI k) = ruR S (nI k) := by
  have e1 : nTx S' k = nTx S k := by unfold nTx; rw [h7]
  have e2 : tx S' k = tx S k := funext h6
  refine ⟨e1, ?_⟩
  unfold ruR
  rw [if_neg (neg_nn hk), if_neg (neg_nn hk), nI_clamp (by omega), e1, e2]
theorem CRu.tr {σ σ' : XH} {S S' : SS} {ρ : List Nat} {T A K : Nat → Bool} (h : CRu σ S ρ) (hI : nRu S ≤ 12) (hF : Fr T σ σ') (hS : SA A K S S') (t : ∀ s, s ∈ [6, 103, 104, 105] → T s = false) (a : ∀ s, s ∈ [134, 135, 136, 137] → A s = false) (k : K 25 = false) : CRu σ' S' ρ := by
  obtain ⟨⟨h1, h2, h3⟩, h4, ⟨h5, h6, h7⟩, h8⟩ := h
  have f6 := hF 6 (t 6 (by decide))
  have f103 := hF 103 (t 103 (by decide))
  have f104 := hF 104 (t 104 (by decide))
  have f105 := hF 105 (t 105 (by decide))
  have cg : ∀ {i n : Nat} {R : RT}, RR σ i n R → RR σ' i n R := fun hr => hr.cg (by rw [f6.2.2.1]) (by rw [f103.2.2.1]) (by rw [f104.2.2.1]) (by rw [f105.2.2.1]) (by rw [f6.2.2.2.2]) (by rw [f103.2.1]) (by rw [f104.2.1]) (by rw [f105.2.1])
  have a136 := hS.a (s := 136) (by decide) (a 136 (by decide))
  have a137 := hS.a (s := 137) (by decide) (a 137 (by decide))
  have en : nRu S' = nRu S := by unfold nRu; rw [hS.k k]
  refine ⟨⟨by rw [f103.1, f6.1]; exact h1, by rw [f104.1, f6.1]; exact h2, by rw [f105.1, f6.1]; exact h3⟩, by rw [en]; exact h4, ⟨by rw [f6.1]; exact h5, by rw [f6.2.2.1]; exact h6, cg h7⟩, fun i u hu => ?_⟩
  obtain ⟨g1, g2, g3, g4, g5⟩ := h8 i u hu
  have hi12 : i < nRu S := by
    rw [← h4]
    exact (List.getElem?_eq_some_iff.mp hu).1
  obtain ⟨q1, q2⟩ := ruR_cg (S := S) (S' := S') (k := i) (by omega) (fun j => by unfold tx; rw [a136]) (by rw [a137])
  refine ⟨by rw [f6.1]; exact g1, by rw [f6.2.2.1]; exact g2, by rw [f6.2.2.1, hS.a (s := 134) (by decide) (a 134 (by decide))]; exact g3, by rw [f6.2.2.1, hS.a (s := 135) (by decide) (a 135 (by decide))]; exact g4, ?_⟩
  rw [q1, q2]
  exact cg g5
theorem EL_push (S : SS) (ρ : List Nat) (t : Nat) : (fun i => if i = 4 then EL S ρ 4 ++ [(6, t)] else EL S ρ i) = EL S (ρ ++ [t]) := by
  funext i
  match i with
  | 0 => rfl
  | 1 => rfl
  | 2 => rfl
  | 3 => rfl
  | 4 =>
    show (ρ.map fun i => ((6, i) : XO)) ++ [(6, t)] = (ρ ++ [t]).map fun i => ((6, i) : XO)
    rw [List.map_append]
    rfl
  | n + 5 => rfl
/-- what a rule that is taken does to the logical state -/
def ruS (S S' : SS) (h dd : Int32) : Prop := S' 12 25 = nI (nRu S + 1) ∧ (∀ j, S' 136 j = if 140 * nRu S ≤ j ∧ j < 140 * nRu S + nFd S then S 136 (1680 + (j - 140 * nRu S)) else S 136 j) ∧ (∀ j, j < 12 → S' 137 j = if j = nRu S then nI (nFd S) else S 137 j) ∧ (∀ j, S' 134 j = if j = nRu S then h else S 134 j) ∧ (∀ j, S' 135 j = if j = nRu S then dd else S 135 j)
theorem ruS.old {S S' : SS} {h dd : Int32} (hI : SInv S) (hs : ruS S S' h dd) (hU : ∀ k, k < nRu S → nTx S k ≤ 140) (hlt : nRu S < 12) {k : Nat} (hk : k < nRu S) : nTx S' k = nTx S k ∧ gA (tx S' k) (nTx S' k) = gA (tx S k) (nTx S k) ∧ S' 137 k = S 137 k ∧ S' 134 k = S 134 k ∧ S' 135 k = S 135 k ∧ ∀ j, j < nTx S k → tx S' k j = tx S k j := by
  obtain ⟨h1, h2, h3, h4, h5⟩ := hs
  have e137 : S' 137 k = S 137 k := by rw [h3 k (by omega), if_neg (by omega)]
  have en : nTx S' k = nTx S k := by unfold nTx; rw [e137]
  have et : ∀ j, j < nTx S k → tx S' k j = tx S k j := fun j hj => by
    have := hU k hk
    unfold tx
    rw [h2, if_neg (by omega)]
  refine ⟨en, ?_, e137, by rw [h4, if_neg (by omega)], by rw [h5, if_neg (by omega)], et⟩
  rw [en]
  exact (ag_same et).gA
theorem ruS.new {S S' : SS} {h dd : Int32} (hI : SInv S) (hs : ruS S S' h dd) (hlt : nRu S < 12) : nTx S' (nRu S) = nFd S ∧ S' 137 (nRu S) = nI (nFd S) ∧ gA (tx S' (nRu S)) (nTx S' (nRu S)) = gA (tx S 12) (nFd S) ∧ ∀ j, j < nFd S → tx S' (nRu S) j = tx S 12 j := by
  obtain ⟨h1, h2, h3, h4, h5⟩ := hs
  have l26 := hI.l26
  have e137 : S' 137 (nRu S) = nI (nFd S) := by rw [h3 _ hlt, if_pos rfl]
  have en : nTx S' (nRu S) = nFd S := by unfold nTx; rw [e137, nI_clamp (by omega)]
  have et : ∀ j, j < nFd S → tx S' (nRu S) j = tx S 12 j := fun j hj => by
    unfold tx
    rw [h2, if_pos (by omega)]
    have : 1680 + (140 * nRu S + j - 140 * nRu S) = 140 * 12 + j := by omega
    rw [this]
  refine ⟨en, e137, ?_, et⟩
  rw [en]
  exact (ag_same et).gA
/-- the class's rules, when one has come -/
theorem CRu.add {σ σ' : XH} {S S' : SS} {ρ : List Nat} {h dd : Int32} (hC : CRu σ S ρ) (hI : SInv S) (hU : ∀ k, k < nRu S → nTx S k ≤ 140) (hlt : nRu S < 12) (hs : ruS S S' h dd)
    (c6 : hc σ' 6 = hc σ 6 + 1) (c103 : hc σ' 103 = hc σ 6 + 1) (c104 : hc σ' 104 = hc σ 6 + 1) (c105 : hc σ' 105 = hc σ 6 + 1) (hF : ∀ s, s ∈ [6, 103, 104, 105] → ∀ i, i ≠ hc σ 6 → hi σ' s i = hi σ s i ∧ hr σ' s i = hr σ s i ∧ hn σ' s i = hn σ s i)
    (n0 : hi σ' 6 (hc σ 6) 0 = nI (nRu S)) (n1 : hi σ' 6 (hc σ 6) 1 = h) (n2 : hi σ' 6 (hc σ 6) 2 = dd) (nR : RR σ' (hc σ 6) (nFd S) (gA (tx S 12) (nFd S)).2.2) : CRu σ' S' (ρ ++ [hc σ 6]) := by
  obtain ⟨⟨h1, h2, h3⟩, h4, ⟨h5, h6, h7⟩, h8⟩ := hC
  have cg : ∀ {i n : Nat} {R : RT}, i ≠ hc σ 6 → RR σ i n R → RR σ' i n R := fun hne hr => hr.cg (hF 6 (by decide) _ hne).1 (hF 103 (by decide) _ hne).1 (hF 104 (by decide) _ hne).1 (hF 105 (by decide) _ hne).1 (hF 6 (by decide) _ hne).2.1 (hF 103 (by decide) _ hne).2.2 (hF 104 (by decide) _ hne).2.2 (hF 105 (by decide) _ hne).2.2
  have en : nRu S' = nRu S + 1 := by
    show (S' 12 25).toNatClampNeg = _
    rw [hs.1, nI_clamp (by omega)]
  refine ⟨⟨by rw [c103, c6], by rw [c104, c6], by rw [c105, c6]⟩, by rw [en, List.length_append, h4]; rfl, ⟨by omega, by rw [(hF 6 (by decide) 0 (by omega)).1]; exact h6, cg (by omega) h7⟩, fun k u hu => ?_⟩
  rcases Nat.lt_or_ge k ρ.length with q | q
  · rw [List.getElem?_append_left q] at hu
    obtain ⟨g1, g2, g3, g4, g5⟩ := h8 k u hu
    rw [h4] at q
    obtain ⟨o1, o2, o3, o4, o5, o6⟩ := hs.old hI hU hlt q
    have hne : u ≠ hc σ 6 := by omega
    refine ⟨by omega, by rw [(hF 6 (by decide) u hne).1]; exact g2, by rw [(hF 6 (by decide) u hne).1, o4]; exact g3, by rw [(hF 6 (by decide) u hne).1, o5]; exact g4, ?_⟩
    have e : ruR S' (nI k) = ruR S (nI k) := by
      unfold ruR
      rw [if_neg (neg_nn (by omega)), if_neg (neg_nn (by omega)), nI_clamp (by omega), o2]
    rw [o1, e]
    exact cg hne g5
  · rw [List.getElem?_append_right q] at hu
    have hk : k = ρ.length := by
      have := (List.getElem?_eq_some_iff.mp hu).1
      have e : ([hc σ 6] : List Nat).length = 1 := rfl
      omega
    rw [hk, Nat.sub_self] at hu
    have hu' : u = hc σ 6 := by
      have : some (hc σ 6) = some u := hu
      exact (Option.some.inj this).symm
    subst hu'
    rw [hk, h4]
    obtain ⟨o1, o2, o3, o4⟩ := hs.new hI hlt
    refine ⟨by omega, n0, by rw [hs.2.2.2.1, if_pos rfl]; exact n1, by rw [hs.2.2.2.2, if_pos rfl]; exact n2, ?_⟩
    have e : ruR S' (nI (nRu S)) = (gA (tx S 12) (nFd S)).2.2 := by
      unfold ruR
      rw [if_neg (neg_nn (by omega)), nI_clamp (by omega), o3]
    rw [o1, e]
    exact nR
theorem sp_X10_rule {d : Nat} {h dd : Int32} {S : SS} {ρ : List Nat} {σ : XH} {Q : XV → XH → Prop} (hd : 22 ≤ d) (hX : CFX σ) (hL : LL σ (EL S ρ)) (hI : SInv S) (hC : CRu σ S ρ) (hT : CTx σ S) (hB : TxI S) (hU : ∀ k, k < nRu S → nTx S k ≤ 140)
    (q1 : ¬ inP h 0 2 → Q (vI (-1)) σ) (q2 : inP h 0 2 → ¬ inP dd 0 9999 → Q (vI (-2)) σ) (q3 : inP h 0 2 → inP dd 0 9999 → nRu S = 12 → Q (vI (-4)) σ)
    (q4 : inP h 0 2 → inP dd 0 9999 → nRu S < 12 → (gA (tx S 12) (nFd S)).1 = false → ∀ σ', Fr (tl [7, 6, 103, 104, 105]) σ σ' → CFX σ' → hi σ' 7 0 1 = 0 → CRu σ' S ρ → Q (vI (-10 - nI (gA (tx S 12) (nFd S)).2.1)) σ')
    (q5 : inP h 0 2 → inP dd 0 9999 → nRu S < 12 → (gA (tx S 12) (nFd S)).1 = true → ∀ σ', Fr (tl [0, 410, 411, 7, 6, 103, 104, 105]) σ σ' → CFX σ' → hi σ' 7 0 1 = 0 → LL σ' (EL S (ρ ++ [hc σ 6])) → (∀ S', ruS S S' h dd → CRu σ' S' (ρ ++ [hc σ 6])) → Q (vI (nI (nRu S))) σ') : Ec d 5 499 m_X10_rule [vR (some (11, 0)), vI h, vI dd] σ Q := by
  have l25 := hI.l25
  have l26 := hI.l26
  obtain ⟨⟨h1, h2, h3⟩, h4, ⟨h5, h6, h7⟩, h8⟩ := id hC
  have elen : (EL S ρ 4).length = nRu S := by
    show (ρ.map _).length = _
    rw [List.length_map, h4]
  refine Ec_of mo_X10_rule.1 (Nat.le_of_ble_eq_true rfl) ?_
  refine sX10_rule_0 ?_
  unfold bX10_rule_0
  refine ⟨by omega, sp_X10_isHouse (by omega) (fun c1 => br_f (by decide) ⟨by omega, sp_X10_isDay (by omega) (fun c2 => br_f (by decide) ⟨hX.k11_4, by omega, sp_size (by omega) hL ?_⟩) (fun c2 => br_t rfl (q2 c1 c2))⟩) (fun c1 => br_t rfl (q1 c1))⟩
  rw [elen]
  refine ⟨fun z => ?_, fun z => q3 c1 c2 (by
    have := mt (c_lt (n := nRu S) (N := 12) (by omega) (by omega)).mpr z
    omega)⟩
  have hlt : nRu S < 12 := (c_lt (by omega) (by omega)).mp z
  refine ⟨by omega, by omega, ?_⟩
  intro g0 e0
  have fo : Fr (tl [6]) σ g0 := by rw [e0]; exact Fr.nwO (Fr.rf _ _) (by decide)
  have hX0 : CFX g0 := hX.fr fo (by decide)
  have hL0 : LL g0 (EL S ρ) := hL.fr fo rfl rfl rfl rfl
  refine ⟨hX0.k11_4, by omega, sp_size (by omega) hL0 ?_⟩
  rw [elen]
  have e71 : hi g0 7 0 1 = nI (nFd S) := by
    rw [fo.i (s := 7) rfl, hT.1]
    exact hI.n26
  dsimp only [kI]
  rw [e71]
  have co : ∀ s, hc g0 s = if s = 6 then hc σ 6 + 1 else hc σ s := fun s => by rw [e0, hc_nwO]
  refine ⟨hX0.k11_8, by omega, by omega, by omega, sp_X5_init (t := hc σ 6) (n := nFd S) (by omega) l26 (by rw [co, if_neg (by decide)]; exact h1) (by rw [co, if_neg (by decide)]; exact h2) (by rw [co, if_neg (by decide)]; exact h3) (fun g1 f1 t1 d6 d103 d104 d105 i0 i1 i2 r1 => ?_)⟩
  dsimp only [kU]
  have hX1 : CFX g1 := hX0.fr f1 (by decide)
  have hL1 : LL g1 (EL S ρ) := hL0.fr f1 rfl rfl rfl rfl
  have hP : PC (cadv g1 0) (nFd S) 0 (fun j => tx S 12 j &&& 255) := by
    refine ⟨hX1.fi (T := tl [7]) (Fi.wI (Fi.rf _ _) rfl _ _ _) rfl rfl rfl, ?_, ?_, l26, Nat.zero_le _, fun k hk => ?_⟩
    · show hi (wI g1 7 0 2 (nI 0)) 7 0 1 = _
      rw [hi_wI_at, if_neg (fun y => absurd y.2 (by decide)), f1.i (s := 7) rfl]
      exact e71
    · show hi (wI g1 7 0 2 (nI 0)) 7 0 2 = _
      rw [hi_wI_at, if_pos ⟨rfl, rfl⟩]
    · show hi (wI g1 7 0 2 (nI 0)) 200 0 k &&& 255 = _
      rw [hi_wI_ne _ _ _ _ (by decide), f1.i (s := 200) rfl, fo.i (s := 200) rfl, hT.2 k hk]
      show _ = S 136 (140 * 12 + k) &&& 255
      rfl
  have hag : gA (fun j => tx S 12 j &&& 255) (nFd S) = gA (tx S 12) (nFd S) := ((ag_bytes (ch := tx S 12) (n := nFd S) (fun k hk => by
    have := hB k hk
    exact this)).gA).symm
  refine sX10_rule_58 ⟨hX1.k11_8, by omega, ?_⟩
  have frest : ∀ {g2 : XH}, CF g1 g2 (hc σ 6) → ∀ {g3 : XH}, g3 = wI g2 7 0 1 0 → Fr (tl [7, 6, 103, 104, 105]) σ g3 ∧ CFX g3 ∧ hi g3 7 0 1 = 0 ∧ (∀ s, s ∈ [6, 103, 104, 105] → ∀ i, i ≠ hc σ 6 → hi g3 s i = hi σ s i ∧ hr g3 s i = hr σ s i ∧ hn g3 s i = hn σ s i) ∧ hc g3 6 = hc σ 6 + 1 ∧ hc g3 103 = hc σ 6 + 1 ∧ hc g3 104 = hc σ 6 + 1 ∧ hc g3 105 = hc σ 6 + 1 ∧ LL g3 (EL S ρ) ∧ (∀ j, j < 3 → hi g3 6 (hc σ 6) j = hi g1 6 (hc σ 6) j) := fun {g2} cf {g3} e3 => by
    have hX2 : CFX g2 := hX1.fi cf.1 rfl rfl rfl
    have fi3 : Fi (tl [7]) g2 g3 := by rw [e3]; exact Fi.wI (Fi.rf _ _) rfl _ _ _
    have hc3 : hc g3 = hc g1 := fi3.c.trans cf.1.c
    refine ⟨?_, hX2.fi fi3 rfl rfl rfl, by rw [e3, hi_wI_eq], fun s hs i hi_ => ?_, ?_, ?_, ?_, ?_, ?_, fun j hj => ?_⟩
    · exact (((fo.sub (tl_sub (by decide))).trans (f1.sub (tl_sub (by decide)))).trans (cf.1.fr.sub (tl_sub (by decide)))).trans (fi3.fr.sub (tl_sub (by decide)))
    · have hs7 : s ≠ 7 := by revert hs; revert s; decide
      obtain ⟨y1, y2, y3⟩ := t1 s i hi_
      refine ⟨?_, ?_, ?_⟩
      · rw [e3, hi_wI_ne _ _ _ _ hs7, cf.2.1 s i hs7 hi_, y1, e0]
        rfl
      · rw [e3]
        show hr g2 s i = _
        rw [cf.1.r, y2, e0]
        rfl
      · rw [e3]
        show hn g2 s i = _
        rw [cf.1.n, y3, e0]
        rfl
    · rw [hc3, d6, co, if_pos rfl]
    · rw [hc3, d103]
    · rw [hc3, d104]
    · rw [hc3, d105]
    · exact (hL1.fr cf.1.fr rfl rfl rfl rfl).fr fi3.fr rfl rfl rfl rfl
    · rw [e3, hi_wI_ne _ _ _ _ (show 6 ≠ 7 by decide), cf.2.2 j hj]
  refine sp_X6_understands (t := hc σ 6) (by omega) hP r1 (fun k g2 cf p2 r2 => ?_) (fun k g2 cf p2 => ?_)
  · rw [hag] at k r2
    dsimp only [kI]
    refine ⟨(hX1.fi cf.1 rfl rfl rfl).k11_8, ?_⟩
    intro g3 e3
    obtain ⟨w1, w2, w3, w4, w5, w6, w7, w8, w9, w10⟩ := frest cf e3
    refine br_f (by decide) ⟨w2.k11_4, by omega, by omega, by omega, ?_⟩
    refine sp_add (by omega) (by omega) (by show 6 < 13; omega) w9 (by rw [elen]; omega) (fun g4 hL4 f4 => ?_)
    rw [EL_push] at hL4
    dsimp only [kI]
    refine drf_of rfl ?_
    have i60 : hi g4 6 (hc σ 6) 0 = nI (nRu S) := by rw [f4.i (s := 6) rfl, w10 0 (by omega), i0]
    rw [i60]
    have f14 : Fr (tl [0, 410, 411, 7, 6, 103, 104, 105]) σ g4 := (w1.sub (tl_sub (by decide))).trans (f4.sub (tl_sub (by decide)))
    refine q5 c1 c2 hlt k g4 f14 (w2.fr f4 (by decide)) (by rw [f4.i (s := 7) rfl]; exact w3) hL4 (fun S' hs => ?_)
    have f46 := f4 6 rfl
    have f4a := f4 103 rfl
    have f4b := f4 104 rfl
    have f4c := f4 105 rfl
    refine hC.add hI hU hlt hs (by rw [f46.1]; exact w5) (by rw [f4a.1]; exact w6) (by rw [f4b.1]; exact w7) (by rw [f4c.1]; exact w8) (fun s hs i hi_ => ?_) i60 (by rw [f46.2.2.1, w10 1 (by omega)]; exact i1) (by rw [f46.2.2.1, w10 2 (by omega)]; exact i2) ?_
    · have hT4 : tl [0, 410, 411] s = false := by revert hs; revert s; decide
      have f4s := f4 s hT4
      obtain ⟨y1, y2, y3⟩ := w4 s hs i hi_
      exact ⟨by rw [f4s.2.2.1]; exact y1, by rw [f4s.2.2.2.2]; exact y2, by rw [f4s.2.1]; exact y3⟩
    · refine r2.cg ?_ ?_ ?_ ?_ ?_ ?_ ?_ ?_
      · rw [f46.2.2.1, e3, hi_wI_ne _ _ _ _ (show 6 ≠ 7 by decide)]
      · rw [f4a.2.2.1, e3, hi_wI_ne _ _ _ _ (show 103 ≠ 7 by decide)]
      · rw [f4b.2.2.1, e3, hi_wI_ne _ _ _ _ (show 104 ≠ 7 by decide)]
      · rw [f4c.2.2.1, e3, hi_wI_ne _ _ _ _ (show 105 ≠ 7 by decide)]
      · rw [f46.2.2.2.2, e3]; rfl
      · rw [f4a.2.1, e3]; rfl
      · rw [f4b.2.1, e3]; rfl
      · rw [f4c.2.1, e3]; rfl
  · rw [hag] at k p2
    dsimp only [kI]
    refine ⟨(hX1.fi cf.1 rfl rfl rfl).k11_8, ?_⟩
    intro g3 e3
    obtain ⟨w1, w2, w3, w4, w5, w6, w7, w8, w9, w10⟩ := frest cf e3
    refine br_t rfl ⟨w2.k11_8, ?_⟩
    have e72 : hi g3 7 0 2 = nI (gA (tx S 12) (nFd S)).2.1 := by
      rw [e3, hi_wI_k _ _ _ _ _ (by decide)]
      exact p2.2.2.1
    rw [e72]
    refine q4 c1 c2 hlt k g3 w1 w2 w3 ?_
    have cg : ∀ {i n : Nat} {R : RT}, i ≠ hc σ 6 → RR σ i n R → RR g3 i n R := fun hne hr => hr.cg (w4 6 (by decide) _ hne).1 (w4 103 (by decide) _ hne).1 (w4 104 (by decide) _ hne).1 (w4 105 (by decide) _ hne).1 (w4 6 (by decide) _ hne).2.1 (w4 103 (by decide) _ hne).2.2 (w4 104 (by decide) _ hne).2.2 (w4 105 (by decide) _ hne).2.2
    refine ⟨⟨by rw [w6, w5], by rw [w7, w5], by rw [w8, w5]⟩, h4, ⟨by omega, by rw [(w4 6 (by decide) 0 (by omega)).1]; exact h6, cg (by omega) h7⟩, fun i u hu => ?_⟩
    obtain ⟨y1, y2, y3, y4, y5⟩ := h8 i u hu
    have hne : u ≠ hc σ 6 := by omega
    exact ⟨by omega, by rw [(w4 6 (by decide) u hne).1]; exact y2, by rw [(w4 6 (by decide) u hne).1]; exact y3, by rw [(w4 6 (by decide) u hne).1]; exact y4, cg hne y5⟩
