/-! ===== keeping by stars ===== -/
def CSs (σ : XH) (S : SS) : Prop := hc σ 8 = nSt S ∧ hc σ 106 = nSt S ∧ ∀ s, s < nSt S → hi σ 8 s 0 = nI s ∧ hi σ 8 s 1 = (if S 116 s = 99999 then 0 else 1) ∧ hi σ 8 s 2 = S 117 s / 100 ∧ hr σ 8 s 3 = some (106, s) ∧ hn σ 106 s = 5 ∧ hi σ 106 s 0 = 0 ∧ ∀ n, 1 ≤ n → n ≤ 4 → hi σ 106 s n = S 146 (4 * s + n - 1)
def CCs (σ : XH) (S : SS) : Prop := hc σ 2 = nCl S ∧ hc σ 101 = nCl S ∧ hc σ 102 = nCl S ∧ ∀ c, c < nCl S → hi σ 2 c 0 = nI c ∧ hr σ 2 c 1 = some (8, (S 118 c).toNatClampNeg) ∧ hr σ 2 c 2 = some (101, c) ∧ hr σ 2 c 3 = some (102, c) ∧ hn σ 101 c = 90 ∧ hn σ 102 c = 90 ∧ hi σ 2 c 5 = (if S 119 c < 0 then NOi else S 119 c)
theorem CSt.s {σ : XH} {S : SS} (h : CSt σ S) : CSs σ S := ⟨h.1, h.2.1, fun s hs => by
  obtain ⟨g1, g2, g3, g4, g5⟩ := h.2.2 s hs
  exact ⟨g1, g2, g3, g5⟩⟩
theorem CSs.t {σ : XH} {S : SS} (h : CSs σ S) (hl : ∀ s, s < nSt S → hi σ 8 s 4 = lonF S (nI s)) : CSt σ S := ⟨h.1, h.2.1, fun s hs => by
  obtain ⟨g1, g2, g3, g5⟩ := h.2.2 s hs
  exact ⟨g1, g2, g3, hl s hs, g5⟩⟩
theorem CCl.s {σ : XH} {S : SS} (h : CCl σ S) : CCs σ S := ⟨h.1, h.2.1, h.2.2.1, fun c hc => by
  obtain ⟨g1, g2, g3, g4, g5, g6, g7, g8⟩ := h.2.2.2 c hc
  exact ⟨g1, g2, g3, g4, g5, g6, g7⟩⟩
theorem CCs.t {σ : XH} {S : SS} (h : CCs σ S) (hl : ∀ c, c < nCl S → StR σ S c (nRd S)) : CCl σ S := ⟨h.1, h.2.1, h.2.2.1, fun c hc => by
  obtain ⟨g1, g2, g3, g4, g5, g6, g7⟩ := h.2.2.2 c hc
  exact ⟨g1, g2, g3, g4, g5, g6, g7, hl c hc⟩⟩
theorem StK.r {σ : XH} {S : SS} {c : Nat} (h : StK σ S c (nRd S)) : StR σ S c (nRd S) := by
  obtain ⟨n, h1, h2, h3, h4, h5, h6⟩ := h
  exact ⟨n, h2, h3, h4, h5, h6⟩
theorem sp_hasStopped {d c : Nat} {S : SS} {σ : XH} {Q : XV → XH → Prop} (g6 : hi σ 2 c 5 = (if S 119 c < 0 then NOi else S 119 c)) (hv : inP (S 119 c) (-1) 999999) (h1 : ¬ S 119 c < 0 → Q (vI 1) σ) (h0 : S 119 c < 0 → Q (vI 0) σ) : Ec d 0 0 m_X1_hasStopped [vR (some (2, c))] σ Q := by
  refine Ec_of mo_X1_hasStopped.1 (Nat.le_of_ble_eq_true rfl) ?_
  refine sX1_hasStopped_0 ?_
  unfold bX1_hasStopped_0
  rw [g6]
  rw [inP_iff] at hv
  by_cases q : S 119 c < 0
  · rw [if_pos q]
    refine br_t rfl ?_
    refine sX1_hasStopped_14 ?_
    exact ⟨Or.inl rfl, h0 q⟩
  · rw [if_neg q]
    refine br_f (fun z => ?_) ?_
    · rw [z] at q
      exact q (by decide)
    · refine sX1_hasStopped_14 ?_
      exact ⟨Or.inr rfl, h1 q⟩
theorem sp_isGoing {d c : Nat} {x : Int32} {S : SS} {σ : XH} {Q : XV → XH → Prop} (hd : 1 ≤ d) (g6 : hi σ 2 c 5 = (if S 119 c < 0 then NOi else S 119 c)) (hv : inP (S 119 c) (-1) 999999) (h1 : (S 119 c < 0 ∨ ¬ S 119 c < x) → Q (vI 1) σ) (h0 : ¬ (S 119 c < 0 ∨ ¬ S 119 c < x) → Q (vI 0) σ) : Ec d 0 0 m_X1_isGoingAt [vR (some (2, c)), vI x] σ Q := by
  have yes : (S 119 c < 0 ∨ ¬ S 119 c < x) → Ex d 0 0 m_X1_isGoingAt 15 [vU, vU] [] σ Q := fun z => by
    refine sX1_isGoingAt_15 ?_
    refine sX1_isGoingAt_20 ?_
    exact ⟨Or.inr rfl, h1 z⟩
  refine Ec_of mo_X1_isGoingAt.1 (Nat.le_of_ble_eq_true rfl) ?_
  refine sX1_isGoingAt_0 ?_
  unfold bX1_isGoingAt_0
  refine ⟨by omega, ?_⟩
  refine sp_hasStopped g6 hv (fun q => ?_) (fun q => ?_)
  · refine br_f (by decide) ?_
    rw [g6, if_neg q]
    refine ⟨fun q2 => ?_, fun q2 => yes (Or.inr q2)⟩
    refine sX1_isGoingAt_20 ?_
    exact ⟨Or.inl rfl, h0 (fun z => z.elim q (fun z => z q2))⟩
  · exact br_t rfl (yes (Or.inl q))
theorem lonA_n (S : SS) (s : Int32) : ∀ r : Nat, ∃ m, m ≤ r ∧ (lonA S s r).2 = nI m
  | 0 => ⟨0, Nat.le_refl _, nI_0.symm⟩
  | r + 1 => by
    obtain ⟨m, h1, h2⟩ := lonA_n S s r
    unfold lonA
    split
    · exact ⟨m + 1, by omega, by rw [← nI_1, ← h2]⟩
    · exact ⟨m, by omega, h2⟩
theorem kN_is {S : SS} {r : Nat} {k : Int32} (hk : ¬ k = 7) : kN S r = k ↔ (S 120 r = k ∧ ¬ 0 < S 129 r) := by
  unfold kN
  by_cases c : 0 < S 129 r
  · rw [if_pos c]
    exact ⟨fun z => absurd z.symm hk, fun z => absurd c z.2⟩
  · rw [if_neg c]
    exact ⟨fun z => ⟨z, c⟩, fun z => z.1⟩
theorem lp_lonM {d rc rs s : Nat} {S : SS} {ρ : List Nat} {σ : XH} {Q : XV → XH → Prop} (hd : 3 ≤ d) (hX : CFX σ) (hL : LL σ (EL S ρ)) (hI : SInv S) (hS : CSs σ S) (hC : CCl σ S) (hR : CRd σ S) (hs : s < nSt S) (h : Q (vI (if (lonA S (nI s) (nRd S)).2 = 0 then NOi else (dwn (lonA S (nI s) (nRd S)).1 (lonA S (nI s) (nRd S)).2.toInt64).toInt32)) σ) : ∀ (m r : Nat) (a : Int64) (k : Int32), r + m = nRd S → a = (lonA S (nI s) r).1 → k = (lonA S (nI s) r).2 → Ex d rc rs m_X10_longitudeByMoons 8 [vR (some (11, 0)), vR (some (8, s)), vL a, vU, vI k, vI (nI r), vU, vU] [] σ Q := by
  have h90 := hI.l8
  have h11 := hI.l1
  have l2 := (EL_len S ρ).2.2.1
  intro m
  induction m with
  | zero =>
    intro r a k hr_ ha hk
    have e : r = nRd S := by omega
    rw [e] at ha hk ⊢
    refine sX10_longitudeByMoons_8 ?_
    unfold bX10_longitudeByMoons_8
    refine ⟨hX.k11_2, by omega, sp_size (by omega) hL ?_⟩
    rw [l2]
    refine br_f (nI_nlt (Nat.le_refl _) (by omega)) ⟨fun z => ?_, fun z => ⟨by omega, ?_⟩⟩
    · rw [← hk, if_pos z] at h
      refine sX10_longitudeByMoons_122 ?_
      exact h
    · rw [← hk, if_neg z, ← ha] at h
      obtain ⟨q, q1, q2⟩ := lonA_n S (nI s) (nRd S)
      rw [← hk] at q2
      have hq : 0 < (k.toInt64).toInt := by
        rw [Int32.toInt_toInt64, q2, nI_toInt (by omega)]
        have : q ≠ 0 := fun y => z (by rw [q2, y]; decide)
        omega
      refine sp_floorDivL ?_ ?_
      · rw [fa_eq64]
        have e0 : (0 : Int64).toInt = 0 := by decide
        omega
      · refine sX10_longitudeByMoons_122 ?_
        rw [fdL_dwn hq]
        exact h
  | succ m ih =>
    intro r a k hr_ ha hk
    have hlr : r < nRd S := by omega
    obtain ⟨g0, g1, g2, g3, g4, g5, g6, -⟩ := hR.2 r hlr
    obtain ⟨j1, j2, j3, j4, -⟩ := hI.r hlr
    have hc := vp_lt j2
    obtain ⟨c0, c1, -⟩ := hC.2.2.2 _ hc
    have vs := (hI.c hc).1
    have s0 := (hS.2.2 _ (vp_lt vs)).1
    have s1 := (hS.2.2 _ hs).1
    have g : ∀ q, gS S q (nI r) = S q r := fun q => gS_nI S q (by omega)
    have ec : nI (S 121 r).toNatClampNeg = S 121 r := (nI_of_nn (vp_nn j2)).symm
    have es : nI (S 118 (S 121 r).toNatClampNeg).toNatClampNeg = S 118 (S 121 r).toNatClampNeg := (nI_of_nn (vp_nn vs)).symm
    have nxt : ∀ (a2 : Int64) (k2 : Int32), (a2, k2) = lonA S (nI s) (r + 1) → Ex d rc rs m_X10_longitudeByMoons 98 [vR (some (11, 0)), vR (some (8, s)), vL a2, vU, vI k2, vI (nI r), vU, vU] [] σ Q := fun a2 k2 e => by
      refine sX10_longitudeByMoons_98 ?_
      unfold bX10_longitudeByMoons_98
      rw [nI_1]
      exact ih (r + 1) a2 k2 (by omega) (by rw [← e]) (by rw [← e])
    have no : ¬ (S 120 r = 2 ∧ ¬ 0 < S 129 r ∧ S 118 (S 121 r).toNatClampNeg = nI s ∧ ¬ tmF S (S 121 r) (S 123 r) = NOi) → Ex d rc rs m_X10_longitudeByMoons 98 [vR (some (11, 0)), vR (some (8, s)), vL a, vU, vI k, vI (nI r), vU, vU] [] σ Q := fun z => nxt a k (by
      unfold lonA
      simp only [g]
      rw [if_neg z, ha, hk])
    refine sX10_longitudeByMoons_8 ?_
    unfold bX10_longitudeByMoons_8
    refine ⟨hX.k11_2, by omega, sp_size (by omega) hL ?_⟩
    rw [l2]
    refine br_t (nI_lt (by omega) (by omega)) ⟨hX.k11_2, by omega, ?_⟩
    refine sp_get (z := (5, r)) (by omega) (by omega) hL rfl (by simp [EL, hlr]) (by rw [l2]; omega) ?_
    dsimp only [kR]
    refine cst_of rfl (drf_of rfl ⟨by omega, ?_⟩)
    refine sp_X4_kindNow (by omega) hR hlr ?_
    refine ⟨fun k2 => ?_, fun k2 => no (fun z => k2 ((kN_is (by decide)).mpr ⟨z.1, z.2.1⟩))⟩
    have k2' := (kN_is (by decide)).mp k2
    refine drf_of rfl (drf_of g2 (drf_of c1 (drf_of rfl ?_)))
    rw [s0, s1, es]
    refine ⟨fun e3 => drf_of rfl (drf_of rfl (drf_of g2 ⟨by omega, ?_⟩)), fun e3 => no (fun z => e3 z.2.2.1)⟩
    rw [g4]
    refine sp_X1_trueTime (by omega) hI hC hc j4 ?_
    rw [ec]
    refine sX10_longitudeByMoons_76 ?_
    refine ⟨fun e4 => no (fun z => z.2.2.2 e4), fun e4 => drf_of rfl (nxt _ _ ?_)⟩
    unfold lonA
    simp only [g]
    rw [if_pos ⟨k2'.1, k2'.2, e3, e4⟩, ← ha, ← hk, g6, if_neg (fun z => by rw [k2'.1] at z; exact absurd z (by decide))]
theorem lp_keep {d rc rs c : Nat} {S : SS} {ρ : List Nat} {σ : XH} {Q : XV → XH → Prop} (hd : 4 ≤ d) (hX : CFX σ) (hL : LL σ (EL S ρ)) (hI : SInv S) (hS : CSs σ S) (hC : CCs σ S) (hR : CRd σ S) (hc : c < nCl S)
    (hst : ∀ c', c' < nCl S → c' ≠ c → StR σ S c' (nRd S)) (hlon : ∀ s, s < nSt S → s ≠ (S 118 c).toNatClampNeg → hi σ 8 s 4 = lonF S (nI s)) (htold : ¬ S 116 (S 118 c).toNatClampNeg = 99999 → hi σ 8 (S 118 c).toNatClampNeg 4 = lonF S (S 118 c))
    (h : ∀ σ', Fi (tl [2, 101, 102, 8]) σ σ' → CSt σ' S → CCl σ' S → Q vU σ') : ∀ (m k : Nat) (σ1 : XH), k + m = nRd S → F1 c σ σ1 → StK σ1 S c k → Ex d rc rs m_X10_keepByStars 7 [vR (some (11, 0)), vR (some (2, c)), vI (nI k), vU] [] σ1 Q := by
  have h90 := hI.l8
  have h11 := hI.l1
  have h12 := hI.l2
  have l2 := (EL_len S ρ).2.2.1
  have vsc := (hI.c hc).1
  have hsc := vp_lt vsc
  have esc : nI (S 118 c).toNatClampNeg = S 118 c := (nI_of_nn (vp_nn vsc)).symm
  intro m
  induction m with
  | zero =>
    intro k σ1 hk hF hK
    have e : k = nRd S := by omega
    rw [e] at hK ⊢
    have hX1 : CFX σ1 := hX.fi hF.1 rfl rfl rfl
    have hL1 : LL σ1 (EL S ρ) := hL.fr hF.1.fr rfl rfl rfl rfl
    have e8 : hi σ1 8 = hi σ 8 := hF.1.i rfl
    have e106 : hi σ1 106 = hi σ 106 := hF.1.i rfl
    have hS1 : CSs σ1 S := by
      obtain ⟨q1, q2, q3⟩ := hS
      refine ⟨by rw [hF.1.c]; exact q1, by rw [hF.1.c]; exact q2, fun s hs => ?_⟩
      rw [e8, e106, hF.1.r, hF.1.n]
      exact q3 s hs
    have hC1 : CCl σ1 S := by
      refine CCs.t ⟨by rw [hF.1.c]; exact hC.1, by rw [hF.1.c]; exact hC.2.1, by rw [hF.1.c]; exact hC.2.2.1, fun c' hc' => ?_⟩ (fun c' hc' => ?_)
      · obtain ⟨g0, g1, g2, g3, g4, g5, g6⟩ := hC.2.2.2 c' hc'
        have e0 : hi σ1 2 c' 0 = hi σ 2 c' 0 ∧ hi σ1 2 c' 5 = hi σ 2 c' 5 := by
          by_cases e : c' = c
          · rw [e]
            exact ⟨hF.2.2 0 (by decide), hF.2.2 5 (by decide)⟩
          · rw [(hF.2.1 c' e).1]
            exact ⟨rfl, rfl⟩
        exact ⟨by rw [e0.1]; exact g0, by rw [hF.1.r]; exact g1, by rw [hF.1.r]; exact g2, by rw [hF.1.r]; exact g3, by rw [hF.1.n]; exact g4, by rw [hF.1.n]; exact g5, by rw [e0.2]; exact g6⟩
      · by_cases e : c' = c
        · rw [e]
          exact hK.r
        · obtain ⟨o1, o2, o3⟩ := hF.2.1 c' e
          exact (hst c' hc' e).tr (by rw [o1]) o2 o3 (fun _ _ => Iff.rfl) (fun _ _ => rfl) (fun _ _ => rfl)
    have hR1 : CRd σ1 S := hR.tr hF.1.fr (SA.rf (fun _ => false) (fun _ => false) S) (by decide) (by decide) (by decide)
    obtain ⟨c0, c1, -⟩ := hC1.2.2.2 c hc
    obtain ⟨t0, t1, -⟩ := hS1.2.2 _ hsc
    have lon1 : ∀ s, s < nSt S → s ≠ (S 118 c).toNatClampNeg → hi σ1 8 s 4 = lonF S (nI s) := fun s hs hne => by
      rw [e8]
      exact hlon s hs hne
    refine sX10_keepByStars_7 ?_
    unfold bX10_keepByStars_7
    refine ⟨hX1.k11_2, by omega, sp_size (by omega) hL1 ?_⟩
    rw [l2]
    refine br_f (nI_nlt (Nat.le_refl _) (by omega)) (drf_of rfl (drf_of c1 ?_))
    rw [t1]
    refine ⟨fun z => ?_, fun z => ?_⟩
    · have t : S 116 (S 118 c).toNatClampNeg = 99999 := Classical.byContradiction fun q => by
        rw [if_neg q] at z
        exact absurd z (by decide)
      refine drf_of rfl (drf_of rfl ⟨by omega, ?_⟩)
      rw [c1]
      refine Ec_of mo_X10_longitudeByMoons.1 (Nat.le_of_ble_eq_true rfl) ?_
      refine sX10_longitudeByMoons_0 ?_
      unfold bX10_longitudeByMoons_0
      rw [← nI_0]
      refine lp_lonM (d := d - 1) (rc := 0) (rs := 0) (s := (S 118 c).toNatClampNeg) (by omega) hX1 hL1 hI hS1 hC1 hR1 hsc ?_ (nRd S) 0 _ _ (by omega) rfl nI_0
      dsimp only [kI]
      refine drf_of rfl ?_
      intro g1 e1
      subst e1
      refine sX10_keepByStars_106 ?_
      have hF2 : Fi (tl [8]) σ1 (wI σ1 8 (S 118 c).toNatClampNeg 4 (if (lonA S (nI (S 118 c).toNatClampNeg) (nRd S)).2 = 0 then NOi else (dwn (lonA S (nI (S 118 c).toNatClampNeg) (nRd S)).1 (lonA S (nI (S 118 c).toNatClampNeg) (nRd S)).2.toInt64).toInt32)) := Fi.wI (Fi.rf _ _) (by decide) _ _ _
      refine h _ ((hF.1.sub (tl_sub (by decide))).trans (hF2.sub (tl_sub (by decide)))) ?_ (hC1.tr hF2.fr (SA.rf (fun _ => false) (fun _ => false) S) (by decide) (by decide) (by decide))
      refine CSs.t ⟨hS1.1, hS1.2.1, fun s hs => ?_⟩ (fun s hs => ?_)
      · obtain ⟨p1, p2, p3, p4⟩ := hS1.2.2 s hs
        refine ⟨by rw [hi_wI_k _ _ _ _ _ (by decide)]; exact p1, by rw [hi_wI_k _ _ _ _ _ (by decide)]; exact p2, by rw [hi_wI_k _ _ _ _ _ (by decide)]; exact p3, ?_⟩
        rw [hi_wI_ne _ _ _ _ (show 106 ≠ 8 by decide)]
        exact p4
      · rw [hi_wI_at]
        by_cases e : s = (S 118 c).toNatClampNeg
        · rw [if_pos ⟨e, rfl⟩, e]
          unfold lonF
          rw [gS_nI S 116 (by omega), if_pos t]
        · rw [if_neg (fun y => e y.1)]
          exact lon1 s hs e
    · have t : ¬ S 116 (S 118 c).toNatClampNeg = 99999 := fun q => by
        rw [if_pos q] at z
        exact z rfl
      refine sX10_keepByStars_106 ?_
      refine h _ (hF.1.sub (tl_sub (by decide))) (hS1.t (fun s hs => ?_)) hC1
      by_cases e : s = (S 118 c).toNatClampNeg
      · rw [e, e8, esc]
        exact htold t
      · exact lon1 s hs e
  | succ m ih =>
    intro k σ1 hk hF hK
    have hlk : k < nRd S := by omega
    have hX1 : CFX σ1 := hX.fi hF.1 rfl rfl rfl
    have hL1 : LL σ1 (EL S ρ) := hL.fr hF.1.fr rfl rfl rfl rfl
    have hR1 : CRd σ1 S := hR.tr hF.1.fr (SA.rf (fun _ => false) (fun _ => false) S) (by decide) (by decide) (by decide)
    obtain ⟨g0, g1, g2, g3, g4, g5, g6, -⟩ := hR1.2 k hlk
    obtain ⟨j1, j2, j3, j4, -, -, -, -, -, -, -, -, j13⟩ := hI.r hlk
    have hcr := vp_lt j2
    have num : ∀ c', c' < nCl S → hi σ1 2 c' 0 = nI c' := fun c' hc' => by
      by_cases e : c' = c
      · rw [e, hF.2.2 0 (by decide)]
        exact (hC.2.2.2 c hc).1
      · rw [(hF.2.1 c' e).1]
        exact (hC.2.2.2 c' hc').1
    have q6 : hi σ1 2 c 5 = (if S 119 c < 0 then NOi else S 119 c) := by
      rw [hF.2.2 5 (by decide)]
      exact (hC.2.2.2 c hc).2.2.2.2.2.2
    have ec : nI (S 121 k).toNatClampNeg = S 121 k := (nI_of_nn (vp_nn j2)).symm
    have g : ∀ q, gS S q (nI k) = S q k := fun q => gS_nI S q (by omega)
    have gc : gS S 119 (nI c) = S 119 c := gS_nI S 119 (by omega)
    have nxt : ∀ σ2, F1 c σ1 σ2 → StK σ2 S c (k + 1) → Ex d rc rs m_X10_keepByStars 75 [vR (some (11, 0)), vR (some (2, c)), vI (nI k), vU] [] σ2 Q := fun σ2 f2 k2 => by
      refine sX10_keepByStars_75 ?_
      unfold bX10_keepByStars_75
      rw [nI_1]
      exact ih (k + 1) σ2 (by omega) (hF.trans f2) k2
    have no : ¬ isStar S (nI k) (nI c) → Ex d rc rs m_X10_keepByStars 75 [vR (some (11, 0)), vR (some (2, c)), vI (nI k), vU] [] σ1 Q := fun z => nxt σ1 (F1.rf _ _) (by
      obtain ⟨n, n1, n2, n3⟩ := hK
      exact ⟨n, by omega, n2, n3.skip z⟩)
    have st : isStar S (nI k) (nI c) ↔ (S 120 k = 1 ∧ S 129 k = 0 ∧ S 121 k = nI c ∧ (S 119 c < 0 ∨ ¬ S 119 c < S 123 k)) := by
      unfold isStar
      rw [g, g, g, g, gc]
    refine sX10_keepByStars_7 ?_
    unfold bX10_keepByStars_7
    refine ⟨hX1.k11_2, by omega, sp_size (by omega) hL1 ?_⟩
    rw [l2]
    refine br_t (nI_lt (by omega) (by omega)) ⟨hX1.k11_2, by omega, ?_⟩
    refine sp_get (z := (5, k)) (by omega) (by omega) hL1 rfl (by simp [EL, hlk]) (by rw [l2]; omega) ?_
    dsimp only [kR]
    refine cst_of rfl (drf_of rfl ⟨by omega, ?_⟩)
    refine sp_X4_kindNow (by omega) hR1 hlk ?_
    refine ⟨fun k1 => ?_, fun k1 => no (fun z => k1 ((kN_is (by decide)).mpr ⟨(st.mp z).1, fun y => by rw [(st.mp z).2.1] at y; exact absurd y (by decide)⟩))⟩
    have k1' := (kN_is (by decide)).mp k1
    have g0' : S 129 k = 0 := by
      have e0 : (0 : Int32).toInt = 0 := by decide
      have y := k1'.2
      rw [fa_lt] at y j13
      rw [fa_eq]
      omega
    refine drf_of rfl (drf_of g2 (drf_of rfl ?_))
    rw [num _ hcr, num c hc, ec]
    refine ⟨fun e3 => drf_of rfl (drf_of rfl ⟨by omega, ?_⟩), fun e3 => no (fun z => e3 (st.mp z).2.2.1)⟩
    rw [g4]
    refine sp_isGoing (by omega) q6 (hI.c hc).2 (fun go => br_f (by decide) ?_) (fun go => br_t rfl (no (fun z => go (st.mp z).2.2.2)))
    have isS := st.mpr ⟨k1'.1, g0', e3, go⟩
    refine sX10_keepByStars_63 ?_
    unfold bX10_keepByStars_63
    refine drf_of rfl (drf_of rfl (drf_of rfl ⟨by omega, ?_⟩))
    rw [g4, g6, if_neg (fun z => by rw [k1'.1] at z; exact absurd z (by decide))]
    obtain ⟨-, -, b2, b3, b4, b5, -⟩ := hC.2.2.2 c hc
    refine sp_X1_addStar (by omega) (by rw [hF.1.r]; exact b2) (by rw [hF.1.r]; exact b3) (by rw [hF.1.n]; exact b4) (by rw [hF.1.n]; exact b5) (by omega) hK isS rfl rfl ?_
    intro σ2 f2 k2
    exact nxt σ2 f2 k2
theorem sp_keep {d c : Nat} {S : SS} {ρ : List Nat} {σ : XH} {Q : XV → XH → Prop} (hd : 4 ≤ d) (hX : CFX σ) (hL : LL σ (EL S ρ)) (hI : SInv S) (hS : CSs σ S) (hC : CCs σ S) (hR : CRd σ S) (hc : c < nCl S)
    (hst : ∀ c', c' < nCl S → c' ≠ c → StR σ S c' (nRd S)) (hlon : ∀ s, s < nSt S → s ≠ (S 118 c).toNatClampNeg → hi σ 8 s 4 = lonF S (nI s)) (htold : ¬ S 116 (S 118 c).toNatClampNeg = 99999 → hi σ 8 (S 118 c).toNatClampNeg 4 = lonF S (S 118 c))
    (h : ∀ σ', Fi (tl [2, 101, 102, 8]) σ σ' → CSt σ' S → CCl σ' S → Q vU σ') : Ec d 0 0 m_X10_keepByStars [vR (some (11, 0)), vR (some (2, c))] σ Q := by
  refine Ec_of mo_X10_keepByStars.1 (Nat.le_of_ble_eq_true rfl) ?_
  refine sX10_keepByStars_0 ?_
  refine drf_of rfl ?_
  intro g1 e1
  subst e1
  have g := lp_keep (d := d) (rc := 0) (rs := 0) hd hX hL hI hS hC hR hc hst hlon htold h (nRd S) 0 (wI σ 2 c 4 0) (by omega) (F1.w2 c σ 0) ⟨0, Nat.le_refl _, by rw [hi_wI_eq, nI_0], by omega, fun i j _ hj => by omega, fun i hi_ => by omega, fun r hr_ => by omega⟩
  rw [nI_0] at g
  exact g
