/-! ===== what the reference asks of its numbers ===== -/
theorem slot_in {x k : Int32} {n b : Nat} (h : x = nI n) (hl : n ≤ b) (hb : b < 1000) (hk : k = nI b) (z : ¬ x = k) : vp_in x b := by
  rw [h]
  refine vp_in_nI ?_ (by omega)
  have : ¬ n = b := fun y => z (by rw [h, hk, y])
  omega
theorem rd_in {S : SS} (hI : SInv S) {r : Int32} (z : isRd S r) : vp_in r 90 := vp_mono (hI.isRd z) hI.l8
theorem like_in {S : SS} (hI : SInv S) {r : Int32} (z : isRd S r) (z6 : gS S 120 r = 6) : vp_in (gS S 127 r) 90 := by
  have h := hI.isRd z
  obtain ⟨_, _, _, _, h6, _⟩ := hI.2.2.2.2.2.2.2.2.2 r h
  have l8 := hI.l8
  have hr : r.toNatClampNeg < nRd S := Nat.lt_of_not_le (fun q => h (Or.inr q))
  exact vp_mono (h6 z6).1 (by omega)
theorem lever_in {S : SS} (hI : SInv S) {s n : Int32} (z : isSt S s) (z2 : inP n 1 4) : vp_in (4 * s + n - 1) 44 := by
  have h := hI.isSt z
  have l1 := hI.l1
  have hs : s.toNatClampNeg < nSt S := Nat.lt_of_not_le (fun q => h (Or.inr q))
  have hn := inP_c (n := 5) z2 (by decide) (by decide)
  have hn5 : n.toNatClampNeg < 5 := Nat.lt_of_not_le (fun q => hn (Or.inr q))
  have h1 : 1 ≤ n.toNatClampNeg := by
    rw [inP_iff, fa_lt] at z2
    have e1 : (1 : Int32).toInt = 1 := by decide
    have ec : n.toNatClampNeg = n.toInt.toNat := rfl
    omega
  rw [nI_of_nn (fun q => h (Or.inl q)), nI_of_nn (fun q => hn (Or.inl q)), lev_ix _ (by omega) _ hn5 h1]
  exact vp_in_nI (by omega) (by omega)
theorem tape_in {S : SS} (hT : TpI S) {t i : Int32} (z : inP t 0 5) (z2 : inP i 0 (gS S 152 t - 1)) : vp_in (60 * t + i) 360 := by
  have h := inP_c (n := 6) z (by decide) (by decide)
  have ht : t.toNatClampNeg < 6 := Nat.lt_of_not_le (fun q => h (Or.inr q))
  have et := nI_of_nn (fun q => h (Or.inl q))
  have b := hT.b ht
  have e0 : (0 : Int32).toInt = 0 := by decide
  have em : gS S 152 t = nI (S 152 t.toNatClampNeg).toNatClampNeg := by
    show S 152 t.toNatClampNeg = _
    exact nI_of_nn (by rw [fa_lt, e0]; omega)
  have hm : (S 152 t.toNatClampNeg).toNatClampNeg ≤ 60 := by
    have ec : (S 152 t.toNatClampNeg).toNatClampNeg = (S 152 t.toNatClampNeg).toInt.toNat := rfl
    omega
  rw [em] at z2
  have h2 := (inP_nI (by omega)).mp z2
  have hi2 : i.toNatClampNeg < (S 152 t.toNatClampNeg).toNatClampNeg := Nat.lt_of_not_le (fun q => h2 (Or.inr q))
  have hi0 : ¬ i < 0 := fun q => h2 (Or.inl q)
  have ei := nI_of_nn hi0
  have hlt : i < S 152 t.toNatClampNeg := by
    have em' : S 152 t.toNatClampNeg = nI (S 152 t.toNatClampNeg).toNatClampNeg := em
    rw [ei, em']
    exact (nI_ltI (by omega) (by omega)).mpr hi2
  obtain ⟨_, h60, e⟩ := tp_ix hT ht hi0 hlt
  rw [← et] at e
  rw [e]
  exact vp_in_nI (by omega) (by omega)
theorem byteO_in (b : Int32) (k : Nat) : inP (byteO b k) (-128) 127 := by
  rw [inP_iff, fa_lt, fa_lt]
  have e1 : (-128 : Int32).toInt = -128 := by decide
  have e2 : (127 : Int32).toInt = 127 := by decide
  unfold byteO
  rw [Int8.toInt_toInt32, e1, e2]
  have h1 := Int8.le_toInt (b >>> ((8 * nI k) &&& 31)).toInt8
  have h2 := Int8.toInt_lt (b >>> ((8 * nI k) &&& 31)).toInt8
  omega
theorem TxI.feedS {b : Int32} : ∀ (k : Nat) (S : SS), S 12 26 = nI (nFd S) → nFd S + k ≤ 140 → TxI S → TxI (feedS b k S) ∧ ∀ j, j < 1680 → (feedS b k S) 136 j = S 136 j
  | 0, S, _, _, hT => ⟨hT, fun _ _ => rfl⟩
  | k + 1, S, h, hl, hT => by
    have e26 : (up2 (up2 S 136 (1680 + nFd S) (byteO b k)) 12 26 (S 12 26 + 1)) 12 26 = nI (nFd S + 1) := by rw [up2_eq, h, nI_1]
    have en : nFd (up2 (up2 S 136 (1680 + nFd S) (byteO b k)) 12 26 (S 12 26 + 1)) = nFd S + 1 := by
      unfold nFd at *
      rw [e26, nI_clamp (by omega)]
    have e136 : ∀ j, (up2 (up2 S 136 (1680 + nFd S) (byteO b k)) 12 26 (S 12 26 + 1)) 136 j = if j = 1680 + nFd S then byteO b k else S 136 j := fun j => by
      rw [up2_s _ _ _ (by decide)]
      by_cases y : j = 1680 + nFd S
      · rw [y, up2_eq, if_pos rfl]
      · rw [up2_k _ _ _ y, if_neg y]
    unfold CSpotTimersLaw_law_r3327_87c8ce.feedS
    obtain ⟨r1, r2⟩ := TxI.feedS (b := b) k _ (by rw [en]; exact e26) (by rw [en]; omega) (fun j hj => by
      rw [en] at hj
      rw [e136]
      by_cases y : 1680 + j = 1680 + nFd S
      · rw [if_pos y]
        exact byteO_in b k
      · rw [if_neg y]
        exact hT j (by omega))
    exact ⟨r1, fun j hj => by rw [r2 j hj, e136, if_neg (by omega)]⟩
theorem TxI.feed {S : SS} (hI : SInv S) (h : TxI S) (b n : Int32) : TxI (feedF S b n).2 ∧ ∀ j, j < 1680 → (feedF S b n).2 136 j = S 136 j := by
  unfold feedF
  split
  · exact ⟨h, fun _ _ => rfl⟩
  · rename_i c1
    split
    · exact ⟨h, fun _ _ => rfl⟩
    · rename_i c2
      obtain ⟨e, h4, h140⟩ := feed_args hI (Classical.not_not.mp c1) c2
      exact TxI.feedS (b := b) n.toNatClampNeg S hI.n26 h140 h
/-- rules whose texts stand as they were -/
theorem RuI.txs {S S' : SS} (hu : RuI S) (hl : nRu S ≤ 12) (h25 : S' 12 25 = S 12 25) (h7 : ∀ j, j < 12 → S' 137 j = S 137 j) (h6 : ∀ j, j < 1680 → S' 136 j = S 136 j) : RuI S' ∧ ∀ k, k < nRu S → nTx S' k = nTx S k ∧ gA (tx S' k) (nTx S' k) = gA (tx S k) (nTx S k) := by
  have en : nRu S' = nRu S := by unfold nRu; rw [h25]
  have g : ∀ k, k < nRu S → nTx S' k = nTx S k ∧ gA (tx S' k) (nTx S' k) = gA (tx S k) (nTx S k) ∧ ∀ j, j < nTx S k → tx S' k j = tx S k j := fun k hk => by
    have e1 : nTx S' k = nTx S k := by unfold nTx; rw [h7 k (by omega)]
    have hn := (hu k hk).2.1
    have et : ∀ j, j < nTx S k → tx S' k j = tx S k j := fun j hj => by
      unfold CSpotTimersLaw_law_r3327_87c8ce.tx
      exact h6 _ (by omega)
    refine ⟨e1, ?_, et⟩
    rw [e1]
    exact (ag_same et).gA
  refine ⟨fun k hk => ?_, fun k hk => ⟨(g k hk).1, (g k hk).2.1⟩⟩
  rw [en] at hk
  obtain ⟨u1, u2, u3, u4⟩ := hu k hk
  obtain ⟨g1, g2, g3⟩ := g k hk
  refine ⟨by rw [h7 k (by omega), g1]; exact u1, by rw [g1]; exact u2, fun j hj => ?_, by rw [g2]; exact u4⟩
  rw [g1] at hj
  rw [g3 j hj]
  exact u3 j hj
theorem CRu.feed {σ σ' : XH} {S S' : SS} {ρ : List Nat} {T : Nat → Bool} (h : CRu σ S ρ) (hu : RuI S) (hl : nRu S ≤ 12) (hF : Fr T σ σ') (t : ∀ s, s ∈ [6, 103, 104, 105] → T s = false) (h25 : S' 12 25 = S 12 25) (h4 : S' 134 = S 134) (h5 : S' 135 = S 135) (h7 : ∀ j, j < 12 → S' 137 j = S 137 j) (h6 : ∀ j, j < 1680 → S' 136 j = S 136 j) : CRu σ' S' ρ := by
  have h' := h.tr hl hF (SA.rf (tl []) (tl []) S) t (fun _ _ => rfl) rfl
  obtain ⟨a1, a2, a3, a4⟩ := h'
  have en : nRu S' = nRu S := by unfold nRu; rw [h25]
  refine ⟨a1, by rw [en]; exact a2, a3, fun k u hk => ?_⟩
  obtain ⟨b1, b2, b3, b4, b5⟩ := a4 k u hk
  have hlt : k < nRu S := by
    rw [← a2]
    exact (List.getElem?_eq_some_iff.mp hk).1
  obtain ⟨q1, q2⟩ := (hu.txs hl h25 h7 h6).2 k hlt
  refine ⟨b1, b2, by rw [h4]; exact b3, by rw [h5]; exact b4, ?_⟩
  have er : ruR S' (nI k) = ruR S (nI k) := by
    unfold ruR
    rw [if_neg (neg_nn (by omega)), if_neg (neg_nn (by omega)), nI_clamp (by omega), q2]
  rw [q1, er]
  exact b5
theorem LL.trs {σ σ' : XH} {S S' : SS} {ρ : List Nat} {T A K : Nat → Bool} (h : LL σ (EL S ρ)) (hF : Fr T σ σ') (hS : SA A K S S') (t : ∀ s, s ∈ [0, 410, 411, 510] → T s = false) (k : ∀ j, j ∈ [1, 2, 8, 20, 59] → K j = false) : LL σ' (EL S' ρ) := by
  rw [EL_cg (hS.k (k 1 (by decide))) (hS.k (k 2 (by decide))) (hS.k (k 8 (by decide))) (hS.k (k 20 (by decide))) (hS.k (k 59 (by decide)))]
  exact h.fr hF (t 0 (by decide)) (t 410 (by decide)) (t 411 (by decide)) (t 510 (by decide))
