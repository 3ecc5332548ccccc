/-! ===== bytes are fed ===== -/
/-- of the four bytes of a number the k-th from its right -/
def byteO (b : Int32) (k : Nat) : Int32 := (b >>> ((8 * nI k) &&& 31)).toInt8.toInt32
theorem byteO_u (b : Int32) {k : Nat} (hk : k < 4) : vp_nar .byte ((b.toUInt32 >>> ((8 * nI k).toUInt32 &&& Int32.toUInt32 31)).toInt32).toInt8.toInt32 = byteO b k := by
  have e : vp_nar .byte ((b.toUInt32 >>> ((8 * nI k).toUInt32 &&& Int32.toUInt32 31)).toInt32).toInt8.toInt32 = (((b.toUInt32 >>> ((8 * nI k).toUInt32 &&& Int32.toUInt32 31)).toInt32).toInt8.toInt32).toInt8.toInt32 := rfl
  rw [e]
  have e8 : ∀ x : Int8, x.toInt32.toInt8 = x := fun x => by simp
  rw [e8]
  unfold byteO
  congr 1
  apply Int8.toBitVec_inj.mp
  have hx : ∀ x : Int32, x.toInt8.toBitVec = x.toBitVec.setWidth 8 := fun x => by
    have e1 : x.toInt8.toBitVec = x.toBitVec.signExtend 8 := by simp
    rw [e1]
    exact BitVec.signExtend_eq_setWidth_of_le _ (by decide)
  rw [hx, hx]
  match k, hk with
  | 0, _ =>
    have s1 : (b.toUInt32 >>> ((8 * nI 0).toUInt32 &&& Int32.toUInt32 31)).toInt32.toBitVec = b.toBitVec >>> 0 := rfl
    have s2 : (b >>> ((8 * nI 0) &&& 31)).toBitVec = b.toBitVec.sshiftRight 0 := rfl
    rw [s1, s2]
    simp
  | 1, _ =>
    have s1 : (b.toUInt32 >>> ((8 * nI 1).toUInt32 &&& Int32.toUInt32 31)).toInt32.toBitVec = b.toBitVec >>> 8 := rfl
    have s2 : (b >>> ((8 * nI 1) &&& 31)).toBitVec = b.toBitVec.sshiftRight 8 := rfl
    rw [s1, s2]
    apply BitVec.eq_of_getLsbD_eq
    intro i hi_
    simp only [BitVec.getLsbD_setWidth, BitVec.getLsbD_ushiftRight, BitVec.getLsbD_sshiftRight]
    simp only [show ¬ 32 ≤ i by omega, show 8 + i < 32 by omega, decide_false, Bool.not_false, Bool.true_and, if_true]
  | 2, _ =>
    have s1 : (b.toUInt32 >>> ((8 * nI 2).toUInt32 &&& Int32.toUInt32 31)).toInt32.toBitVec = b.toBitVec >>> 16 := rfl
    have s2 : (b >>> ((8 * nI 2) &&& 31)).toBitVec = b.toBitVec.sshiftRight 16 := rfl
    rw [s1, s2]
    apply BitVec.eq_of_getLsbD_eq
    intro i hi_
    simp only [BitVec.getLsbD_setWidth, BitVec.getLsbD_ushiftRight, BitVec.getLsbD_sshiftRight]
    simp only [show ¬ 32 ≤ i by omega, show 16 + i < 32 by omega, decide_false, Bool.not_false, Bool.true_and, if_true]
  | 3, _ =>
    have s1 : (b.toUInt32 >>> ((8 * nI 3).toUInt32 &&& Int32.toUInt32 31)).toInt32.toBitVec = b.toBitVec >>> 24 := rfl
    have s2 : (b >>> ((8 * nI 3) &&& 31)).toBitVec = b.toBitVec.sshiftRight 24 := rfl
    rw [s1, s2]
    apply BitVec.eq_of_getLsbD_eq
    intro i hi_
    simp only [BitVec.getLsbD_setWidth, BitVec.getLsbD_ushiftRight, BitVec.getLsbD_sshiftRight]
    simp only [show ¬ 32 ≤ i by omega, show 24 + i < 32 by omega, decide_false, Bool.not_false, Bool.true_and, if_true]
  | k + 4, hk => omega
def feedS (b : Int32) : Nat → SS → SS
  | 0, S => S
  | k + 1, S => feedS b k (up2 (up2 S 136 (1680 + nFd S) (byteO b k)) 12 26 (S 12 26 + 1))
def feedF (S : SS) (b n : Int32) : Int32 × SS :=
  if ¬ inP n 0 4 then (-2, S) else if 140 < S 12 26 + n then (-4, S) else let S' := feedS b n.toNatClampNeg S; (S' 12 26, S')
theorem SA.feed (b : Int32) : ∀ k (S : SS), SA (tl [136]) (tl [26]) S (feedS b k S)
  | 0, S => SA.rf _ _ S
  | k + 1, S => (((SA.rf _ _ S).wa (1680 + nFd S) (byteO b k) (by decide) rfl).wk 26 (S 12 26 + 1) rfl).trans (SA.feed b k _)
theorem neg_nn {k : Nat} (hk : k < 1000) : ¬ nI k < 0 := fun y => by
  rw [show (0 : Int32) = nI 0 from rfl] at y
  exact absurd ((c_lt hk (by omega)).mp y) (by omega)
theorem feed_step {S : SS} {k : Nat} (h26 : S 12 26 = nI (nFd S)) (h140 : nFd S + (k + 1) ≤ 140) (b : Int32) : (up2 (up2 S 136 (1680 + nFd S) (byteO b k)) 12 26 (S 12 26 + 1)) 12 26 = nI (nFd S + 1) ∧ nFd (up2 (up2 S 136 (1680 + nFd S) (byteO b k)) 12 26 (S 12 26 + 1)) = nFd S + 1 := by
  have e : (up2 (up2 S 136 (1680 + nFd S) (byteO b k)) 12 26 (S 12 26 + 1)) 12 26 = nI (nFd S + 1) := by rw [up2_eq, h26, nI_1]
  refine ⟨e, ?_⟩
  show ((up2 (up2 S 136 (1680 + nFd S) (byteO b k)) 12 26 (S 12 26 + 1)) 12 26).toNatClampNeg = _
  rw [e, nI_clamp (by omega)]
theorem feed_m {d rc rs : Nat} {b : Int32} {σ : XH} {Q : XV → XH → Prop} (hM : MI σ) : ∀ (k : Nat) (S : SS), S 12 26 = nI (nFd S) → nFd S + k ≤ 140 → Q (vI ((feedS b k S) 12 26)) (up σ (feedS b k S)) → Ex d rc rs m_X11_feed 32 [vR (some (12, 0)), vI b, vU, vI (nI k - 1)] [] (up σ S) Q
  | 0, S, h26, h140, h => by
    refine sX11_feed_32 ⟨fun _ => ?_, fun z => absurd (show (nI 0 - 1 : Int32) < 0 by decide) z⟩
    rw [hi_up σ S rfl]
    exact h
  | k + 1, S, h26, h140, h => by
    have st := feed_step (k := k) h26 h140 b
    rw [nI_pred]
    refine sX11_feed_32 ⟨fun z => absurd z (neg_nn (by omega)), fun _ => ⟨hM.r136, ?_, ?_⟩⟩
    · rw [hi_up σ S rfl, h26, show (1680 : Int32) = nI 1680 by decide, nI_add]
      exact vp_at hM.n136 (vp_in_nI (by omega) (by omega))
    · intro h1 e1
      rw [hi_up σ S rfl, h26, show (1680 : Int32) = nI 1680 by decide, nI_add, nI_clamp (by omega), wI_up σ S rfl] at e1
      intro h2 e2
      rw [e1, hi_up _ _ rfl, wI_up _ _ rfl, up2_s _ _ _ (show 12 ≠ 136 by decide)] at e2
      rw [e2, show nI k + (-1) = nI k - 1 from (Int32.sub_eq_add_neg _ _).symm]
      exact feed_m hM k (up2 (up2 S 136 (1680 + nFd S) (byteO b k)) 12 26 (S 12 26 + 1)) (by rw [st.1, st.2]) (by rw [st.2]; omega) h
theorem feed_args {S : SS} {n : Int32} (hI : SInv S) (z : inP n 0 4) (z2 : ¬ 140 < S 12 26 + n) : n = nI n.toNatClampNeg ∧ n.toNatClampNeg ≤ 4 ∧ nFd S + n.toNatClampNeg ≤ 140 := by
  rw [inP_iff] at z
  have e := nI_of_nn z.1
  have h4 : n.toNatClampNeg ≤ 4 := by
    have a := z.2
    have e0 : (4 : Int32).toInt = 4 := by decide
    rw [fa_lt, e0] at a
    show n.toInt.toNat ≤ 4
    omega
  refine ⟨e, h4, ?_⟩
  have h26 := hI.l26
  rw [hI.n26, e, nI_add, show (140 : Int32) = nI 140 by decide, c_lt (by omega) (by omega)] at z2
  omega
theorem sp_X11_feed {d : Nat} {b n : Int32} {σ : XH} {S : SS} {Q : XV → XH → Prop} (hd : 3 ≤ d) (hM : MI σ) (hI : SInv S) (h : Q (vI (feedF S b n).1) (up σ (feedF S b n).2)) : Ec d 0 0 m_X11_feed [vR (some (12, 0)), vI b, vI n] (up σ S) Q := by
  unfold feedF at h
  refine Ec_of mo_X11_feed.1 (Nat.le_of_ble_eq_true rfl) ?_
  refine sX11_feed_0 ?_
  unfold bX11_feed_0
  refine ⟨by omega, sp_X11_in (by omega) (fun z => br_f (by decide) ⟨fun z2 => ?_, fun z2 => ?_⟩) (fun z => br_t rfl ?_)⟩
  · rw [hi_up σ S rfl] at z2
    rw [if_neg (fun y => y z), if_pos z2] at h
    exact h
  · rw [hi_up σ S rfl] at z2
    rw [if_neg (fun y => y z), if_neg z2] at h
    obtain ⟨e, h4, h140⟩ := feed_args hI z z2
    rw [e]
    exact feed_m hM _ S hI.n26 h140 h
  · rw [if_pos z] at h
    exact h
theorem feed_c {d rc rs : Nat} {b : Int32} {Q : XV → XH → Prop} (hd : 1 ≤ d) : ∀ (k : Nat) (S : SS) (σ : XH), CFX σ → CTx σ S → k ≤ 4 → S 12 26 = nI (nFd S) → nFd S + k ≤ 140 → (∀ σ', Fi (tl [7, 200]) σ σ' → CTx σ' (feedS b k S) → Q (vI ((feedS b k S) 12 26)) σ') → Ex d rc rs m_X10_feed 34 [vR (some (11, 0)), vI b, vU, vI (nI k - 1)] [] σ Q
  | 0, S, σ, hX, hC, h4, h26, h140, h => by
    refine sX10_feed_34 ⟨fun _ => ⟨hX.k11_8, ?_⟩, fun z => absurd (show (nI 0 - 1 : Int32) < 0 by decide) z⟩
    rw [hC.1]
    exact h σ (Fi.rf _ _) hC
  | k + 1, S, σ, hX, hC, h4, h26, h140, h => by
    have st := feed_step (k := k) h26 h140 b
    rw [nI_pred]
    refine sX10_feed_34 ⟨fun z => absurd z (neg_nn (by omega)), fun _ => ⟨hX.k11_8, by omega, ?_⟩⟩
    refine Ec_of mo_X6_append.1 (Nat.le_of_ble_eq_true rfl) ?_
    refine sX6_append_0 ?_
    unfold bX6_append_0
    rw [hC.1, hX.n200, h26]
    refine ⟨hX.k7_0, fun _ => ⟨hX.k7_0, vp_in_nI (by omega) (by omega), ?_⟩, fun z => absurd ((c_lt (n := nFd S) (N := 140) (by omega) (by omega)).mpr (by omega)) z⟩
    rw [byteO_u b (by omega), nI_clamp (by omega)]
    intro h1 e1 h2 e2
    have a1 : hi h1 7 0 1 = nI (nFd S) := by
      rw [e1, hi_wI_ne _ _ _ _ (by decide), hC.1, h26]
    rw [a1, nI_1] at e2
    have hF : Fi (tl [7, 200]) σ h2 := by
      rw [e2, e1]
      exact Fi.wI (Fi.wI (Fi.rf _ _) (by decide) _ _ _) (by decide) _ _ _
    refine sX6_append_33 ?_
    rw [show nI k + (-1) = nI k - 1 from (Int32.sub_eq_add_neg _ _).symm]
    refine feed_c hd k _ h2 (hX.fi hF rfl rfl rfl) ⟨?_, fun j hj => ?_⟩ (by omega) (by rw [st.1, st.2]) (by rw [st.2]; omega) (fun σ' k1 k2 => h σ' (hF.trans k1) k2)
    · rw [st.1, e2, hi_wI_at, if_pos ⟨rfl, rfl⟩]
    · rw [st.2] at hj
      rw [e2, hi_wI_ne _ _ _ _ (by decide), e1, hi_wI_at, up2_s _ _ _ (show 136 ≠ 12 by decide), up2_at]
      by_cases y : j = nFd S
      · rw [if_pos ⟨rfl, y⟩, if_pos (by omega)]
      · rw [if_neg (fun w => y w.2), if_neg (by omega)]
        exact hC.2 j (by omega)
theorem sp_X10_feed {d : Nat} {b n : Int32} {σ : XH} {S : SS} {Q : XV → XH → Prop} (hd : 3 ≤ d) (hX : CFX σ) (hI : SInv S) (hC : CTx σ S) (h : ∀ σ', Fi (tl [7, 200]) σ σ' → CTx σ' (feedF S b n).2 → Q (vI (feedF S b n).1) σ') : Ec d 0 0 m_X10_feed [vR (some (11, 0)), vI b, vI n] σ Q := by
  unfold feedF at h
  refine Ec_of mo_X10_feed.1 (Nat.le_of_ble_eq_true rfl) ?_
  refine sX10_feed_0 ?_
  unfold bX10_feed_0
  refine ⟨by omega, sp_X10_within (fun z => br_f (by decide) ⟨hX.k11_8, fun z2 => ?_, fun z2 => ?_⟩) (fun z => br_t rfl ?_)⟩
  · rw [hC.1] at z2
    rw [if_neg (fun y => y z), if_pos z2] at h
    exact h σ (Fi.rf _ _) hC
  · rw [hC.1] at z2
    rw [if_neg (fun y => y z), if_neg z2] at h
    obtain ⟨e, h4, h140⟩ := feed_args hI z z2
    rw [e]
    exact feed_c (by omega) _ S σ hX hC h4 hI.n26 h140 h
  · rw [if_pos z] at h
    exact h σ (Fi.rf _ _) hC
