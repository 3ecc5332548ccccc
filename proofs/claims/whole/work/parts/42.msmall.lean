/-! ===== the reference: small methods ===== -/
theorem sp_X11_in {d : Nat} {a b c : Int32} {σ : XH} {Q : XV → XH → Prop} (hd : 0 ≤ d)  (h1 : inP a b c → Q (vI 1) σ) (h0 : ¬ (inP a b c) → Q (vI 0) σ) : Ec d 0 0 m_X11_in [vR (some (12, 0)), vI a, vI b, vI c] σ Q := by
  refine Ec_of mo_X11_in.1 (Nat.le_of_ble_eq_true rfl) ?_
  refine sX11_in_0 ?_
  unfold bX11_in_0
  refine ⟨fun c2 => ?_, fun c2 => ?_⟩
  · refine sX11_in_14 ?_
    unfold bX11_in_14
    refine sX11_in_15 ?_
    unfold bX11_in_15
    refine ⟨by simp, ?_⟩
    first | refine h1 ?_ | refine h0 ?_
    rw [inP_iff]
    simp_all
  · refine ⟨fun c7 => ?_, fun c7 => ?_⟩
    · refine sX11_in_14 ?_
      unfold bX11_in_14
      refine sX11_in_15 ?_
      unfold bX11_in_15
      refine ⟨by simp, ?_⟩
      first | refine h1 ?_ | refine h0 ?_
      rw [inP_iff]
      simp_all
    · refine sX11_in_15 ?_
      unfold bX11_in_15
      refine ⟨by simp, ?_⟩
      first | refine h1 ?_ | refine h0 ?_
      rw [inP_iff]
      simp_all
theorem sp_X11_isTime {d : Nat} {a : Int32} {σ : XH} {Q : XV → XH → Prop} (hd : 1 ≤ d)  (h1 : inP a 0 999999 → Q (vI 1) σ) (h0 : ¬ (inP a 0 999999) → Q (vI 0) σ) : Ec d 0 0 m_X11_isTime [vR (some (12, 0)), vI a] σ Q := by
  refine Ec_of mo_X11_isTime.1 (Nat.le_of_ble_eq_true rfl) ?_
  refine sX11_isTime_0 ?_
  unfold bX11_isTime_0
  refine ⟨by omega, ?_⟩
  refine sp_X11_in (by omega) (fun c => ?_) (fun c => ?_)
  · refine ⟨by decide, ?_⟩
    exact h1 c
  · refine ⟨by decide, ?_⟩
    exact h0 c
theorem sp_X11_isDay {d : Nat} {a : Int32} {σ : XH} {Q : XV → XH → Prop} (hd : 1 ≤ d)  (h1 : inP a 0 9999 → Q (vI 1) σ) (h0 : ¬ (inP a 0 9999) → Q (vI 0) σ) : Ec d 0 0 m_X11_isDay [vR (some (12, 0)), vI a] σ Q := by
  refine Ec_of mo_X11_isDay.1 (Nat.le_of_ble_eq_true rfl) ?_
  refine sX11_isDay_0 ?_
  unfold bX11_isDay_0
  refine ⟨by omega, ?_⟩
  refine sp_X11_in (by omega) (fun c => ?_) (fun c => ?_)
  · refine ⟨by decide, ?_⟩
    exact h1 c
  · refine ⟨by decide, ?_⟩
    exact h0 c
theorem sp_X11_isHand {d : Nat} {a : Int32} {σ : XH} {Q : XV → XH → Prop} (hd : 1 ≤ d)  (h1 : inP a 0 5 → Q (vI 1) σ) (h0 : ¬ (inP a 0 5) → Q (vI 0) σ) : Ec d 0 0 m_X11_isHand [vR (some (12, 0)), vI a] σ Q := by
  refine Ec_of mo_X11_isHand.1 (Nat.le_of_ble_eq_true rfl) ?_
  refine sX11_isHand_0 ?_
  unfold bX11_isHand_0
  refine ⟨by omega, ?_⟩
  refine sp_X11_in (by omega) (fun c => ?_) (fun c => ?_)
  · refine ⟨by decide, ?_⟩
    exact h1 c
  · refine ⟨by decide, ?_⟩
    exact h0 c
theorem sp_X11_isHouse {d : Nat} {a : Int32} {σ : XH} {Q : XV → XH → Prop} (hd : 1 ≤ d)  (h1 : inP a 0 2 → Q (vI 1) σ) (h0 : ¬ (inP a 0 2) → Q (vI 0) σ) : Ec d 0 0 m_X11_isHouse [vR (some (12, 0)), vI a] σ Q := by
  refine Ec_of mo_X11_isHouse.1 (Nat.le_of_ble_eq_true rfl) ?_
  refine sX11_isHouse_0 ?_
  unfold bX11_isHouse_0
  refine ⟨by omega, ?_⟩
  refine sp_X11_in (by omega) (fun c => ?_) (fun c => ?_)
  · refine ⟨by decide, ?_⟩
    exact h1 c
  · refine ⟨by decide, ?_⟩
    exact h0 c
theorem sp_X11_isTape {d : Nat} {a : Int32} {σ : XH} {Q : XV → XH → Prop} (hd : 1 ≤ d)  (h1 : inP a 0 5 → Q (vI 1) σ) (h0 : ¬ (inP a 0 5) → Q (vI 0) σ) : Ec d 0 0 m_X11_isTape [vR (some (12, 0)), vI a] σ Q := by
  refine Ec_of mo_X11_isTape.1 (Nat.le_of_ble_eq_true rfl) ?_
  refine sX11_isTape_0 ?_
  unfold bX11_isTape_0
  refine ⟨by omega, ?_⟩
  refine sp_X11_in (by omega) (fun c => ?_) (fun c => ?_)
  · refine ⟨by decide, ?_⟩
    exact h1 c
  · refine ⟨by decide, ?_⟩
    exact h0 c
theorem sp_X11_isStation {d : Nat} {a : Int32} {σ : XH} {S : SS} {Q : XV → XH → Prop} (hd : 1 ≤ d)  (h1 : isSt S a → Q (vI 1) (up σ S)) (h0 : ¬ (isSt S a) → Q (vI 0) (up σ S)) : Ec d 0 0 m_X11_isStation [vR (some (12, 0)), vI a] (up σ S) Q := by
  refine Ec_of mo_X11_isStation.1 (Nat.le_of_ble_eq_true rfl) ?_
  refine sX11_isStation_0 ?_
  unfold bX11_isStation_0
  refine ⟨by omega, ?_⟩
  refine sp_X11_in (by omega) (fun c => ?_) (fun c => ?_)
  · refine ⟨by decide, ?_⟩
    exact h1 c
  · refine ⟨by decide, ?_⟩
    exact h0 c
theorem sp_X11_isClock {d : Nat} {a : Int32} {σ : XH} {S : SS} {Q : XV → XH → Prop} (hd : 1 ≤ d)  (h1 : isCl S a → Q (vI 1) (up σ S)) (h0 : ¬ (isCl S a) → Q (vI 0) (up σ S)) : Ec d 0 0 m_X11_isClock [vR (some (12, 0)), vI a] (up σ S) Q := by
  refine Ec_of mo_X11_isClock.1 (Nat.le_of_ble_eq_true rfl) ?_
  refine sX11_isClock_0 ?_
  unfold bX11_isClock_0
  refine ⟨by omega, ?_⟩
  refine sp_X11_in (by omega) (fun c => ?_) (fun c => ?_)
  · refine ⟨by decide, ?_⟩
    exact h1 c
  · refine ⟨by decide, ?_⟩
    exact h0 c
theorem sp_X11_isReading {d : Nat} {a : Int32} {σ : XH} {S : SS} {Q : XV → XH → Prop} (hd : 1 ≤ d)  (h1 : isRd S a → Q (vI 1) (up σ S)) (h0 : ¬ (isRd S a) → Q (vI 0) (up σ S)) : Ec d 0 0 m_X11_isReading [vR (some (12, 0)), vI a] (up σ S) Q := by
  refine Ec_of mo_X11_isReading.1 (Nat.le_of_ble_eq_true rfl) ?_
  refine sX11_isReading_0 ?_
  unfold bX11_isReading_0
  refine ⟨by omega, ?_⟩
  refine sp_X11_in (by omega) (fun c => ?_) (fun c => ?_)
  · refine ⟨by decide, ?_⟩
    exact h1 c
  · refine ⟨by decide, ?_⟩
    exact h0 c
theorem sp_X11_down {d : Nat} {a b : Int64} {σ : XH} {Q : XV → XH → Prop} (hd : 0 ≤ d) (hb : ¬ b = 0) (h : Q (vL (dwn a b)) σ) : Ec d 0 0 m_X11_down [vR (some (12, 0)), vL a, vL b] σ Q := by
  refine Ec_of mo_X11_down.1 (Nat.le_of_ble_eq_true rfl) ?_
  refine sX11_down_0 ?_
  unfold bX11_down_0
  refine ⟨hb, ?_⟩
  refine ⟨fun c11 => ?_, fun c11 => ?_⟩
  · refine sX11_down_23 ?_
    unfold bX11_down_23
    simp only [lgc_gt] at *
    simpa only [dwn, *, if_true, if_false] using h
  · refine sX11_down_23 ?_
    unfold bX11_down_23
    simp only [lgc_gt] at *
    simpa only [dwn, *, if_true, if_false] using h
theorem sp_X11_isSeenKind {d : Nat} {a : Int32} {σ : XH} {Q : XV → XH → Prop} (hd : 0 ≤ d)  (h1 : isSk a → Q (vI 1) σ) (h0 : ¬ (isSk a) → Q (vI 0) σ) : Ec d 0 0 m_X11_isSeenKind [vR (some (12, 0)), vI a] σ Q := by
  refine Ec_of mo_X11_isSeenKind.1 (Nat.le_of_ble_eq_true rfl) ?_
  refine sX11_isSeenKind_0 ?_
  unfold bX11_isSeenKind_0
  refine ⟨fun c2 => ?_, fun c2 => ?_⟩
  · refine sX11_isSeenKind_15 ?_
    unfold bX11_isSeenKind_15
    refine sX11_isSeenKind_20 ?_
    unfold bX11_isSeenKind_20
    refine ⟨by simp, ?_⟩
    first | refine h1 ?_ | refine h0 ?_
    simp_all [isSk]
  · refine ⟨fun c7 => ?_, fun c7 => ?_⟩
    · refine sX11_isSeenKind_15 ?_
      unfold bX11_isSeenKind_15
      refine sX11_isSeenKind_20 ?_
      unfold bX11_isSeenKind_20
      refine ⟨by simp, ?_⟩
      first | refine h1 ?_ | refine h0 ?_
      simp_all [isSk]
    · refine ⟨fun c12 => ?_, fun c12 => ?_⟩
      · refine sX11_isSeenKind_15 ?_
        unfold bX11_isSeenKind_15
        refine sX11_isSeenKind_20 ?_
        unfold bX11_isSeenKind_20
        refine ⟨by simp, ?_⟩
        first | refine h1 ?_ | refine h0 ?_
        simp_all [isSk]
      · refine sX11_isSeenKind_20 ?_
        unfold bX11_isSeenKind_20
        refine ⟨by simp, ?_⟩
        first | refine h1 ?_ | refine h0 ?_
        simp_all [isSk]
theorem sp_X11_nowKind {d : Nat} {a : Int32} {σ : XH} {S : SS} {Q : XV → XH → Prop} (hd : 0 ≤ d) (hM : MI σ) (v1 : vp_in a 90) (h : Q (vI (kNow S a)) (up σ S)) : Ec d 0 0 m_X11_nowKind [vR (some (12, 0)), vI a] (up σ S) Q := by
  refine Ec_of mo_X11_nowKind.1 (Nat.le_of_ble_eq_true rfl) ?_
  refine sX11_nowKind_0 ?_
  unfold bX11_nowKind_0
  refine ⟨hM.r129, ?_⟩
  refine ⟨vp_at hM.n129 (by assumption), ?_⟩
  refine ⟨fun c6 => ?_, fun c6 => ?_⟩
  · refine sX11_nowKind_20 ?_
    unfold bX11_nowKind_20
    simp only [hu_12, hu_120, hu_129] at *
    simpa only [kNow, gS, *, if_true, if_false, reduceIte] using h
  · refine ⟨hM.r120, ?_⟩
    refine ⟨vp_at hM.n120 (by assumption), ?_⟩
    refine sX11_nowKind_20 ?_
    unfold bX11_nowKind_20
    simp only [hu_12, hu_120, hu_129] at *
    simpa only [kNow, gS, *, if_true, if_false, reduceIte] using h
theorem sp_X11_numberFor {d : Nat} {a : Int32} {σ : XH} {S : SS} {Q : XV → XH → Prop} (hd : 0 ≤ d) (hM : MI σ) (v1 : vp_in a 90) (v2 : gS S 120 a = 6 → vp_in (gS S 127 a) 90) (h : Q (vI (numF S a)) (up σ S)) : Ec d 0 0 m_X11_numberFor [vR (some (12, 0)), vI a] (up σ S) Q := by
  refine Ec_of mo_X11_numberFor.1 (Nat.le_of_ble_eq_true rfl) ?_
  refine sX11_numberFor_0 ?_
  unfold bX11_numberFor_0
  refine ⟨hM.r120, ?_⟩
  refine ⟨vp_at hM.n120 (by first | assumption | exact v2 (by assumption)), ?_⟩
  refine ⟨fun c8 => ?_, fun c8 => ?_⟩
  · refine ⟨hM.r125, ?_⟩
    refine ⟨hM.r127, ?_⟩
    refine ⟨vp_at hM.n127 (by first | assumption | exact v2 (by assumption)), ?_⟩
    refine ⟨vp_at hM.n125 (by first | assumption | exact v2 (by assumption)), ?_⟩
    refine sX11_numberFor_31 ?_
    unfold bX11_numberFor_31
    simp_all [numF, gS, hu_12, hu_120, hu_125, hu_127]
  · refine ⟨hM.r125, ?_⟩
    refine ⟨vp_at hM.n125 (by first | assumption | exact v2 (by assumption)), ?_⟩
    refine sX11_numberFor_31 ?_
    unfold bX11_numberFor_31
    simp_all [numF, gS, hu_12, hu_120, hu_125, hu_127]
theorem sp_X11_isStarOf {d : Nat} {a b : Int32} {σ : XH} {S : SS} {Q : XV → XH → Prop} (hd : 0 ≤ d) (hM : MI σ) (v1 : vp_in a 90) (v2 : vp_in b 12) (h1 : isStar S a b → Q (vI 1) (up σ S)) (h0 : ¬ (isStar S a b) → Q (vI 0) (up σ S)) : Ec d 0 0 m_X11_isStarOf [vR (some (12, 0)), vI a, vI b] (up σ S) Q := by
  refine Ec_of mo_X11_isStarOf.1 (Nat.le_of_ble_eq_true rfl) ?_
  refine sX11_isStarOf_0 ?_
  unfold bX11_isStarOf_0
  refine ⟨hM.r120, ?_⟩
  refine ⟨vp_at hM.n120 (by assumption), ?_⟩
  refine ⟨fun c7 => ?_, fun c7 => ?_⟩
  · refine ⟨hM.r129, ?_⟩
    refine ⟨vp_at hM.n129 (by assumption), ?_⟩
    refine ⟨fun c16 => ?_, fun c16 => ?_⟩
    · refine ⟨hM.r121, ?_⟩
      refine ⟨vp_at hM.n121 (by assumption), ?_⟩
      refine ⟨fun c26 => ?_, fun c26 => ?_⟩
      · refine ⟨hM.r119, ?_⟩
        refine ⟨vp_at hM.n119 (by assumption), ?_⟩
        refine ⟨fun c35 => ?_, fun c35 => ?_⟩
        · refine sX11_isStarOf_53 ?_
          unfold bX11_isStarOf_53
          refine sX11_isStarOf_58 ?_
          unfold bX11_isStarOf_58
          refine ⟨by simp, ?_⟩
          first | refine h1 ?_ | refine h0 ?_
          simp_all [isStar, gS, hu_12, hu_119, hu_120, hu_121, hu_123, hu_129]
        · refine ⟨hM.r123, ?_⟩
          refine ⟨vp_at hM.n123 (by assumption), ?_⟩
          refine ⟨hM.r119, ?_⟩
          refine ⟨vp_at hM.n119 (by assumption), ?_⟩
          refine ⟨fun c50 => ?_, fun c50 => ?_⟩
          · refine sX11_isStarOf_57 ?_
            unfold bX11_isStarOf_57
            refine sX11_isStarOf_58 ?_
            unfold bX11_isStarOf_58
            refine ⟨by simp, ?_⟩
            first | refine h1 ?_ | refine h0 ?_
            simp_all [isStar, gS, hu_12, hu_119, hu_120, hu_121, hu_123, hu_129]
          · refine sX11_isStarOf_53 ?_
            unfold bX11_isStarOf_53
            refine sX11_isStarOf_58 ?_
            unfold bX11_isStarOf_58
            refine ⟨by simp, ?_⟩
            first | refine h1 ?_ | refine h0 ?_
            simp_all [isStar, gS, hu_12, hu_119, hu_120, hu_121, hu_123, hu_129]
      · refine sX11_isStarOf_57 ?_
        unfold bX11_isStarOf_57
        refine sX11_isStarOf_58 ?_
        unfold bX11_isStarOf_58
        refine ⟨by simp, ?_⟩
        first | refine h1 ?_ | refine h0 ?_
        simp_all [isStar, gS, hu_12, hu_119, hu_120, hu_121, hu_123, hu_129]
    · refine sX11_isStarOf_57 ?_
      unfold bX11_isStarOf_57
      refine sX11_isStarOf_58 ?_
      unfold bX11_isStarOf_58
      refine ⟨by simp, ?_⟩
      first | refine h1 ?_ | refine h0 ?_
      simp_all [isStar, gS, hu_12, hu_119, hu_120, hu_121, hu_123, hu_129]
  · refine sX11_isStarOf_57 ?_
    unfold bX11_isStarOf_57
    refine sX11_isStarOf_58 ?_
    unfold bX11_isStarOf_58
    refine ⟨by simp, ?_⟩
    first | refine h1 ?_ | refine h0 ?_
    simp_all [isStar, gS, hu_12, hu_119, hu_120, hu_121, hu_123, hu_129]
theorem nI_of_nn {x : Int32} (h : ¬ x < 0) : x = nI x.toNatClampNeg := by
  obtain ⟨j, hj, rfl⟩ := nI_of h
  rw [nI_clamp hj]
theorem vp_mono {x : Int32} {n m : Nat} (h : vp_in x n) (hnm : n ≤ m) : vp_in x m := fun z => h (z.elim Or.inl (fun q => Or.inr (Nat.le_trans hnm q)))
theorem vp_nn {x : Int32} {n : Nat} (h : vp_in x n) : ¬ x < 0 := fun z => h (Or.inl z)
theorem vp_lt {x : Int32} {n : Nat} (h : vp_in x n) : x.toNatClampNeg < n := Nat.not_le.mp fun z => h (Or.inr z)
theorem sbl_in (S : SS) (c x : Int32) : ∀ n : Nat, n ≤ 90 → ¬ sbl S c x n < 0 → vp_in (sbl S c x n) n
  | 0, _, h => absurd (show (-1 : Int32) < 0 by decide) h
  | r + 1, hr, h => by
    unfold sbl at h ⊢
    split
    · exact vp_in_nI (by omega) (by omega)
    · rename_i z
      rw [if_neg z] at h
      exact vp_mono (sbl_in S c x r (by omega) h) (by omega)
theorem sab_in (S : SS) (c x : Int32) : ∀ n : Nat, n ≤ 90 → ¬ sab S c x n < 0 → vp_in (sab S c x n) n
  | 0, _, h => absurd (show (-1 : Int32) < 0 by decide) h
  | r + 1, hr, h => by
    unfold sab at h ⊢
    split
    · exact vp_in_nI (by omega) (by omega)
    · rename_i z
      rw [if_neg z] at h
      exact vp_mono (sab_in S c x r (by omega) h) (by omega)
theorem lp_X11_starBelow {d rc rs : Nat} {c x : Int32} {σ : XH} {S : SS} {Q : XV → XH → Prop} (hd : 1 ≤ d) (hM : MI σ) (v2 : vp_in c 12) {n : Nat} (hn : S 12 8 = nI n) (h90 : n ≤ 90) (h : Q (vI (sbl S c x n)) (up σ S)) : ∀ (m r : Nat) (b k : Int32), r + m = n → b = sbl S c x r → k = nI r → Ex d rc rs m_X11_starBelow 5 [vR (some (12, 0)), vI c, vI x, vI b, vI k] [] (up σ S) Q := by
  intro m
  induction m with
  | zero =>
    intro r b k hr hb hk
    have e : r = n := by omega
    subst e hk hb
    refine sX11_starBelow_5 ?_
    unfold bX11_starBelow_5
    rw [hu_12, hn]
    exact br_f (nI_nlt (Nat.le_refl _) (by omega)) h
  | succ m ih =>
    intro r b k hr hb hk
    have hlt : r < n := by omega
    have v1 : vp_in (nI r) 90 := vp_in_nI (by omega) (by omega)
    have hbb : ¬ b < 0 → vp_in b 90 := fun z => by
      rw [hb] at z ⊢
      exact vp_mono (sbl_in _ _ _ r (by omega) z) (by omega)
    subst hk
    refine sX11_starBelow_5 ?_
    unfold bX11_starBelow_5
    rw [hu_12, hn]
    refine br_t (nI_lt hlt (by omega)) ⟨by omega, ?_⟩
    have no : ¬ (isStar S (nI r) c ∧ ¬ x < gS S 123 (nI r) ∧ (b < 0 ∨ ¬ gS S 123 (nI r) < gS S 123 b)) → Ex d rc rs m_X11_starBelow 58 [vR (some (12, 0)), vI c, vI x, vI b, vI (nI r)] [] (up σ S) Q := fun z => by
      refine sX11_starBelow_58 ?_
      unfold bX11_starBelow_58
      refine ih (r + 1) _ _ (by omega) ?_ (nI_1 r)
      unfold sbl
      rw [← hb, if_neg z]
    have yes : (isStar S (nI r) c ∧ ¬ x < gS S 123 (nI r) ∧ (b < 0 ∨ ¬ gS S 123 (nI r) < gS S 123 b)) → Ex d rc rs m_X11_starBelow 55 [vR (some (12, 0)), vI c, vI x, vU, vI (nI r)] [] (up σ S) Q := fun z => by
      refine sX11_starBelow_55 ?_
      unfold bX11_starBelow_55
      refine sX11_starBelow_58 ?_
      unfold bX11_starBelow_58
      refine ih (r + 1) _ _ (by omega) ?_ (nI_1 r)
      unfold sbl
      rw [← hb, if_pos z]
    refine sp_X11_isStarOf (by omega) hM v1 v2 (fun c1 => ?_) (fun c1 => ?_)
    · refine br_f (by decide) ⟨hM.r123, vp_at hM.n123 v1, ?_⟩
      refine ⟨fun c2 => no (fun z => z.2.1 c2), fun c2 => ⟨fun c3 => yes ⟨c1, c2, Or.inl c3⟩, fun c3 => ⟨hM.r123, vp_at hM.n123 v1, hM.r123, vp_at hM.n123 (hbb c3), ⟨fun c4 => no (fun z => ?_), fun c4 => yes ⟨c1, c2, Or.inr c4⟩⟩⟩⟩⟩
      rcases z.2.2 with q | q
      · exact c3 q
      · exact q c4
    · exact br_t rfl (no (fun z => c1 z.1))
theorem sp_X11_starBelow {d : Nat} {c x : Int32} {σ : XH} {S : SS} {Q : XV → XH → Prop} (hd : 1 ≤ d) (hM : MI σ) (v2 : vp_in c 12) {n : Nat} (hn : S 12 8 = nI n) (h90 : n ≤ 90) (h : Q (vI (sbl S c x n)) (up σ S)) : Ec d 0 0 m_X11_starBelow [vR (some (12, 0)), vI c, vI x] (up σ S) Q := by
  refine Ec_of mo_X11_starBelow.1 (Nat.le_of_ble_eq_true rfl) ?_
  refine sX11_starBelow_0 ?_
  unfold bX11_starBelow_0
  exact lp_X11_starBelow hd hM v2 hn h90 h n 0 _ _ (by omega) rfl nI_0.symm
theorem lp_X11_starAbove {d rc rs : Nat} {c x : Int32} {σ : XH} {S : SS} {Q : XV → XH → Prop} (hd : 1 ≤ d) (hM : MI σ) (v2 : vp_in c 12) {n : Nat} (hn : S 12 8 = nI n) (h90 : n ≤ 90) (h : Q (vI (sab S c x n)) (up σ S)) : ∀ (m r : Nat) (b k : Int32), r + m = n → b = sab S c x r → k = nI r → Ex d rc rs m_X11_starAbove 5 [vR (some (12, 0)), vI c, vI x, vI b, vI k] [] (up σ S) Q := by
  intro m
  induction m with
  | zero =>
    intro r b k hr hb hk
    have e : r = n := by omega
    subst e hk hb
    refine sX11_starAbove_5 ?_
    unfold bX11_starAbove_5
    rw [hu_12, hn]
    exact br_f (nI_nlt (Nat.le_refl _) (by omega)) h
  | succ m ih =>
    intro r b k hr hb hk
    have hlt : r < n := by omega
    have v1 : vp_in (nI r) 90 := vp_in_nI (by omega) (by omega)
    have hbb : ¬ b < 0 → vp_in b 90 := fun z => by
      rw [hb] at z ⊢
      exact vp_mono (sab_in _ _ _ r (by omega) z) (by omega)
    subst hk
    refine sX11_starAbove_5 ?_
    unfold bX11_starAbove_5
    rw [hu_12, hn]
    refine br_t (nI_lt hlt (by omega)) ⟨by omega, ?_⟩
    have no : ¬ (isStar S (nI r) c ∧ ¬ gS S 123 (nI r) < x ∧ (b < 0 ∨ ¬ gS S 123 b < gS S 123 (nI r))) → Ex d rc rs m_X11_starAbove 58 [vR (some (12, 0)), vI c, vI x, vI b, vI (nI r)] [] (up σ S) Q := fun z => by
      refine sX11_starAbove_58 ?_
      unfold bX11_starAbove_58
      refine ih (r + 1) _ _ (by omega) ?_ (nI_1 r)
      unfold sab
      rw [← hb, if_neg z]
    have yes : (isStar S (nI r) c ∧ ¬ gS S 123 (nI r) < x ∧ (b < 0 ∨ ¬ gS S 123 b < gS S 123 (nI r))) → Ex d rc rs m_X11_starAbove 55 [vR (some (12, 0)), vI c, vI x, vU, vI (nI r)] [] (up σ S) Q := fun z => by
      refine sX11_starAbove_55 ?_
      unfold bX11_starAbove_55
      refine sX11_starAbove_58 ?_
      unfold bX11_starAbove_58
      refine ih (r + 1) _ _ (by omega) ?_ (nI_1 r)
      unfold sab
      rw [← hb, if_pos z]
    refine sp_X11_isStarOf (by omega) hM v1 v2 (fun c1 => ?_) (fun c1 => ?_)
    · refine br_f (by decide) ⟨hM.r123, vp_at hM.n123 v1, ?_⟩
      refine ⟨fun c2 => no (fun z => z.2.1 c2), fun c2 => ⟨fun c3 => yes ⟨c1, c2, Or.inl c3⟩, fun c3 => ⟨hM.r123, vp_at hM.n123 v1, hM.r123, vp_at hM.n123 (hbb c3), ⟨fun c4 => no (fun z => ?_), fun c4 => yes ⟨c1, c2, Or.inr c4⟩⟩⟩⟩⟩
      rcases z.2.2 with q | q
      · exact c3 q
      · exact q c4
    · exact br_t rfl (no (fun z => c1 z.1))
theorem sp_X11_starAbove {d : Nat} {c x : Int32} {σ : XH} {S : SS} {Q : XV → XH → Prop} (hd : 1 ≤ d) (hM : MI σ) (v2 : vp_in c 12) {n : Nat} (hn : S 12 8 = nI n) (h90 : n ≤ 90) (h : Q (vI (sab S c x n)) (up σ S)) : Ec d 0 0 m_X11_starAbove [vR (some (12, 0)), vI c, vI x] (up σ S) Q := by
  refine Ec_of mo_X11_starAbove.1 (Nat.le_of_ble_eq_true rfl) ?_
  refine sX11_starAbove_0 ?_
  unfold bX11_starAbove_0
  exact lp_X11_starAbove hd hM v2 hn h90 h n 0 _ _ (by omega) rfl nI_0.symm
