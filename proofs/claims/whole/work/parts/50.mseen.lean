/-! ===== the reference: true time, longitude, what a reading has seen, what a house has ===== -/
theorem sbl_f {S : SS} {c x : Int32} {n : Nat} (hn : n ≤ 90) (h : ¬ sbl S c x n < 0) : ∃ r, r < n ∧ sbl S c x n = nI r ∧ isStar S (nI r) c ∧ ¬ x < S 123 r := by
  rcases sbl_sp S c x n hn with ⟨e, -⟩ | ⟨r, h1, h2, h3, h4, -⟩
  · rw [e] at h
    exact absurd nI_neg1 h
  · exact ⟨r, h1, h2, h3, h4⟩
theorem sab_f {S : SS} {c x : Int32} {n : Nat} (hn : n ≤ 90) (h : ¬ sab S c x n < 0) : ∃ r, r < n ∧ sab S c x n = nI r ∧ isStar S (nI r) c ∧ ¬ S 123 r < x := by
  rcases sab_sp S c x n hn with ⟨e, -⟩ | ⟨r, h1, h2, h3, h4, -⟩
  · rw [e] at h
    exact absurd nI_neg1 h
  · exact ⟨r, h1, h2, h3, h4⟩
theorem SInv.vc {S : SS} (h : SInv S) {c : Int32} (v : vp_in c (nCl S)) : vp_in (gS S 118 c) (nSt S) ∧ inP (gS S 119 c) (-1) 999999 := h.2.2.2.2.2.2.2.2.1 c v
theorem SInv.vr {S : SS} (h : SInv S) {r : Int32} (v : vp_in r (nRd S)) : RdI S r := h.2.2.2.2.2.2.2.2.2 r v
theorem SInv.c12 {S : SS} (h : SInv S) {c : Int32} (v : vp_in c (nCl S)) : vp_in c 12 := vp_mono v h.l2
theorem SInv.r90 {S : SS} (h : SInv S) {c : Int32} (v : vp_in c (nRd S)) : vp_in c 90 := vp_mono v h.l8
theorem SInv.s11 {S : SS} (h : SInv S) {c : Int32} (v : vp_in c (nSt S)) : vp_in c 11 := vp_mono v h.l1
theorem sp_X11_timeOf {d : Nat} {c t : Int32} {σ : XH} {S : SS} {Q : XV → XH → Prop} (hd : 2 ≤ d) (hM : MI σ) (hI : SInv S) (v : vp_in c (nCl S)) (ht : inP t 0 999999) (h : Q (vI (tmF S c t)) (up σ S)) : Ec d 0 0 m_X11_timeOf [vR (some (12, 0)), vI c, vI t] (up σ S) Q := by
  have v12 := hI.c12 v
  have h90 := hI.l8
  have ht' := tm_rng ht
  have rng : ∀ r, r < nRd S → 0 ≤ (S 123 r).toInt ∧ (S 123 r).toInt ≤ 999999 := fun r hlr => tm_rng (hI.r hlr).2.2.2.1
  have f212 : tmF S c t = NOi → Ex d 0 0 m_X11_timeOf 212 [vU, vU, vU, vU, vU, vU, vU] [] (up σ S) Q := fun z => by
    rw [z] at h
    refine sX11_timeOf_212 ?_
    refine sX11_timeOf_221 ?_
    exact h
  have f192 : ∀ q : Int64, tmF S c t = tmO q → Ex d 0 0 m_X11_timeOf 192 [vU, vU, vU, vU, vU, vU, vU] [vL q] (up σ S) Q := fun q hq => by
    have bad : (q < -2000000 ∨ 2000000 < q) → Ex d 0 0 m_X11_timeOf 212 [vU, vU, vU, vU, vU, vU, vU] [] (up σ S) Q := fun z => f212 (by
      rw [hq]
      unfold tmO
      rw [if_pos z])
    refine sX11_timeOf_192 ?_
    unfold bX11_timeOf_192
    refine ⟨fun c => bad (Or.inl ((lgc_lt _ _).mp c)), fun c => ⟨fun c2 => bad (Or.inr ((lgc_gt _ _).mp c2)), fun c2 => ?_⟩⟩
    refine sX11_timeOf_221 ?_
    unfold tmO at hq
    rw [if_neg (fun z => z.elim (fun z => c ((lgc_lt _ _).mpr z)) (fun z => c2 ((lgc_gt _ _).mpr z)))] at hq
    rw [hq] at h
    exact h
  have f111 : ∀ (r : Nat) (b : Int32), r < nRd S → (b = -1 ∨ ∃ q, q < nRd S ∧ b = nI q ∧ (S 123 r).toInt < (S 123 q).toInt) → tmF S c t = tmO (tmV S t (nI r) b) → Ex d 0 0 m_X11_timeOf 111 [vR (some (12, 0)), vU, vI t, vI (nI r), vI b, vU, vU] [] (up σ S) Q := fun r b hlr hb hq => by
    have vr : vp_in (nI r) 90 := vp_in_nI (by omega) (by omega)
    refine sX11_timeOf_111 ?_
    unfold bX11_timeOf_111
    rcases hb with hb | ⟨q, hlq, hb, hlt⟩
    · subst hb
      unfold tmV at hq
      rw [if_pos nI_neg1] at hq
      exact br_t nI_neg1 ⟨hM.r124, vp_at hM.n124 vr, hM.r123, vp_at hM.n123 vr, f192 _ hq⟩
    · subst hb
      have vq : vp_in (nI q) 90 := vp_in_nI (by omega) (by omega)
      unfold tmV at hq
      rw [if_neg (nI_pos (by omega))] at hq
      refine br_f (nI_pos (by omega)) ⟨hM.r124, vp_at hM.n124 vr, hM.r123, vp_at hM.n123 vr, hM.r124, vp_at hM.n124 vq, hM.r124, vp_at hM.n124 vr, hM.r123, vp_at hM.n123 vq, hM.r123, vp_at hM.n123 vr, by omega, ?_⟩
      refine sp_X11_down (by omega) ?_ ?_
      · show ¬ (S 123 (nI q).toNatClampNeg).toInt64 - (S 123 (nI r).toNatClampNeg).toInt64 = 0
        rw [nI_clamp (by omega), nI_clamp (by omega)]
        exact sub64_ne (by rw [fa_lt]; exact hlt)
      · exact f192 _ hq
  have f53 : ∀ a b : Int32, a = sbl S c t (nRd S) → b = sab S c (t + 1) (nRd S) → ¬ (a < 0 ∧ b < 0) → ¬ (¬ gS S 119 c < 0 ∧ gS S 119 c < t) → Ex d 0 0 m_X11_timeOf 53 [vR (some (12, 0)), vI c, vI t, vI a, vI b, vU, vU] [] (up σ S) Q := fun a b ha hb hab hgo => by
    have hF : tmF S c t = if a < 0 then (if b < 0 then NOi else tmO (tmV S t b (sab S c (gS S 123 b + 1) (nRd S)))) else if b < 0 then (if sbl S c (gS S 123 a - 1) (nRd S) < 0 then tmO (tmV S t a (-1)) else tmO (tmV S t (sbl S c (gS S 123 a - 1) (nRd S)) a)) else tmO (tmV S t a b) := by
      subst ha hb
      unfold tmF
      rw [if_neg hgo]
    refine sX11_timeOf_53 ?_
    unfold bX11_timeOf_53
    refine ⟨fun a0 => ?_, fun a0 => ⟨fun b0 => ?_, fun b0 => ?_⟩⟩
    · have b0 : ¬ b < 0 := fun z => hab ⟨a0, z⟩
      rw [if_pos a0, if_neg b0] at hF
      rw [hb] at b0
      obtain ⟨q, q1, q2, q3, q4⟩ := sab_f h90 b0
      rw [← hb] at q2
      subst q2
      have vq : vp_in (nI q) 90 := vp_in_nI (by omega) (by omega)
      refine ⟨hM.r123, vp_at hM.n123 vq, by omega, ?_⟩
      refine sp_X11_starAbove (by omega) hM v12 hI.n8 h90 ?_
      show Ex d 0 0 m_X11_timeOf 111 [vR (some (12, 0)), vU, vI t, vI (nI q), vI (sab S c (gS S 123 (nI q) + 1) (nRd S)), vU, vU] [] (up σ S) Q
      refine f111 q _ q1 ?_ hF
      rw [gS_nI S 123 (by omega)]
      rcases sab_sp S c (S 123 q + 1) (nRd S) h90 with ⟨e, -⟩ | ⟨p, p1, p2, p3, p4, -⟩
      · exact Or.inl e
      · refine Or.inr ⟨p, p1, p2, ?_⟩
        rw [fa_lt, add1_I (rng q q1)] at p4
        omega
    · rw [if_neg a0, if_pos b0] at hF
      rw [ha] at a0
      obtain ⟨q, q1, q2, q3, q4⟩ := sbl_f h90 a0
      rw [← ha] at q2
      subst q2
      have vq : vp_in (nI q) 90 := vp_in_nI (by omega) (by omega)
      refine ⟨hM.r123, vp_at hM.n123 vq, by omega, ?_⟩
      refine sp_X11_starBelow (by omega) hM v12 hI.n8 h90 ?_
      show ((sbl S c (gS S 123 (nI q) - 1) (nRd S) < 0 → _) ∧ (¬ sbl S c (gS S 123 (nI q) - 1) (nRd S) < 0 → _))
      refine ⟨fun z => ?_, fun z => ?_⟩
      · rw [if_pos z] at hF
        exact f111 q _ q1 (Or.inl rfl) hF
      · rw [if_neg z] at hF
        obtain ⟨p, p1, p2, p3, p4⟩ := sbl_f h90 z
        show Ex d 0 0 m_X11_timeOf 111 [vR (some (12, 0)), vU, vI t, vI (sbl S c (gS S 123 (nI q) - 1) (nRd S)), vI (nI q), vU, vU] [] (up σ S) Q
        rw [p2] at hF ⊢
        refine f111 p _ p1 (Or.inr ⟨q, q1, rfl, ?_⟩) hF
        rw [gS_nI S 123 (by omega), fa_lt, sub1_I (rng q q1)] at p4
        omega
    · rw [if_neg a0, if_neg b0] at hF
      rw [ha] at a0
      rw [hb] at b0
      obtain ⟨q, q1, q2, q3, q4⟩ := sbl_f h90 a0
      obtain ⟨p, p1, p2, p3, p4⟩ := sab_f h90 b0
      rw [← ha] at q2
      rw [← hb] at p2
      subst q2 p2
      refine f111 q _ q1 (Or.inr ⟨p, p1, rfl, ?_⟩) hF
      rw [fa_lt] at q4
      rw [fa_lt, add1_I ht'] at p4
      omega
  have f23 : ¬ (¬ gS S 119 c < 0 ∧ gS S 119 c < t) → Ex d 0 0 m_X11_timeOf 23 [vR (some (12, 0)), vI c, vI t, vU, vU, vU, vU] [] (up σ S) Q := fun hgo => by
    refine sX11_timeOf_23 ?_
    unfold bX11_timeOf_23
    refine ⟨by omega, ?_⟩
    refine sp_X11_starBelow (by omega) hM v12 hI.n8 h90 ?_
    refine ⟨by omega, ?_⟩
    refine sp_X11_starAbove (by omega) hM v12 hI.n8 h90 ?_
    refine ⟨fun a0 => ⟨fun b0 => ?_, fun b0 => f53 _ _ rfl rfl (fun z => b0 z.2) hgo⟩, fun a0 => f53 _ _ rfl rfl (fun z => a0 z.1) hgo⟩
    unfold tmF at h
    rw [if_neg hgo, if_pos a0, if_pos b0] at h
    exact h
  refine Ec_of mo_X11_timeOf.1 (Nat.le_of_ble_eq_true rfl) ?_
  refine sX11_timeOf_0 ?_
  unfold bX11_timeOf_0
  refine ⟨hM.r119, vp_at hM.n119 v12, fun z => f23 (fun y => y.1 z), fun z => ⟨hM.r119, vp_at hM.n119 v12, fun z2 => ?_, fun z2 => f23 (fun y => z2 y.2)⟩⟩
  unfold tmF at h
  rw [if_pos ⟨z, z2⟩] at h
  exact h
theorem lp_X11_lon {d rc rs : Nat} {s : Int32} {σ : XH} {S : SS} {Q : XV → XH → Prop} (hd : 3 ≤ d) (hM : MI σ) (hI : SInv S) (h : Q (vI (if (lonA S s (nRd S)).2 = 0 then NOi else (dwn (lonA S s (nRd S)).1 (lonA S s (nRd S)).2.toInt64).toInt32)) (up σ S)) : ∀ (m r : Nat) (a : Int64) (k : Int32), r + m = nRd S → a = (lonA S s r).1 → k = (lonA S s r).2 → Ex d rc rs m_X11_longitudeOf 26 [vR (some (12, 0)), vI s, vL a, vU, vI k, vI (nI r), vU] [] (up σ S) Q := by
  have h90 := hI.l8
  intro m
  induction m with
  | zero =>
    intro r a k hr_ ha hk
    have e : r = nRd S := by omega
    subst ha hk
    rw [e]
    refine sX11_longitudeOf_26 ?_
    unfold bX11_longitudeOf_26
    rw [hu_12, hI.n8]
    refine br_f (nI_nlt (Nat.le_refl _) (by omega)) ⟨fun z => ?_, fun z => ⟨by omega, ?_⟩⟩
    · rw [if_pos z] at h
      refine sX11_longitudeOf_149 ?_
      exact h
    · rw [if_neg z] at h
      refine sp_X11_down (by omega) ?_ ?_
      · intro y
        apply z
        apply Int32.toInt_inj.mp
        have y2 := congrArg Int64.toInt y
        rw [Int32.toInt_toInt64] at y2
        rw [y2]
        decide
      · refine sX11_longitudeOf_149 ?_
        exact h
  | succ m ih =>
    intro r a k hr_ ha hk
    have hlr : r < nRd S := by omega
    have vr : vp_in (nI r) 90 := vp_in_nI (by omega) (by omega)
    have vr2 : vp_in (nI r) (nRd S) := vp_in_nI hlr (by omega)
    obtain ⟨i1, i2, i3, i4, -⟩ := hI.vr vr2
    have vc := hI.c12 i2
    have vs := (hI.vc i2).1
    have no : ¬ (gS S 120 (nI r) = 2 ∧ ¬ 0 < gS S 129 (nI r) ∧ gS S 118 (gS S 121 (nI r)) = s ∧ ¬ tmF S (gS S 121 (nI r)) (gS S 123 (nI r)) = NOi) → Ex d rc rs m_X11_longitudeOf 123 [vR (some (12, 0)), vI s, vL a, vU, vI k, vI (nI r), vU] [] (up σ S) Q := fun z => by
      refine sX11_longitudeOf_123 ?_
      unfold bX11_longitudeOf_123
      rw [nI_1]
      refine ih (r + 1) _ _ (by omega) ?_ ?_
      · unfold lonA
        rw [if_neg z]
        exact ha
      · unfold lonA
        rw [if_neg z]
        exact hk
    refine sX11_longitudeOf_26 ?_
    unfold bX11_longitudeOf_26
    rw [hu_12, hI.n8]
    refine br_t (nI_lt (by omega) (by omega)) ⟨hM.r120, vp_at hM.n120 vr, fun c1 => ⟨hM.r129, vp_at hM.n129 vr, fun c2 => no (fun z => z.2.1 c2), fun c2 => ⟨hM.r118, hM.r121, vp_at hM.n121 vr, vp_at hM.n118 vc, fun c3 => ⟨hM.r121, vp_at hM.n121 vr, hM.r123, vp_at hM.n123 vr, by omega, ?_⟩, fun c3 => no (fun z => c3 z.2.2.1)⟩⟩, fun c1 => no (fun z => c1 z.1)⟩
    refine sp_X11_timeOf (by omega) hM hI i2 i4 ?_
    refine ⟨fun c4 => no (fun z => z.2.2.2 c4), fun c4 => ⟨hM.r124, vp_at hM.n124 vr, ?_⟩⟩
    refine sX11_longitudeOf_123 ?_
    unfold bX11_longitudeOf_123
    rw [nI_1]
    refine ih (r + 1) _ _ (by omega) ?_ ?_
    · unfold lonA
      rw [if_pos ⟨c1, c2, c3, c4⟩, ← ha]
      rfl
    · unfold lonA
      rw [if_pos ⟨c1, c2, c3, c4⟩, ← hk]
theorem sp_X11_longitudeOf {d : Nat} {s : Int32} {σ : XH} {S : SS} {Q : XV → XH → Prop} (hd : 3 ≤ d) (hM : MI σ) (hI : SInv S) (v : vp_in s (nSt S)) (h : Q (vI (lonF S s)) (up σ S)) : Ec d 0 0 m_X11_longitudeOf [vR (some (12, 0)), vI s] (up σ S) Q := by
  have v11 := hI.s11 v
  unfold lonF at h
  refine Ec_of mo_X11_longitudeOf.1 (Nat.le_of_ble_eq_true rfl) ?_
  refine sX11_longitudeOf_0 ?_
  unfold bX11_longitudeOf_0
  refine ⟨hM.r116, vp_at hM.n116 v11, fun c => ?_, fun c => ⟨hM.r116, vp_at hM.n116 v11, ?_⟩⟩
  · have c' : gS S 116 s = 99999 := c
    rw [if_pos c'] at h
    rw [← nI_0]
    exact lp_X11_lon hd hM hI h (nRd S) 0 _ _ (by omega) rfl nI_0
  · have c' : ¬ gS S 116 s = 99999 := c
    rw [if_neg c'] at h
    exact h
theorem sp_X11_seenAt {d : Nat} {c t m : Int32} {σ : XH} {S : SS} {Q : XV → XH → Prop} (hd : 4 ≤ d) (hM : MI σ) (hI : SInv S) (v : vp_in c (nCl S)) (ht : inP t 0 999999) (h : Q (vI (seA S c t m)) (up σ S)) : Ec d 0 0 m_X11_seenAt [vR (some (12, 0)), vI c, vI t, vI m] (up σ S) Q := by
  have v12 := hI.c12 v
  have vs := (hI.vc v).1
  have vs11 := hI.s11 vs
  have none_ : (tmF S c t = NOi ∨ lonF S (gS S 118 c) = NOi) → Ex d 0 0 m_X11_seenAt 36 [vU, vU, vU, vU, vU, vU] [] (up σ S) Q := fun z => by
    unfold seA at h
    rw [if_pos z] at h
    refine sX11_seenAt_36 ?_
    refine sX11_seenAt_64 ?_
    exact h
  refine Ec_of mo_X11_seenAt.1 (Nat.le_of_ble_eq_true rfl) ?_
  refine sX11_seenAt_0 ?_
  unfold bX11_seenAt_0
  refine ⟨by omega, ?_⟩
  refine sp_X11_timeOf (by omega) hM hI v ht ?_
  refine ⟨hM.r118, vp_at hM.n118 v12, by omega, ?_⟩
  refine sp_X11_longitudeOf (by omega) hM hI vs ?_
  refine ⟨fun z => none_ (Or.inl z), fun z => ⟨fun z2 => none_ (Or.inr z2), fun z2 => ⟨hM.r117, hM.r118, vp_at hM.n118 v12, vp_at hM.n117 vs11, by decide, ?_⟩⟩⟩
  refine sX11_seenAt_64 ?_
  unfold seA at h
  rw [if_neg (fun y => y.elim z z2)] at h
  exact h
theorem sp_X11_seenOf {d : Nat} {r e : Int32} {σ : XH} {S : SS} {Q : XV → XH → Prop} (hd : 5 ≤ d) (hM : MI σ) (hI : SInv S) (v : vp_in r (nRd S)) (h : Q (vI (seO S r e)) (up σ S)) : Ec d 0 0 m_X11_seenOf [vR (some (12, 0)), vI r, vI e] (up σ S) Q := by
  have vr := hI.r90 v
  obtain ⟨i1, i2, i3, i4, i5, i6, i7, i8, i9, i10, i11, -⟩ := hI.vr v
  unfold seO at h
  refine Ec_of mo_X11_seenOf.1 (Nat.le_of_ble_eq_true rfl) ?_
  refine sX11_seenOf_0 ?_
  unfold bX11_seenOf_0
  refine ⟨hM.r120, vp_at hM.n120 vr, fun (c6 : gS S 120 r = 6) => ?_, fun (c6 : ¬ gS S 120 r = 6) => ?_⟩
  · obtain ⟨w1, w2⟩ := i5 c6
    have w3 : vp_in (gS S 127 r) (nRd S) := vp_mono w1 (Nat.le_of_lt (vp_lt v))
    have w4 := hI.r90 w3
    obtain ⟨k1, -⟩ := i11 c6
    rw [if_pos c6] at h
    have none_ : ¬ (e = 0 ∧ isSk (gS S 120 (gS S 127 r))) → Ex d 0 0 m_X11_seenOf 35 [vU, vU, vU, vU] [] (up σ S) Q := fun z => by
      rw [if_neg z] at h
      refine sX11_seenOf_35 ?_
      refine sX11_seenOf_77 ?_
      exact h
    refine ⟨hM.r127, vp_at hM.n127 vr, fun e0 => ⟨hM.r120, vp_at hM.n120 w4, by omega, ?_⟩, fun e0 => none_ (fun z => e0 z.1)⟩
    refine sp_X11_isSeenKind (by omega) (fun c => ?_) (fun c => br_t rfl (none_ (fun z => c z.2)))
    rw [if_pos ⟨e0, c⟩] at h
    have fin : ∀ q : Int32, q = (if gS S 120 (gS S 127 r) = 5 then gS S 124 (gS S 127 r) else 0) → Ex d 0 0 m_X11_seenOf 74 [vU, vU, vU, vU] [vI q, vI (gS S 123 r), vI (gS S 121 (gS S 127 r)), vR (some (12, 0))] (up σ S) Q := fun q hq => by
      refine sX11_seenOf_74 ?_
      unfold bX11_seenOf_74
      refine ⟨by omega, ?_⟩
      refine sp_X11_seenAt (by omega) hM hI (by rw [← k1]; exact i2) i4 ?_
      refine sX11_seenOf_77 ?_
      rw [hq]
      exact h
    exact br_f (by decide) ⟨hM.r121, vp_at hM.n121 w4, hM.r123, vp_at hM.n123 vr, hM.r120, vp_at hM.n120 w4, fun (c5 : gS S 120 (gS S 127 r) = 5) => ⟨hM.r124, vp_at hM.n124 w4, fin _ (by rw [if_pos c5]; rfl)⟩, fun (c5 : ¬ gS S 120 (gS S 127 r) = 5) => fin _ (by rw [if_neg c5])⟩
  · rw [if_neg c6] at h
    have none_ : ¬ (isSk (gS S 120 r) ∧ (e = 0 ∨ e = 1 ∧ gS S 120 r = 4)) → Ex d 0 0 m_X11_seenOf 110 [vU, vU, vU, vU] [] (up σ S) Q := fun z => by
      rw [if_neg z] at h
      refine sX11_seenOf_110 ?_
      exact h
    have f114 : isSk (gS S 120 r) → (e = 0 ∨ e = 1 ∧ gS S 120 r = 4) → Ex d 0 0 m_X11_seenOf 114 [vR (some (12, 0)), vI r, vI e, vU] [] (up σ S) Q := fun z1 z2 => by
      rw [if_pos ⟨z1, z2⟩] at h
      have f141 : ∀ t : Int32, inP t 0 999999 → t = (if e = 1 then gS S 124 r else gS S 123 r) → Ex d 0 0 m_X11_seenOf 141 [vR (some (12, 0)), vI r, vU, vU] [vI t, vI (gS S 121 r), vR (some (12, 0))] (up σ S) Q := fun t ht et => by
        have fin : ∀ q : Int32, q = (if gS S 120 r = 5 then gS S 124 r else 0) → Ex d 0 0 m_X11_seenOf 161 [vU, vU, vU, vU] [vI q, vI t, vI (gS S 121 r), vR (some (12, 0))] (up σ S) Q := fun q hq => by
          refine sX11_seenOf_161 ?_
          unfold bX11_seenOf_161
          refine ⟨by omega, ?_⟩
          refine sp_X11_seenAt (by omega) hM hI i2 ht ?_
          rw [hq, et]
          exact h
        refine sX11_seenOf_141 ?_
        unfold bX11_seenOf_141
        exact ⟨hM.r120, vp_at hM.n120 vr, fun (c5 : gS S 120 r = 5) => ⟨hM.r124, vp_at hM.n124 vr, fin _ (by rw [if_pos c5]; rfl)⟩, fun (c5 : ¬ gS S 120 r = 5) => fin _ (by rw [if_neg c5])⟩
      refine sX11_seenOf_114 ?_
      unfold bX11_seenOf_114
      refine ⟨hM.r121, vp_at hM.n121 vr, fun e1 => ⟨hM.r124, vp_at hM.n124 vr, ?_⟩, fun e1 => ⟨hM.r123, vp_at hM.n123 vr, ?_⟩⟩
      · have k4 : gS S 120 r = 4 := by
          rcases z2 with z2 | z2
          · rw [z2] at e1
            exact absurd e1 (by decide)
          · exact z2.2
        exact f141 _ (i6 k4) (by rw [if_pos e1]; rfl)
      · exact f141 _ i4 (by rw [if_neg e1]; rfl)
    refine ⟨hM.r120, vp_at hM.n120 vr, by omega, ?_⟩
    refine sp_X11_isSeenKind (by omega) (fun c => ?_) (fun c => br_t rfl (none_ (fun z => c z.1)))
    exact br_f (by decide) ⟨fun e0 => f114 c (Or.inl e0), fun e0 => ⟨fun e1 => ⟨hM.r120, vp_at hM.n120 vr, fun k4 => f114 c (Or.inr ⟨e1, k4⟩), fun k4 => none_ (fun z => z.2.elim e0 (fun z => k4 z.2))⟩, fun e1 => none_ (fun z => z.2.elim e0 (fun z => e1 z.1))⟩⟩
theorem sp_X11_asOf {d : Nat} {r : Int32} {σ : XH} {S : SS} {Q : XV → XH → Prop} (hd : 6 ≤ d) (hM : MI σ) (hI : SInv S) (v : vp_in r (nRd S)) (h : Q (vI (asO S (S 12 32) r)) (up σ S)) : Ec d 0 0 m_X11_asOf [vR (some (12, 0)), vI r] (up σ S) Q := by
  have vr := hI.r90 v
  unfold asO at h
  refine Ec_of mo_X11_asOf.1 (Nat.le_of_ble_eq_true rfl) ?_
  refine sX11_asOf_0 ?_
  unfold bX11_asOf_0
  refine ⟨by omega, ?_⟩
  refine sp_X11_seenOf (by omega) hM hI v ?_
  refine ⟨hM.r120, vp_at hM.n120 vr, fun (c4 : gS S 120 r = 4) => ⟨by omega, ?_⟩, fun (c4 : ¬ gS S 120 r = 4) => by rw [if_neg c4] at h; exact h⟩
  rw [if_pos c4] at h
  refine sp_X11_seenOf (by omega) hM hI v ?_
  have none_ : (seO S r 0 = NOi ∨ seO S r 1 = NOi) → Ex d 0 0 m_X11_asOf 40 [vU, vU, vU, vU] [] (up σ S) Q := fun z => by
    rw [if_pos z] at h
    refine sX11_asOf_40 ?_
    exact h
  refine ⟨fun z => none_ (Or.inl z), fun z => ⟨fun z2 => none_ (Or.inr z2), fun z2 => ?_⟩⟩
  rw [if_neg (fun y => y.elim z z2)] at h
  refine ⟨fun (b0 : S 12 32 = 0) => ?_, fun (b0 : ¬ S 12 32 = 0) => ⟨fun (b2 : S 12 32 = 2) => ?_, fun (b2 : ¬ S 12 32 = 2) => ⟨by omega, ?_⟩⟩⟩
  · rw [if_pos b0] at h
    refine sX11_asOf_80 ?_
    exact h
  · rw [if_neg b0, if_pos b2] at h
    refine sX11_asOf_80 ?_
    exact h
  · rw [if_neg b0, if_neg b2] at h
    refine sp_X11_down (by omega) (by decide) ?_
    refine sX11_asOf_80 ?_
    exact h
/-- whether a house has a reading, by the first so many letters -/
def hasF (S : SS) (h r day : Int32) : Nat → Int32
  | 0 => 0
  | k + 1 => if gS S 131 (nI k) = h ∧ gS S 130 (nI k) = gS S 118 (gS S 121 r) ∧ ¬ day < gS S 132 (nI k) ∧ ¬ gS S 133 (nI k) < gS S 128 r then (if (0 < gS S 129 r ∧ gS S 129 r < gS S 133 (nI k)) ∨ hasF S h r day k = 2 then 2 else 1) else hasF S h r day k
theorem lp_X11_has {d rc rs : Nat} {a r day : Int32} {σ : XH} {S : SS} {Q : XV → XH → Prop} (hM : MI σ) (hI : SInv S) (v : vp_in r (nRd S)) (h : Q (vI (hasF S a r day (nLe S))) (up σ S)) : ∀ (m k : Nat) (b : Int32), k + m = nLe S → b = hasF S a r day k → Ex d rc rs m_X11_hasIt 6 [vR (some (12, 0)), vI a, vI r, vI day, vI b, vI (nI k)] [] (up σ S) Q := by
  have h60 := hI.l20
  have vr := hI.r90 v
  obtain ⟨i1, i2, -⟩ := hI.vr v
  have vc := hI.c12 i2
  intro m
  induction m with
  | zero =>
    intro k b hk hb
    have e : k = nLe S := by omega
    subst hb
    rw [e]
    refine sX11_hasIt_6 ?_
    unfold bX11_hasIt_6
    rw [hu_12, hI.n20]
    exact br_f (nI_nlt (Nat.le_refl _) (by omega)) h
  | succ m ih =>
    intro k b hk hb
    have vk : vp_in (nI k) 60 := vp_in_nI (by omega) (by omega)
    have no : ¬ (gS S 131 (nI k) = a ∧ gS S 130 (nI k) = gS S 118 (gS S 121 r) ∧ ¬ day < gS S 132 (nI k) ∧ ¬ gS S 133 (nI k) < gS S 128 r) → Ex d rc rs m_X11_hasIt 115 [vR (some (12, 0)), vI a, vI r, vI day, vI b, vI (nI k)] [] (up σ S) Q := fun z => by
      refine sX11_hasIt_115 ?_
      unfold bX11_hasIt_115
      rw [nI_1]
      refine ih (k + 1) _ (by omega) ?_
      unfold hasF
      rw [if_neg z]
      exact hb
    refine sX11_hasIt_6 ?_
    unfold bX11_hasIt_6
    rw [hu_12, hI.n20]
    refine br_t (nI_lt (by omega) (by omega)) ⟨hM.r131, vp_at hM.n131 vk, fun c1 => ⟨hM.r130, vp_at hM.n130 vk, hM.r118, hM.r121, vp_at hM.n121 vr, vp_at hM.n118 vc, fun c2 => ⟨hM.r132, vp_at hM.n132 vk, fun c3 => no (fun z => z.2.2.1 c3), fun c3 => ⟨hM.r133, vp_at hM.n133 vk, hM.r128, vp_at hM.n128 vr, fun c4 => no (fun z => z.2.2.2 c4), fun c4 => ⟨hM.r129, vp_at hM.n129 vr, ?_⟩⟩⟩, fun c2 => no (fun z => c2 z.2.1)⟩, fun c1 => no (fun z => c1 z.1)⟩
    have go : ∀ q : Int32, q = (if (0 < gS S 129 r ∧ gS S 129 r < gS S 133 (nI k)) ∨ b = 2 then 2 else 1) → Ex d rc rs m_X11_hasIt 115 [vR (some (12, 0)), vI a, vI r, vI day, vI q, vI (nI k)] [] (up σ S) Q := fun q hq => by
      refine sX11_hasIt_115 ?_
      unfold bX11_hasIt_115
      rw [nI_1]
      refine ih (k + 1) _ (by omega) ?_
      unfold hasF
      rw [if_pos ⟨c1, c2, c3, c4⟩, ← hb]
      exact hq
    have f108 : ((0 < gS S 129 r ∧ gS S 129 r < gS S 133 (nI k)) ∨ b = 2) → Ex d rc rs m_X11_hasIt 108 [vR (some (12, 0)), vI a, vI r, vI day, vU, vI (nI k)] [] (up σ S) Q := fun z => by
      refine sX11_hasIt_108 ?_
      refine sX11_hasIt_113 ?_
      exact go 2 (by rw [if_pos z])
    have f102 : ¬ (0 < gS S 129 r ∧ gS S 129 r < gS S 133 (nI k)) → Ex d rc rs m_X11_hasIt 102 [vR (some (12, 0)), vI a, vI r, vI day, vI b, vI (nI k)] [] (up σ S) Q := fun z => by
      refine sX11_hasIt_102 ?_
      refine ⟨fun y => f108 (Or.inr y), fun y => ?_⟩
      refine sX11_hasIt_113 ?_
      exact go 1 (by rw [if_neg (fun q => q.elim z y)])
    exact ⟨fun c5 => ⟨hM.r133, vp_at hM.n133 vk, hM.r129, vp_at hM.n129 vr, fun c6 => f108 (Or.inl ⟨c5, c6⟩), fun c6 => f102 (fun z => c6 z.2)⟩, fun c5 => f102 (fun z => c5 z.1)⟩
theorem sp_X11_hasIt {d : Nat} {a r day : Int32} {σ : XH} {S : SS} {Q : XV → XH → Prop} (hM : MI σ) (hI : SInv S) (v : vp_in r (nRd S)) (h : Q (vI (hasF S a r day (nLe S))) (up σ S)) : Ec d 0 0 m_X11_hasIt [vR (some (12, 0)), vI a, vI r, vI day] (up σ S) Q := by
  refine Ec_of mo_X11_hasIt.1 (Nat.le_of_ble_eq_true rfl) ?_
  refine sX11_hasIt_0 ?_
  unfold bX11_hasIt_0
  have g := lp_X11_has (d := d) (rc := 0) (rs := 0) hM hI v h (nLe S) 0 0 (by omega) rfl
  rw [nI_0] at g
  exact g
/-! the calls over these -/
def timeG (S : SS) (c t : Int32) : Int32 := if isCl S c ∧ inP t 0 999999 then tmF S c t else NOi
def longitudeG (S : SS) (s : Int32) : Int32 := if isSt S s then lonF S s else NOi
def seenG (S : SS) (r e : Int32) : Int32 := if isRd S r then seO S r e else NOi
def hasG (S : SS) (h r day : Int32) : Int32 := if inP h 0 2 ∧ isRd S r then (if inP day 0 9999 then hasF S h r day (nLe S) else -2) else -1
theorem SInv.isCl {S : SS} (h : SInv S) {c : Int32} (z : isCl S c) : vp_in c (nCl S) := (inP_nI (by have := h.l2; omega)).mp (by rw [← h.n2]; exact z)
theorem SInv.isSt {S : SS} (h : SInv S) {c : Int32} (z : isSt S c) : vp_in c (nSt S) := (inP_nI (by have := h.l1; omega)).mp (by rw [← h.n1]; exact z)
theorem SInv.isRd {S : SS} (h : SInv S) {c : Int32} (z : isRd S c) : vp_in c (nRd S) := (inP_nI (by have := h.l8; omega)).mp (by rw [← h.n8]; exact z)
theorem sp_X11_time {d : Nat} {c t : Int32} {σ : XH} {S : SS} {Q : XV → XH → Prop} (hd : 3 ≤ d) (hM : MI σ) (hI : SInv S) (h : Q (vI (timeG S c t)) (up σ S)) : Ec d 0 0 m_X11_time [vR (some (12, 0)), vI c, vI t] (up σ S) Q := by
  unfold timeG at h
  have none_ : ¬ (isCl S c ∧ inP t 0 999999) → Ex d 0 0 m_X11_time 25 [vU, vU, vU] [] (up σ S) Q := fun z => by
    rw [if_neg z] at h
    refine sX11_time_25 ?_
    refine sX11_time_28 ?_
    exact h
  refine Ec_of mo_X11_time.1 (Nat.le_of_ble_eq_true rfl) ?_
  refine sX11_time_0 ?_
  unfold bX11_time_0
  refine ⟨by omega, ?_⟩
  refine sp_X11_isClock (by omega) (fun z => br_f (by decide) ⟨by omega, ?_⟩) (fun z => br_t rfl (none_ (fun y => z y.1)))
  refine sp_X11_isTime (by omega) (fun z2 => br_f (by decide) ⟨by omega, ?_⟩) (fun z2 => br_t rfl (none_ (fun y => z2 y.2)))
  rw [if_pos ⟨z, z2⟩] at h
  refine sp_X11_timeOf (by omega) hM hI (hI.isCl z) z2 ?_
  refine sX11_time_28 ?_
  exact h
theorem sp_X11_longitude {d : Nat} {s : Int32} {σ : XH} {S : SS} {Q : XV → XH → Prop} (hd : 4 ≤ d) (hM : MI σ) (hI : SInv S) (h : Q (vI (longitudeG S s)) (up σ S)) : Ec d 0 0 m_X11_longitude [vR (some (12, 0)), vI s] (up σ S) Q := by
  unfold longitudeG at h
  refine Ec_of mo_X11_longitude.1 (Nat.le_of_ble_eq_true rfl) ?_
  refine sX11_longitude_0 ?_
  unfold bX11_longitude_0
  refine ⟨by omega, ?_⟩
  refine sp_X11_isStation (by omega) (fun z => br_f (by decide) ⟨by omega, ?_⟩) (fun z => br_t rfl ?_)
  · rw [if_pos z] at h
    refine sp_X11_longitudeOf (by omega) hM hI (hI.isSt z) ?_
    refine sX11_longitude_19 ?_
    exact h
  · rw [if_neg z] at h
    refine sX11_longitude_19 ?_
    exact h
theorem sp_X11_seen {d : Nat} {r e : Int32} {σ : XH} {S : SS} {Q : XV → XH → Prop} (hd : 6 ≤ d) (hM : MI σ) (hI : SInv S) (h : Q (vI (seenG S r e)) (up σ S)) : Ec d 0 0 m_X11_seen [vR (some (12, 0)), vI r, vI e] (up σ S) Q := by
  unfold seenG at h
  refine Ec_of mo_X11_seen.1 (Nat.le_of_ble_eq_true rfl) ?_
  refine sX11_seen_0 ?_
  unfold bX11_seen_0
  refine ⟨by omega, ?_⟩
  refine sp_X11_isReading (by omega) (fun z => br_f (by decide) ⟨by omega, ?_⟩) (fun z => br_t rfl ?_)
  · rw [if_pos z] at h
    refine sp_X11_seenOf (by omega) hM hI (hI.isRd z) ?_
    refine sX11_seen_20 ?_
    exact h
  · rw [if_neg z] at h
    refine sX11_seen_20 ?_
    exact h
theorem sp_X11_has {d : Nat} {a r day : Int32} {σ : XH} {S : SS} {Q : XV → XH → Prop} (hd : 2 ≤ d) (hM : MI σ) (hI : SInv S) (h : Q (vI (hasG S a r day)) (up σ S)) : Ec d 0 0 m_X11_has [vR (some (12, 0)), vI a, vI r, vI day] (up σ S) Q := by
  unfold hasG at h
  have none_ : ¬ (inP a 0 2 ∧ isRd S r) → Ex d 0 0 m_X11_has 16 [vU, vU, vU, vU] [] (up σ S) Q := fun z => by
    rw [if_neg z] at h
    refine sX11_has_16 ?_
    exact h
  refine Ec_of mo_X11_has.1 (Nat.le_of_ble_eq_true rfl) ?_
  refine sX11_has_0 ?_
  unfold bX11_has_0
  refine ⟨by omega, ?_⟩
  refine sp_X11_isHouse (by omega) (fun z => br_f (by decide) ⟨by omega, ?_⟩) (fun z => br_t rfl (none_ (fun y => z y.1)))
  refine sp_X11_isReading (by omega) (fun z2 => br_f (by decide) ⟨by omega, ?_⟩) (fun z2 => br_t rfl (none_ (fun y => z2 y.2)))
  rw [if_pos ⟨z, z2⟩] at h
  refine sp_X11_isDay (by omega) (fun z3 => br_f (by decide) ⟨by omega, ?_⟩) (fun z3 => br_t rfl ?_)
  · rw [if_pos z3] at h
    refine sp_X11_hasIt hM hI (hI.isRd z2) ?_
    refine sX11_has_38 ?_
    exact h
  · rw [if_neg z3] at h
    refine sX11_has_38 ?_
    exact h
