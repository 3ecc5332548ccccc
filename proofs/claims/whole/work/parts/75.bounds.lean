/-! ===== how large times, longitudes and what is seen can be ===== -/
def Bd (b : Int) (x : Int32) : Prop := x = NOi ∨ (-b ≤ x.toInt ∧ x.toInt ≤ b)
theorem Bd.no (b : Int) : Bd b NOi := Or.inl rfl
theorem tmO_bd (v : Int64) : Bd 2000000 (tmO v) := by
  unfold tmO
  split
  · exact Bd.no _
  · rename_i c
    right
    have e1 : (-2000000 : Int64).toInt = -2000000 := by decide
    have e2 : (2000000 : Int64).toInt = 2000000 := by decide
    rw [fa_lt64, fa_lt64, e1, e2] at c
    rw [Int64.toInt_toInt32, Int.bmod_eq_of_le (by omega) (by omega)]
    omega
theorem tmF_bd (S : SS) (c t : Int32) : Bd 2000000 (tmF S c t) := by
  unfold tmF
  repeat' split
  all_goals first
    | exact Bd.no _
    | exact tmO_bd _
theorem lonA_s (S : SS) (s : Int32) (r : Nat) : lonA S s (r + 1) = if gS S 120 (nI r) = 2 ∧ ¬ 0 < gS S 129 (nI r) ∧ gS S 118 (gS S 121 (nI r)) = s ∧ ¬ tmF S (gS S 121 (nI r)) (gS S 123 (nI r)) = NOi then ((lonA S s r).1 + (tmF S (gS S 121 (nI r)) (gS S 123 (nI r)) - gS S 124 (nI r)).toInt64, (lonA S s r).2 + 1) else lonA S s r := rfl
theorem lonA_bd {S : SS} (hI : SInv S) (s : Int32) : ∀ n, n ≤ nRd S → ∃ k : Nat, k ≤ n ∧ (lonA S s n).2 = nI k ∧ -(3000000 * (k : Int)) ≤ (lonA S s n).1.toInt ∧ (lonA S s n).1.toInt ≤ 3000000 * (k : Int)
  | 0, _ => ⟨0, Nat.le_refl _, rfl, by show -(3000000 * ((0 : Nat) : Int)) ≤ (0 : Int64).toInt; decide, by show (0 : Int64).toInt ≤ 3000000 * ((0 : Nat) : Int); decide⟩
  | r + 1, hr_ => by
    have l8 := hI.l8
    obtain ⟨k, h1, h2, h3, h4⟩ := lonA_bd hI s r (by omega)
    rw [lonA_s]
    split
    · rename_i c
      obtain ⟨c1, -, -, c4⟩ := c
      refine ⟨k + 1, by omega, by rw [h2, nI_1], ?_⟩
      have g : ∀ q, gS S q (nI r) = S q r := fun q => gS_nI S q (by omega)
      obtain ⟨d1, d2, d3, d4, d5, d6, d7, d8, -⟩ := hI.rn (r := r) (by omega)
      rw [g] at c1
      have b1 := tm_rng (d8 (Or.inr c1))
      have b2 := (tmF_bd S (gS S 121 (nI r)) (gS S 123 (nI r))).resolve_left c4
      rw [← g 124] at b1
      generalize tmF S (gS S 121 (nI r)) (gS S 123 (nI r)) = x at *
      generalize gS S 124 (nI r) = y at *
      have e1 : (x - y).toInt = x.toInt - y.toInt := fb_subI (by omega) (by omega)
      have e2 : ((lonA S s r).1 + (x - y).toInt64).toInt = (lonA S s r).1.toInt + (x.toInt - y.toInt) := by
        rw [fb_addL (by rw [Int32.toInt_toInt64, e1]; omega) (by rw [Int32.toInt_toInt64, e1]; omega), Int32.toInt_toInt64, e1]
      show _ ≤ ((lonA S s r).1 + (x - y).toInt64).toInt ∧ ((lonA S s r).1 + (x - y).toInt64).toInt ≤ _
      rw [e2]
      omega
    · exact ⟨k, by omega, h2, h3, h4⟩
theorem lonF_bd {S : SS} (hI : SInv S) (hS : StI S) {s : Int32} (v : vp_in s (nSt S)) : Bd 3000000 (lonF S s) := by
  unfold lonF
  split
  · split
    · exact Bd.no _
    · rename_i c
      right
      have l8 := hI.l8
      obtain ⟨k, h1, h2, h3, h4⟩ := lonA_bd hI s (nRd S) (Nat.le_refl _)
      rw [h2] at c ⊢
      have k0 : 1 ≤ k := by
        rcases Nat.eq_zero_or_pos k with y | y
        · rw [y] at c
          exact absurd rfl c
        · exact y
      have ek : (nI k).toInt64.toInt = k := by rw [Int32.toInt_toInt64, nI_toInt (by omega)]
      have d := dwn_floor (a := (lonA S s (nRd S)).1) (b := (nI k).toInt64) (by rw [ek]; omega)
      rw [ek] at d
      have q1 : -3000000 ≤ (lonA S s (nRd S)).1.toInt / (k : Int) := (Int.le_ediv_iff_mul_le (by omega)).mpr (by omega)
      have q2 : (lonA S s (nRd S)).1.toInt / (k : Int) ≤ 3000000 := by
        have := Int.ediv_le_of_le_mul (a := (lonA S s (nRd S)).1.toInt) (b := 3000000) (c := (k : Int)) (by omega) (by omega)
        exact this
      rw [Int64.toInt_toInt32, d, Int.bmod_eq_of_le (by omega) (by omega)]
      exact ⟨q1, q2⟩
  · rename_i c
    right
    have h := (hS.1 _ (vp_lt v)).1.resolve_left c
    have e1 : (-43200 : Int32).toInt = -43200 := by decide
    have e2 : (43200 : Int32).toInt = 43200 := by decide
    rw [inP_iff, fa_lt, fa_lt, e1, e2] at h
    show -3000000 ≤ (S 116 s.toNatClampNeg).toInt ∧ (S 116 s.toNatClampNeg).toInt ≤ 3000000
    omega
theorem seA_bd {S : SS} (hI : SInv S) (hS : StI S) {c t m : Int32} (v : vp_in c (nCl S)) (hm : -99 ≤ m.toInt ∧ m.toInt ≤ 99) : Bd 6000000 (seA S c t m) := by
  unfold seA
  split
  · exact Bd.no _
  · rename_i h
    right
    have vs := (hI.vc v).1
    have b1 := (tmF_bd S c t).resolve_left (fun y => h (Or.inl y))
    have b2 := (lonF_bd hI hS vs).resolve_left (fun y => h (Or.inr y))
    have h2 := (hS.1 _ (vp_lt vs)).2
    have h3 : inP (gS S 117 (gS S 118 c)) 0 4000 := h2
    have e0 : (0 : Int32).toInt = 0 := by decide
    have e4 : (4000 : Int32).toInt = 4000 := by decide
    have e100 : (100 : Int32).toInt = 100 := by decide
    rw [inP_iff, fa_lt, fa_lt, e0, e4] at h3
    generalize tmF S c t = x at *
    generalize lonF S (gS S 118 c) = y at *
    generalize gS S 117 (gS S 118 c) = z at *
    have d := div_t (a := z) (b := 100) (by decide)
    rw [e100, Int.tdiv_eq_ediv_of_nonneg (by omega)] at d
    have a1 : (x - y).toInt = x.toInt - y.toInt := fb_subI (by omega) (by omega)
    have a2 : (x - y - z / 100).toInt = x.toInt - y.toInt - z.toInt / 100 := by rw [fb_subI (by omega) (by omega), a1, d]
    rw [fb_addI (by omega) (by omega), a2]
    omega
theorem more_bd {S : SS} (hI : SInv S) {r : Int32} (v : vp_in r (nRd S)) : -99 ≤ (if gS S 120 r = 5 then gS S 124 r else 0).toInt ∧ (if gS S 120 r = 5 then gS S 124 r else 0).toInt ≤ 99 := by
  split
  · rename_i c
    obtain ⟨d1, d2, d3, d4, d5, d6, d7, -⟩ := hI.vr v
    have h := d7 c
    have e1 : (-99 : Int32).toInt = -99 := by decide
    have e2 : (99 : Int32).toInt = 99 := by decide
    rw [inP_iff, fa_lt, fa_lt, e1, e2] at h
    omega
  · decide
theorem seO_bd {S : SS} (hI : SInv S) (hS : StI S) {r : Int32} (v : vp_in r (nRd S)) (e : Int32) : Bd 6000000 (seO S r e) := by
  obtain ⟨d1, d2, d3, d4, d5, -⟩ := hI.vr v
  unfold seO
  split
  · rename_i c
    split
    · have v2 : vp_in (gS S 127 r) (nRd S) := vp_mono (d5 c).1 (Nat.le_of_lt (vp_lt v))
      exact seA_bd hI hS (hI.vr v2).2.1 (more_bd hI v2)
    · exact Bd.no _
  · split
    · exact seA_bd hI hS d2 (more_bd hI v)
    · exact Bd.no _
theorem no_toInt : (NOi : Int32).toInt = -1000000000 := by decide
theorem Bd.rng {x : Int32} (h : Bd 6000000 x) : -1000000000 ≤ x.toInt ∧ x.toInt ≤ 6000000 := by
  rcases h with h | h
  · rw [h, no_toInt]
    omega
  · omega
theorem seO_sub {S : SS} (hI : SInv S) (hS : StI S) : ∀ r q : Int32, vp_in r (nRd S) → vp_in q (nRd S) → ¬ seO S r 0 = NOi → ¬ seO S q 0 = NOi → (seO S r 0 - seO S q 0).toInt64 = (seO S r 0).toInt64 - (seO S q 0).toInt64 := fun r q vr vq _ _ => by
  have b1 := (seO_bd hI hS vr 0).rng
  have b2 := (seO_bd hI hS vq 0).rng
  apply Int64.toInt_inj.mp
  rw [Int32.toInt_toInt64, fb_subI (by omega) (by omega), fb_subL (by rw [Int32.toInt_toInt64, Int32.toInt_toInt64]; omega) (by rw [Int32.toInt_toInt64, Int32.toInt_toInt64]; omega), Int32.toInt_toInt64, Int32.toInt_toInt64]
theorem seO_sum {S : SS} (hI : SInv S) (hS : StI S) {r : Int32} (vr : vp_in r (nRd S)) : fdI (seO S r 0 + seO S r 1) 2 = (dwn ((seO S r 0).toInt64 + (seO S r 1).toInt64) 2).toInt32 := by
  have b1 := (seO_bd hI hS vr 0).rng
  have b2 := (seO_bd hI hS vr 1).rng
  generalize seO S r 0 = x at *
  generalize seO S r 1 = y at *
  have e2 : (2 : Int32).toInt = 2 := by decide
  have e2L : (2 : Int64).toInt = 2 := by decide
  apply Int32.toInt_inj.mp
  have d := dwn_floor (a := x.toInt64 + y.toInt64) (b := 2) (by decide)
  rw [fb_addL (by rw [Int32.toInt_toInt64, Int32.toInt_toInt64]; omega) (by rw [Int32.toInt_toInt64, Int32.toInt_toInt64]; omega), Int32.toInt_toInt64, Int32.toInt_toInt64, e2L] at d
  rw [fd_floor (by decide), e2, fb_addI (by omega) (by omega), Int64.toInt_toInt32, d, Int.bmod_eq_of_le (by omega) (by omega)]
