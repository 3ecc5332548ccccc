/-! ===== true time: the class's sorted stars are the reference's searches ===== -/
theorem nI_neg1 : (-1 : Int32) < 0 := by decide
/-- what the search below finds -/
theorem sbl_sp (S : SS) (c x : Int32) : ∀ n : Nat, n ≤ 90 → (sbl S c x n = -1 ∧ ∀ r, r < n → isStar S (nI r) c → x < S 123 r) ∨ (∃ r, r < n ∧ sbl S c x n = nI r ∧ isStar S (nI r) c ∧ ¬ x < S 123 r ∧ ∀ r', r' < n → isStar S (nI r') c → ¬ x < S 123 r' → ¬ S 123 r < S 123 r' ∧ (S 123 r' = S 123 r → r' ≤ r))
  | 0, _ => Or.inl ⟨rfl, fun r hr => absurd hr (Nat.not_lt_zero r)⟩
  | n + 1, hn => by
    have gn : gS S 123 (nI n) = S 123 n := gS_nI S 123 (by omega)
    unfold sbl
    rcases sbl_sp S c x n (by omega) with ⟨e, ih⟩ | ⟨r, hr, e, hst, hx, ih⟩
    · rw [e]
      by_cases z : isStar S (nI n) c ∧ ¬ x < S 123 n
      · rw [if_pos ⟨z.1, by rw [gn]; exact z.2, Or.inl nI_neg1⟩]
        refine Or.inr ⟨n, by omega, rfl, z.1, z.2, fun r' h1 h2 h3 => ?_⟩
        by_cases e2 : r' = n
        · subst e2
          exact ⟨i_lt_irr _, fun _ => Nat.le_refl _⟩
        · exact absurd (ih r' (by omega) h2) h3
      · rw [if_neg (fun q => z (by rw [gn] at q; exact ⟨q.1, q.2.1⟩))]
        refine Or.inl ⟨rfl, fun r' h1 h2 => ?_⟩
        by_cases e2 : r' = n
        · subst e2
          exact Classical.byContradiction fun q => z ⟨h2, q⟩
        · exact ih r' (by omega) h2
    · have gr : gS S 123 (nI r) = S 123 r := gS_nI S 123 (by omega)
      rw [e]
      by_cases z : isStar S (nI n) c ∧ ¬ x < S 123 n ∧ ¬ S 123 n < S 123 r
      · rw [if_pos ⟨z.1, by rw [gn]; exact z.2.1, Or.inr (by rw [gn, gr]; exact z.2.2)⟩]
        refine Or.inr ⟨n, by omega, rfl, z.1, z.2.1, fun r' h1 h2 h3 => ?_⟩
        by_cases e2 : r' = n
        · subst e2
          exact ⟨i_lt_irr _, fun _ => Nat.le_refl _⟩
        · have i2 := (ih r' (by omega) h2 h3).1
          have z3 := z.2.2
          rw [fa_lt] at *
          exact ⟨by omega, fun _ => by omega⟩
      · rw [if_neg (fun q => z (by rw [gn, gr] at q; exact ⟨q.1, q.2.1, q.2.2.resolve_left (nI_pos (by omega))⟩))]
        refine Or.inr ⟨r, by omega, rfl, hst, hx, fun r' h1 h2 h3 => ?_⟩
        by_cases e2 : r' = n
        · subst e2
          have q : S 123 r' < S 123 r := Classical.byContradiction fun q => z ⟨h2, h3, q⟩
          rw [fa_lt, fa_eq] at *
          exact ⟨by omega, fun _ => by omega⟩
        · exact ih r' (by omega) h2 h3
theorem sab_sp (S : SS) (c x : Int32) : ∀ n : Nat, n ≤ 90 → (sab S c x n = -1 ∧ ∀ r, r < n → isStar S (nI r) c → S 123 r < x) ∨ (∃ r, r < n ∧ sab S c x n = nI r ∧ isStar S (nI r) c ∧ ¬ S 123 r < x ∧ ∀ r', r' < n → isStar S (nI r') c → ¬ S 123 r' < x → ¬ S 123 r' < S 123 r ∧ (S 123 r' = S 123 r → r' ≤ r))
  | 0, _ => Or.inl ⟨rfl, fun r hr => absurd hr (Nat.not_lt_zero r)⟩
  | n + 1, hn => by
    have gn : gS S 123 (nI n) = S 123 n := gS_nI S 123 (by omega)
    unfold sab
    rcases sab_sp S c x n (by omega) with ⟨e, ih⟩ | ⟨r, hr, e, hst, hx, ih⟩
    · rw [e]
      by_cases z : isStar S (nI n) c ∧ ¬ S 123 n < x
      · rw [if_pos ⟨z.1, by rw [gn]; exact z.2, Or.inl nI_neg1⟩]
        refine Or.inr ⟨n, by omega, rfl, z.1, z.2, fun r' h1 h2 h3 => ?_⟩
        by_cases e2 : r' = n
        · subst e2
          exact ⟨i_lt_irr _, fun _ => Nat.le_refl _⟩
        · exact absurd (ih r' (by omega) h2) h3
      · rw [if_neg (fun q => z (by rw [gn] at q; exact ⟨q.1, q.2.1⟩))]
        refine Or.inl ⟨rfl, fun r' h1 h2 => ?_⟩
        by_cases e2 : r' = n
        · subst e2
          exact Classical.byContradiction fun q => z ⟨h2, q⟩
        · exact ih r' (by omega) h2
    · have gr : gS S 123 (nI r) = S 123 r := gS_nI S 123 (by omega)
      rw [e]
      by_cases z : isStar S (nI n) c ∧ ¬ S 123 n < x ∧ ¬ S 123 r < S 123 n
      · rw [if_pos ⟨z.1, by rw [gn]; exact z.2.1, Or.inr (by rw [gn, gr]; exact z.2.2)⟩]
        refine Or.inr ⟨n, by omega, rfl, z.1, z.2.1, fun r' h1 h2 h3 => ?_⟩
        by_cases e2 : r' = n
        · subst e2
          exact ⟨i_lt_irr _, fun _ => Nat.le_refl _⟩
        · have i2 := (ih r' (by omega) h2 h3).1
          have z3 := z.2.2
          rw [fa_lt] at *
          exact ⟨by omega, fun _ => by omega⟩
      · rw [if_neg (fun q => z (by rw [gn, gr] at q; exact ⟨q.1, q.2.1, q.2.2.resolve_left (nI_pos (by omega))⟩))]
        refine Or.inr ⟨r, by omega, rfl, hst, hx, fun r' h1 h2 h3 => ?_⟩
        by_cases e2 : r' = n
        · subst e2
          have q : S 123 r < S 123 r' := Classical.byContradiction fun q => z ⟨h2, h3, q⟩
          rw [fa_lt, fa_eq] at *
          exact ⟨by omega, fun _ => by omega⟩
        · exact ih r' (by omega) h2 h3
/-- n stars with what they show and their true times, for a clock, among the first N readings -/
def StA (a b : Nat → Int32) (n : Nat) (S : SS) (c N : Nat) : Prop := n ≤ 90 ∧ (∀ i j, i < j → j < n → (a i).toInt < (a j).toInt) ∧
  (∀ i, i < n → ∃ r, r < N ∧ isStar S (nI r) (nI c) ∧ S 123 r = a i ∧ S 124 r = b i ∧ ∀ r', r < r' → r' < N → isStar S (nI r') (nI c) → ¬ S 123 r' = a i) ∧
  (∀ r, r < N → isStar S (nI r) (nI c) → ∃ i, i < n ∧ a i = S 123 r)
def Fnd (S : SS) (v : Int32) (c N : Nat) (x y : Int32) : Prop := ∃ r, r < N ∧ v = nI r ∧ isStar S (nI r) (nI c) ∧ S 123 r = x ∧ S 124 r = y
theorem StA.below {a b : Nat → Int32} {n : Nat} {S : SS} {c N : Nat} {x : Int32} (h : StA a b n S c N) (hN : N ≤ 90) {m : Nat} (hm : m ≤ n) (h1 : ∀ i, i < m → ¬ x < a i) (h2 : m < n → x < a m) : (m = 0 → sbl S (nI c) x N = -1) ∧ (0 < m → Fnd S (sbl S (nI c) x N) c N (a (m - 1)) (b (m - 1))) := by
  obtain ⟨hn, hs, h4, h5⟩ := h
  have big : ∀ i, i < n → m ≤ i → x < a i := fun i hi hmi => by
    by_cases e : m = i
    · subst e; exact h2 hi
    · have g1 := h2 (by omega)
      have g2 := hs m i (by omega) hi
      rw [fa_lt] at *
      omega
  rcases sbl_sp S (nI c) x N hN with ⟨e, ih⟩ | ⟨r, hr, e, hst, hx, ih⟩
  · refine ⟨fun _ => e, fun h0 => ?_⟩
    obtain ⟨r, r1, r2, r3, r4, r5⟩ := h4 (m - 1) (by omega)
    have := ih r r1 r2
    rw [r3] at this
    exact absurd this (h1 (m - 1) (by omega))
  · obtain ⟨i, hi, ei⟩ := h5 r hr hst
    have him : i < m := Classical.byContradiction fun q => by
      have := big i hi (by omega)
      rw [ei] at this
      exact hx this
    refine ⟨fun z => by omega, fun h0 => ⟨r, hr, e, hst, ?_⟩⟩
    obtain ⟨q, q1, q2, q3, q4, q5⟩ := h4 (m - 1) (by omega)
    obtain ⟨k1, k2⟩ := ih q q1 q2 (by rw [q3]; exact h1 (m - 1) (by omega))
    have eim : i = m - 1 := Classical.byContradiction fun z => by
      have := hs i (m - 1) (by omega) (by omega)
      rw [q3, ← ei, fa_lt] at k1
      omega
    have es : S 123 r = a (m - 1) := by rw [← ei, eim]
    have eq : q = r := by
      have l1 := k2 (by rw [q3, es])
      by_cases z : q < r
      · exact absurd es (q5 r z hr hst)
      · omega
    rw [eq] at q4
    exact ⟨es, q4⟩
theorem StA.above {a b : Nat → Int32} {n : Nat} {S : SS} {c N : Nat} {x : Int32} (h : StA a b n S c N) (hN : N ≤ 90) {m : Nat} (hm : m ≤ n) (h1 : ∀ i, i < m → a i < x) (h2 : m < n → ¬ a m < x) : (m = n → sab S (nI c) x N = -1) ∧ (m < n → Fnd S (sab S (nI c) x N) c N (a m) (b m)) := by
  obtain ⟨hn, hs, h4, h5⟩ := h
  rcases sab_sp S (nI c) x N hN with ⟨e, ih⟩ | ⟨r, hr, e, hst, hx, ih⟩
  · refine ⟨fun _ => e, fun h0 => ?_⟩
    obtain ⟨r, r1, r2, r3, r4, r5⟩ := h4 m h0
    have := ih r r1 r2
    rw [r3] at this
    exact absurd this (h2 h0)
  · obtain ⟨i, hi, ei⟩ := h5 r hr hst
    have him : m ≤ i := Classical.byContradiction fun q => by
      have := h1 i (by omega)
      rw [ei] at this
      exact hx this
    refine ⟨fun z => by omega, fun h0 => ⟨r, hr, e, hst, ?_⟩⟩
    obtain ⟨q, q1, q2, q3, q4, q5⟩ := h4 m h0
    obtain ⟨k1, k2⟩ := ih q q1 q2 (by rw [q3]; exact h2 h0)
    have eim : i = m := Classical.byContradiction fun z => by
      have := hs m i (by omega) hi
      rw [q3, ← ei, fa_lt] at k1
      omega
    have es : S 123 r = a m := by rw [← ei, eim]
    have eq : q = r := by
      have l1 := k2 (by rw [q3, es])
      by_cases z : q < r
      · exact absurd es (q5 r z hr hst)
      · omega
    rw [eq] at q4
    exact ⟨es, q4⟩
/-- the class's reckoning -/
def tmC (a b : Nat → Int32) (n m : Nat) (x : Int32) : Int32 :=
  if n = 0 then NOi else if n = 1 then tmO ((b 0).toInt64 + x.toInt64 - (a 0).toInt64)
  else let i := if m = 0 then 0 else if m < n then m - 1 else n - 2
    tmO ((b i).toInt64 + fdL ((x - a i).toInt64 * (b (i + 1) - b i).toInt64) (a (i + 1) - a i).toInt64)
theorem i64_sub {x y : Int32} (h1 : -2147483648 ≤ x.toInt - y.toInt) (h2 : x.toInt - y.toInt < 2147483648) : (x - y).toInt64 = x.toInt64 - y.toInt64 := by
  have r1 := fb_rng x
  have r2 := fb_rng y
  apply Int64.toInt_inj.mp
  rw [Int32.toInt_toInt64, fb_subI h1 h2, fb_subL (by rw [Int32.toInt_toInt64, Int32.toInt_toInt64]; omega) (by rw [Int32.toInt_toInt64, Int32.toInt_toInt64]; omega), Int32.toInt_toInt64, Int32.toInt_toInt64]
theorem tdiv_pos (a : Int) {b : Int} (hb : 0 < b) : a.tdiv b = if 0 ≤ a ∨ a % b = 0 then a / b else a / b + 1 := by
  rw [Int.tdiv_eq_ediv]
  by_cases h : 0 ≤ a ∨ b ∣ a
  · rw [if_pos h, if_pos (h.imp id Int.emod_eq_zero_of_dvd), Int.add_zero]
  · rw [if_neg h, if_neg (fun z => h (z.imp id Int.dvd_of_emod_eq_zero)), Int.sign_eq_one_of_pos hb]
theorem ediv_bd (a : Int) {b : Int} (hb : 0 < b) : (0 ≤ a → 0 ≤ a / b ∧ a / b ≤ a ∧ 0 ≤ a / b * b ∧ a / b * b ≤ a) ∧ (a < 0 → a ≤ a / b ∧ a / b < 0 ∧ a / b * b ≤ a ∧ a < a / b * b + b ∧ a / b * b + b ≤ 0) ∧ a / b * b + a % b = a ∧ 0 ≤ a % b ∧ a % b < b := by
  have e := Int.ediv_mul_add_emod a b
  have h1 := Int.emod_nonneg a (b := b) (by omega)
  have h2 := Int.emod_lt_of_pos a hb
  refine ⟨fun ha => ?_, fun ha => ?_, e, h1, h2⟩
  · have k1 := Int.ediv_nonneg ha (Int.le_of_lt hb)
    have k2 := Int.ediv_le_self b ha
    have k3 := Int.mul_nonneg k1 (Int.le_of_lt hb)
    exact ⟨k1, k2, k3, by omega⟩
  · have k1 : a / b < 0 := Int.ediv_neg_of_neg_of_pos ha hb
    have k2 : a ≤ a / b := by
      rw [Int.le_ediv_iff_mul_le hb]
      have := Int.mul_le_mul_of_nonpos_left (a := a) (b := b) (c := 1) (by omega) (by omega)
      omega
    have k3 : (a / b + 1) * b ≤ 0 := Int.mul_nonpos_of_nonpos_of_nonneg (by omega) (by omega)
    rw [Int.add_mul, Int.one_mul] at k3
    exact ⟨k2, k1, by omega, by omega, k3⟩
theorem xor_neg (a b : Int32) (hb : 0 < b.toInt) : (a ^^^ b) < 0 ↔ a.toInt < 0 := by
  have h := BitVec.msb_xor (x := a.toBitVec) (y := b.toBitVec)
  rw [BitVec.msb_eq_toInt, BitVec.msb_eq_toInt, BitVec.msb_eq_toInt] at h
  have e1 : (a.toBitVec ^^^ b.toBitVec).toInt = (a ^^^ b).toInt := rfl
  have e2 : a.toBitVec.toInt = a.toInt := rfl
  have e3 : b.toBitVec.toInt = b.toInt := rfl
  have e4 : decide (b.toInt < 0) = false := decide_eq_false (by omega)
  rw [e1, e2, e3, e4, Bool.xor_false, decide_eq_decide] at h
  have e0 : (0 : Int32).toInt = 0 := by decide
  rw [fa_lt, e0]
  exact h
theorem div_t {a b : Int32} (hb : 0 < b.toInt) : (a / b).toInt = a.toInt.tdiv b.toInt := Int32.toInt_div_of_ne_right a b (fun z => by
  rw [z] at hb
  revert hb
  decide)
theorem fd_floor {a b : Int32} (hb : 0 < b.toInt) : (fdI a b).toInt = a.toInt / b.toInt := by
  have r := fb_rng a
  obtain ⟨k1, k2, k3, k4, k5⟩ := ediv_bd a.toInt hb
  have ed := div_t (a := a) hb
  rw [tdiv_pos _ hb] at ed
  have e1 : (1 : Int32).toInt = 1 := by decide
  unfold fdI
  by_cases ha : 0 ≤ a.toInt
  · rw [if_neg (fun z => by have := (xor_neg a b hb).mp z.1; omega), ed, if_pos (Or.inl ha)]
  · obtain ⟨l1, l2, l3, l4, l5⟩ := k2 (by omega)
    by_cases hm : a.toInt % b.toInt = 0
    · rw [if_pos (Or.inr hm)] at ed
      have hz : a / b * b = a := by
        apply Int32.toInt_inj.mp
        rw [fb_mulI (by rw [ed]; omega) (by rw [ed]; omega), ed]
        omega
      rw [if_neg (fun z => z.2 hz), ed]
    · rw [if_neg (fun z => z.elim ha hm)] at ed
      have em : (a / b * b).toInt = a.toInt / b.toInt * b.toInt + b.toInt := by
        have e2 : (a / b).toInt * b.toInt = a.toInt / b.toInt * b.toInt + b.toInt := by rw [ed, Int.add_mul, Int.one_mul]
        rw [fb_mulI (by rw [e2]; omega) (by rw [e2]; omega), e2]
      have hz : ¬ a / b * b = a := fun z => by
        rw [z] at em
        omega
      rw [if_pos ⟨(xor_neg a b hb).mpr (by omega), hz⟩, fb_subI (by rw [ed, e1]; omega) (by rw [ed, e1]; omega), ed, e1]
      omega
theorem xor_neg64 (a b : Int64) (hb : 0 < b.toInt) : (a ^^^ b) < 0 ↔ a.toInt < 0 := by
  have h := BitVec.msb_xor (x := a.toBitVec) (y := b.toBitVec)
  rw [BitVec.msb_eq_toInt, BitVec.msb_eq_toInt, BitVec.msb_eq_toInt] at h
  have e1 : (a.toBitVec ^^^ b.toBitVec).toInt = (a ^^^ b).toInt := rfl
  have e2 : a.toBitVec.toInt = a.toInt := rfl
  have e3 : b.toBitVec.toInt = b.toInt := rfl
  have e4 : decide (b.toInt < 0) = false := decide_eq_false (by omega)
  rw [e1, e2, e3, e4, Bool.xor_false, decide_eq_decide] at h
  have e0 : (0 : Int64).toInt = 0 := by decide
  rw [fa_lt64, e0]
  exact h
theorem div_t64 {a b : Int64} (hb : 0 < b.toInt) : (a / b).toInt = a.toInt.tdiv b.toInt := Int64.toInt_div_of_ne_right a b (fun z => by
  rw [z] at hb
  revert hb
  decide)
theorem fd_floor64 {a b : Int64} (hb : 0 < b.toInt) : (fdL a b).toInt = a.toInt / b.toInt := by
  have r := fb_rngL a
  obtain ⟨k1, k2, k3, k4, k5⟩ := ediv_bd a.toInt hb
  have ed := div_t64 (a := a) hb
  rw [tdiv_pos _ hb] at ed
  have e1 : (1 : Int64).toInt = 1 := by decide
  unfold fdL
  by_cases ha : 0 ≤ a.toInt
  · rw [if_neg (fun z => by have := (xor_neg64 a b hb).mp z.1; omega), ed, if_pos (Or.inl ha)]
  · obtain ⟨l1, l2, l3, l4, l5⟩ := k2 (by omega)
    by_cases hm : a.toInt % b.toInt = 0
    · rw [if_pos (Or.inr hm)] at ed
      have hz : a / b * b = a := by
        apply Int64.toInt_inj.mp
        rw [fb_mulL (by rw [ed]; omega) (by rw [ed]; omega), ed]
        omega
      rw [if_neg (fun z => z.2 hz), ed]
    · rw [if_neg (fun z => z.elim ha hm)] at ed
      have em : (a / b * b).toInt = a.toInt / b.toInt * b.toInt + b.toInt := by
        have e2 : (a / b).toInt * b.toInt = a.toInt / b.toInt * b.toInt + b.toInt := by rw [ed, Int.add_mul, Int.one_mul]
        rw [fb_mulL (by rw [e2]; omega) (by rw [e2]; omega), e2]
      have hz : ¬ a / b * b = a := fun z => by
        rw [z] at em
        omega
      rw [if_pos ⟨(xor_neg64 a b hb).mpr (by omega), hz⟩, fb_subL (by rw [ed, e1]; omega) (by rw [ed, e1]; omega), ed, e1]
      omega
theorem dwn_floor {a b : Int64} (hb : 0 < b.toInt) : (dwn a b).toInt = a.toInt / b.toInt := by
  have r := fb_rngL a
  obtain ⟨k1, k2, k3, k4, k5⟩ := ediv_bd a.toInt hb
  have ed := div_t64 (a := a) hb
  rw [tdiv_pos _ hb] at ed
  have e1 : (1 : Int64).toInt = 1 := by decide
  unfold dwn
  by_cases hc : 0 ≤ a.toInt ∨ a.toInt % b.toInt = 0
  · rw [if_pos hc] at ed
    have hp : a.toInt / b.toInt * b.toInt ≤ a.toInt ∧ -9223372036854775808 ≤ a.toInt / b.toInt * b.toInt := by
      by_cases ha : 0 ≤ a.toInt
      · have := k1 ha
        omega
      · have := k2 (by omega)
        have := hc.resolve_left ha
        omega
    have hz : ¬ a < a / b * b := by
      rw [fa_lt64, fb_mulL (by rw [ed]; omega) (by rw [ed]; omega), ed]
      omega
    rw [if_neg hz, ed]
  · rw [if_neg hc] at ed
    have ha : a.toInt < 0 := by omega
    obtain ⟨l1, l2, l3, l4, l5⟩ := k2 ha
    have e2 : (a / b).toInt * b.toInt = a.toInt / b.toInt * b.toInt + b.toInt := by rw [ed, Int.add_mul, Int.one_mul]
    have hz : a < a / b * b := by
      rw [fa_lt64, fb_mulL (by rw [e2]; omega) (by rw [e2]; omega), e2]
      omega
    rw [if_pos hz, fb_subL (by rw [ed, e1]; omega) (by rw [ed, e1]; omega), ed, e1]
    omega
theorem fdL_dwn {a b : Int64} (hb : 0 < b.toInt) : fdL a b = dwn a b := Int64.toInt_inj.mp ((fd_floor64 hb).trans (dwn_floor hb).symm)
/-- a time -/
theorem tm_rng {x : Int32} (h : inP x 0 999999) : 0 ≤ x.toInt ∧ x.toInt ≤ 999999 := by
  rw [inP_iff, fa_lt, fa_lt] at h
  have e0 : (0 : Int32).toInt = 0 := by decide
  have e1 : (999999 : Int32).toInt = 999999 := by decide
  omega
theorem tmV_pos {S : SS} {x : Int32} {r q : Nat} (hr : r < 100000) (hq : q < 100000) {a a' b b' : Int32} (e1 : S 123 r = a) (e2 : S 124 r = b) (e3 : S 123 q = a') (e4 : S 124 q = b') (hx : 0 ≤ x.toInt ∧ x.toInt ≤ 999999) (ha : 0 ≤ a.toInt ∧ a.toInt ≤ 999999) (ha' : 0 ≤ a'.toInt ∧ a'.toInt ≤ 999999) (hb : 0 ≤ b.toInt ∧ b.toInt ≤ 999999) (hb' : 0 ≤ b'.toInt ∧ b'.toInt ≤ 999999) (hlt : a.toInt < a'.toInt) :
    tmV S x (nI r) (nI q) = b.toInt64 + fdL ((x - a).toInt64 * (b' - b).toInt64) (a' - a).toInt64 := by
  unfold tmV
  rw [if_neg (nI_pos (by omega)), gS_nI S _ hr, gS_nI S _ hr, gS_nI S _ hq, gS_nI S _ hq, e1, e2, e3, e4, fdL_dwn]
  · rw [i64_sub (by omega) (by omega), i64_sub (by omega) (by omega), i64_sub (by omega) (by omega)]
  · rw [Int32.toInt_toInt64, fb_subI (by omega) (by omega)]
    omega
theorem tmV_neg {S : SS} {x : Int32} {r : Nat} (hr : r < 100000) {a b : Int32} (e1 : S 123 r = a) (e2 : S 124 r = b) : tmV S x (nI r) (-1) = b.toInt64 + x.toInt64 - a.toInt64 := by
  unfold tmV
  rw [if_pos nI_neg1, gS_nI S _ hr, gS_nI S _ hr, e1, e2]
theorem add1_I {x : Int32} (h : 0 ≤ x.toInt ∧ x.toInt ≤ 999999) : (x + 1).toInt = x.toInt + 1 := by
  have e1 : (1 : Int32).toInt = 1 := by decide
  rw [fb_addI (by omega) (by omega), e1]
theorem sub1_I {x : Int32} (h : 0 ≤ x.toInt ∧ x.toInt ≤ 999999) : (x - 1).toInt = x.toInt - 1 := by
  have e1 : (1 : Int32).toInt = 1 := by decide
  rw [fb_subI (by omega) (by omega), e1]
theorem tm_eq {a b : Nat → Int32} {n m c : Nat} {S : SS} {x : Int32} (hI : SInv S) (h : StA a b n S c (nRd S)) (hgo : gS S 119 (nI c) < 0 ∨ ¬ gS S 119 (nI c) < x) (hx : inP x 0 999999) (hm : m ≤ n) (h1 : ∀ i, i < m → ¬ x < a i) (h2 : m < n → x < a m) : tmF S (nI c) x = tmC a b n m x := by
  have hN := hI.l8
  have hx' := tm_rng hx
  have rng : ∀ i, i < n → (0 ≤ (a i).toInt ∧ (a i).toInt ≤ 999999) ∧ (0 ≤ (b i).toInt ∧ (b i).toInt ≤ 999999) := fun i hi => by
    obtain ⟨r, r1, r2, r3, r4, -⟩ := h.2.2.1 i hi
    obtain ⟨-, -, -, j4, -, -, -, j8, -⟩ := hI.r r1
    have k1 : S 120 r = 1 := by
      have := r2.1
      rw [gS_nI S 120 (by omega)] at this
      exact this
    rw [r3] at j4
    have j9 := j8 (Or.inl k1)
    rw [r4] at j9
    exact ⟨tm_rng j4, tm_rng j9⟩
  have sorted := h.2.1
  obtain ⟨B0, B1⟩ := h.below hN hm h1 h2
  have hA1 : ∀ i, i < m → a i < x + 1 := fun i hi => by
    have := h1 i hi
    rw [fa_lt] at this
    rw [fa_lt, add1_I hx']
    omega
  have hA2 : m < n → ¬ a m < x + 1 := fun hi => by
    have := h2 hi
    rw [fa_lt] at this
    rw [fa_lt, add1_I hx']
    omega
  obtain ⟨A0, A1⟩ := h.above hN hm hA1 hA2
  unfold tmF
  rw [if_neg (fun z => hgo.elim (fun q => z.1 q) (fun q => q z.2))]
  unfold tmC
  by_cases hm0 : m = 0
  · rw [B0 hm0, if_pos nI_neg1]
    by_cases hn0 : n = 0
    · rw [A0 (by omega), if_pos nI_neg1, if_pos hn0]
    · obtain ⟨r, r1, r2, r3, r4, r5⟩ := A1 (by omega)
      subst hm0
      rw [r2, if_neg (nI_pos (by omega)), gS_nI S 123 (by omega), r4, if_neg hn0]
      have ra := (rng 0 (by omega)).1
      by_cases hn1 : n = 1
      · obtain ⟨C0, C1⟩ := h.above (x := a 0 + 1) (m := 1) hN (by omega) (fun i hi => by
          have : i = 0 := by omega
          subst this
          rw [fa_lt, add1_I ra]
          omega) (fun z => by omega)
        rw [C0 hn1.symm, if_pos hn1, tmV_neg (by omega) r4 r5]
      · obtain ⟨C0, C1⟩ := h.above (x := a 0 + 1) (m := 1) hN (by omega) (fun i hi => by
          have : i = 0 := by omega
          subst this
          rw [fa_lt, add1_I ra]
          omega) (fun z => by
          have := sorted 0 1 (by omega) z
          rw [fa_lt, add1_I ra]
          omega)
        obtain ⟨q, q1, q2, q3, q4, q5⟩ := C1 (by omega)
        rw [q2, if_neg hn1]
        show _ = tmO ((b 0).toInt64 + fdL ((x - a 0).toInt64 * (b 1 - b 0).toInt64) (a 1 - a 0).toInt64)
        rw [tmV_pos (by omega) (by omega) r4 r5 q4 q5 hx' ra (rng 1 (by omega)).1 (rng 0 (by omega)).2 (rng 1 (by omega)).2 (sorted 0 1 (by omega) (by omega))]
  · obtain ⟨r, r1, r2, r3, r4, r5⟩ := B1 (by omega)
    rw [r2, if_neg (nI_pos (by omega)), if_neg (show ¬ n = 0 by omega)]
    by_cases hmn : m = n
    · subst hmn
      rw [A0 rfl, if_pos nI_neg1, gS_nI S 123 (by omega), r4]
      have ra := (rng (m - 1) (by omega)).1
      obtain ⟨C0, C1⟩ := h.below (x := a (m - 1) - 1) (m := m - 1) hN (by omega) (fun i hi => by
          have := sorted i (m - 1) hi (by omega)
          rw [fa_lt, sub1_I ra]
          omega) (fun z => by
          rw [fa_lt, sub1_I ra]
          omega)
      by_cases hn1 : m = 1
      · subst hn1
        rw [C0 rfl, if_pos nI_neg1, if_pos rfl, tmV_neg (by omega) r4 r5]
      · obtain ⟨q, q1, q2, q3, q4, q5⟩ := C1 (by omega)
        rw [q2, if_neg (nI_pos (by omega)), if_neg hn1]
        have e : (if m = 0 then 0 else if m < m then m - 1 else m - 2) = m - 2 := by rw [if_neg hm0, if_neg (Nat.lt_irrefl m)]
        rw [e]
        have e2 : m - 1 - 1 = m - 2 := by omega
        have e3 : m - 2 + 1 = m - 1 := by omega
        rw [e2] at q4 q5
        show _ = tmO ((b (m - 2)).toInt64 + fdL ((x - a (m - 2)).toInt64 * (b (m - 2 + 1) - b (m - 2)).toInt64) (a (m - 2 + 1) - a (m - 2)).toInt64)
        rw [e3, tmV_pos (by omega) (by omega) q4 q5 r4 r5 hx' (rng (m - 2) (by omega)).1 ra (rng (m - 2) (by omega)).2 (rng (m - 1) (by omega)).2 (sorted _ _ (by omega) (by omega))]
    · obtain ⟨q, q1, q2, q3, q4, q5⟩ := A1 (by omega)
      rw [q2, if_neg (nI_pos (by omega)), if_neg (show ¬ n = 1 by omega)]
      have e : (if m = 0 then 0 else if m < n then m - 1 else n - 2) = m - 1 := by rw [if_neg hm0, if_pos (by omega)]
      rw [e]
      have e3 : m - 1 + 1 = m := by omega
      show _ = tmO ((b (m - 1)).toInt64 + fdL ((x - a (m - 1)).toInt64 * (b (m - 1 + 1) - b (m - 1)).toInt64) (a (m - 1 + 1) - a (m - 1)).toInt64)
      rw [e3, tmV_pos (by omega) (by omega) r4 r5 q4 q5 hx' (rng (m - 1) (by omega)).1 (rng m (by omega)).1 (rng (m - 1) (by omega)).2 (rng m (by omega)).2 (sorted _ _ (by omega) (by omega))]
