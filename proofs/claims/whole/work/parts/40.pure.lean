/-! ===== the heap's algebra ===== -/
theorem fa_lt (a b : Int32) : a < b ↔ a.toInt < b.toInt := Int32.lt_iff_toInt_lt
theorem fa_le (a b : Int32) : a ≤ b ↔ a.toInt ≤ b.toInt := Int32.le_iff_toInt_le
theorem fa_eq (a b : Int32) : a = b ↔ a.toInt = b.toInt := Int32.toInt_inj.symm
theorem fa_lt64 (a b : Int64) : a < b ↔ a.toInt < b.toInt := Int64.lt_iff_toInt_lt
theorem fa_le64 (a b : Int64) : a ≤ b ↔ a.toInt ≤ b.toInt := Int64.le_iff_toInt_le
theorem fa_eq64 (a b : Int64) : a = b ↔ a.toInt = b.toInt := Int64.toInt_inj.symm
theorem fb_rng (x : Int32) : -2147483648 ≤ x.toInt ∧ x.toInt < 2147483648 := by
  have h1 := Int32.le_toInt x
  have h2 := Int32.toInt_lt x
  omega
theorem fb_bmod {z : Int} (h1 : -2147483648 ≤ z) (h2 : z < 2147483648) : z.bmod (2 ^ 32) = z := by
  rw [Int.bmod_eq_of_le (by omega) (by omega)]
theorem fb_addI {x y : Int32} (h1 : -2147483648 ≤ x.toInt + y.toInt) (h2 : x.toInt + y.toInt < 2147483648) : (x + y).toInt = x.toInt + y.toInt := by
  rw [Int32.toInt_add, fb_bmod h1 h2]
theorem fb_subI {x y : Int32} (h1 : -2147483648 ≤ x.toInt - y.toInt) (h2 : x.toInt - y.toInt < 2147483648) : (x - y).toInt = x.toInt - y.toInt := by
  rw [Int32.toInt_sub, fb_bmod h1 h2]
theorem fb_mulI {x y : Int32} (h1 : -2147483648 ≤ x.toInt * y.toInt) (h2 : x.toInt * y.toInt < 2147483648) : (x * y).toInt = x.toInt * y.toInt := by
  rw [Int32.toInt_mul, fb_bmod h1 h2]
theorem fb_negI {x : Int32} (h : x.toInt ≠ -2147483648) : (-x).toInt = -x.toInt := by
  have := fb_rng x
  rw [Int32.toInt_neg, fb_bmod (by omega) (by omega)]
theorem fb_ofI {z : Int} (h1 : -2147483648 ≤ z) (h2 : z < 2147483648) : (Int32.ofInt z).toInt = z := by
  rw [Int32.toInt_ofInt, fb_bmod h1 h2]
theorem fb_asI (x : Int32) : Int32.ofInt x.toInt = x := Int32.ofInt_toInt x
theorem fb_rngL (x : Int64) : -9223372036854775808 ≤ x.toInt ∧ x.toInt < 9223372036854775808 := by
  have h1 := Int64.le_toInt x
  have h2 := Int64.toInt_lt x
  omega
theorem fb_bmodL {z : Int} (h1 : -9223372036854775808 ≤ z) (h2 : z < 9223372036854775808) : z.bmod (2 ^ 64) = z := by
  rw [Int.bmod_eq_of_le (by omega) (by omega)]
theorem fb_addL {x y : Int64} (h1 : -9223372036854775808 ≤ x.toInt + y.toInt) (h2 : x.toInt + y.toInt < 9223372036854775808) : (x + y).toInt = x.toInt + y.toInt := by
  rw [Int64.toInt_add, fb_bmodL h1 h2]
theorem fb_subL {x y : Int64} (h1 : -9223372036854775808 ≤ x.toInt - y.toInt) (h2 : x.toInt - y.toInt < 9223372036854775808) : (x - y).toInt = x.toInt - y.toInt := by
  rw [Int64.toInt_sub, fb_bmodL h1 h2]
theorem fb_mulL {x y : Int64} (h1 : -9223372036854775808 ≤ x.toInt * y.toInt) (h2 : x.toInt * y.toInt < 9223372036854775808) : (x * y).toInt = x.toInt * y.toInt := by
  rw [Int64.toInt_mul, fb_bmodL h1 h2]
theorem hi_wI_ne (σ : XH) {s s' : Nat} (i k : Nat) (x : Int32) (h : s' ≠ s) : hi (wI σ s i k x) s' = hi σ s' := funext fun i' => funext fun k' => by
  show (if s' = s ∧ _ then x else _) = _
  rw [if_neg]
  · rfl
  · rintro ⟨rfl, -⟩
    exact h rfl
theorem hi_wI_at (σ : XH) (s i k : Nat) (x : Int32) (i' k' : Nat) : hi (wI σ s i k x) s i' k' = if i' = i ∧ k' = k then x else hi σ s i' k' := by
  show (if s = s ∧ i' = i ∧ k' = k then x else σ.2.2.1 s i' k') = _
  simp only [true_and]
  rfl
theorem hi_wI_eq (σ : XH) (s i k : Nat) (x : Int32) : hi (wI σ s i k x) s i k = x := by rw [hi_wI_at, if_pos ⟨rfl, rfl⟩]
theorem hi_wI_k (σ : XH) (s i k : Nat) (x : Int32) {i' k' : Nat} (h : k' ≠ k) : hi (wI σ s i k x) s i' k' = hi σ s i' k' := by rw [hi_wI_at, if_neg]; exact fun z => h z.2
theorem hi_wI_i (σ : XH) (s i k : Nat) (x : Int32) {i' k' : Nat} (h : i' ≠ i) : hi (wI σ s i k x) s i' k' = hi σ s i' k' := by rw [hi_wI_at, if_neg]; exact fun z => h z.1
theorem hr_wR_ne (σ : XH) {s s' : Nat} (i k : Nat) (x : Option XO) (h : s' ≠ s) : hr (wR σ s i k x) s' = hr σ s' := funext fun i' => funext fun k' => by
  show (if s' = s ∧ _ then x else _) = _
  rw [if_neg]
  · rfl
  · rintro ⟨rfl, -⟩
    exact h rfl
theorem hr_wR_at (σ : XH) (s i k : Nat) (x : Option XO) (i' k' : Nat) : hr (wR σ s i k x) s i' k' = if i' = i ∧ k' = k then x else hr σ s i' k' := by
  show (if s = s ∧ i' = i ∧ k' = k then x else σ.2.2.2.2 s i' k') = _
  simp only [true_and]
  rfl
theorem hr_wR_eq (σ : XH) (s i k : Nat) (x : Option XO) : hr (wR σ s i k x) s i k = x := by rw [hr_wR_at, if_pos ⟨rfl, rfl⟩]
theorem hl_wL_ne (σ : XH) {s s' : Nat} (i k : Nat) (x : Int64) (h : s' ≠ s) : hl (wL σ s i k x) s' = hl σ s' := funext fun i' => funext fun k' => by
  show (if s' = s ∧ _ then x else _) = _
  rw [if_neg]
  · rfl
  · rintro ⟨rfl, -⟩
    exact h rfl
theorem hl_wL_at (σ : XH) (s i k : Nat) (x : Int64) (i' k' : Nat) : hl (wL σ s i k x) s i' k' = if i' = i ∧ k' = k then x else hl σ s i' k' := by
  show (if s = s ∧ i' = i ∧ k' = k then x else σ.2.2.2.1 s i' k') = _
  simp only [true_and]
  rfl
theorem hl_wL_eq (σ : XH) (s i k : Nat) (x : Int64) : hl (wL σ s i k x) s i k = x := by rw [hl_wL_at, if_pos ⟨rfl, rfl⟩]
theorem hl_wL_k (σ : XH) (s i k : Nat) (x : Int64) {i' k' : Nat} (h : k' ≠ k) : hl (wL σ s i k x) s i' k' = hl σ s i' k' := by rw [hl_wL_at, if_neg]; exact fun z => h z.2
theorem hc_wI (σ : XH) (s i k : Nat) (x : Int32) : hc (wI σ s i k x) = hc σ := rfl
theorem hn_wI (σ : XH) (s i k : Nat) (x : Int32) : hn (wI σ s i k x) = hn σ := rfl
theorem hl_wI (σ : XH) (s i k : Nat) (x : Int32) : hl (wI σ s i k x) = hl σ := rfl
theorem hr_wI (σ : XH) (s i k : Nat) (x : Int32) : hr (wI σ s i k x) = hr σ := rfl
theorem hc_wL (σ : XH) (s i k : Nat) (x : Int64) : hc (wL σ s i k x) = hc σ := rfl
theorem hn_wL (σ : XH) (s i k : Nat) (x : Int64) : hn (wL σ s i k x) = hn σ := rfl
theorem hi_wL (σ : XH) (s i k : Nat) (x : Int64) : hi (wL σ s i k x) = hi σ := rfl
theorem hr_wL (σ : XH) (s i k : Nat) (x : Int64) : hr (wL σ s i k x) = hr σ := rfl
theorem hc_wR (σ : XH) (s i k : Nat) (x : Option XO) : hc (wR σ s i k x) = hc σ := rfl
theorem hn_wR (σ : XH) (s i k : Nat) (x : Option XO) : hn (wR σ s i k x) = hn σ := rfl
theorem hi_wR (σ : XH) (s i k : Nat) (x : Option XO) : hi (wR σ s i k x) = hi σ := rfl
theorem hl_wR (σ : XH) (s i k : Nat) (x : Option XO) : hl (wR σ s i k x) = hl σ := rfl
theorem hn_nwO (σ : XH) (s : Nat) : hn (nwO σ s) = hn σ := rfl
theorem hi_nwO (σ : XH) (s : Nat) : hi (nwO σ s) = hi σ := rfl
theorem hl_nwO (σ : XH) (s : Nat) : hl (nwO σ s) = hl σ := rfl
theorem hr_nwO (σ : XH) (s : Nat) : hr (nwO σ s) = hr σ := rfl
theorem hi_nwA (σ : XH) (s n : Nat) : hi (nwA σ s n) = hi σ := rfl
theorem hl_nwA (σ : XH) (s n : Nat) : hl (nwA σ s n) = hl σ := rfl
theorem hr_nwA (σ : XH) (s n : Nat) : hr (nwA σ s n) = hr σ := rfl
theorem hc_cpI (σ : XH) (o : XO) (a : Nat) (q : XO) (b n : Nat) : hc (cpI σ o a q b n) = hc σ := rfl
theorem hn_cpI (σ : XH) (o : XO) (a : Nat) (q : XO) (b n : Nat) : hn (cpI σ o a q b n) = hn σ := rfl
theorem hl_cpI (σ : XH) (o : XO) (a : Nat) (q : XO) (b n : Nat) : hl (cpI σ o a q b n) = hl σ := rfl
theorem hr_cpI (σ : XH) (o : XO) (a : Nat) (q : XO) (b n : Nat) : hr (cpI σ o a q b n) = hr σ := rfl
theorem hc_cpR (σ : XH) (o : XO) (a : Nat) (q : XO) (b n : Nat) : hc (cpR σ o a q b n) = hc σ := rfl
theorem hn_cpR (σ : XH) (o : XO) (a : Nat) (q : XO) (b n : Nat) : hn (cpR σ o a q b n) = hn σ := rfl
theorem hi_cpR (σ : XH) (o : XO) (a : Nat) (q : XO) (b n : Nat) : hi (cpR σ o a q b n) = hi σ := rfl
theorem hl_cpR (σ : XH) (o : XO) (a : Nat) (q : XO) (b n : Nat) : hl (cpR σ o a q b n) = hl σ := rfl
theorem hc_nwO (σ : XH) (s t : Nat) : hc (nwO σ s) t = if t = s then hc σ s + 1 else hc σ t := rfl
theorem hc_nwA (σ : XH) (s n t : Nat) : hc (nwA σ s n) t = if t = s then hc σ s + 1 else hc σ t := rfl
theorem hn_nwA (σ : XH) (s n t i : Nat) : hn (nwA σ s n) t i = if t = s ∧ i = hc σ s then n else hn σ t i := rfl
theorem drf_lit (ci i : Nat) (K : Nat → Prop) : drf (some (ci, i)) ci K = K i := by
  show (bif Nat.beq ci ci then K i else False) = K i
  rw [show Nat.beq ci ci = true from Nat.beq_refl ci]
  rfl
theorem arf_lit (o : XO) (K : XO → Prop) : arf (some o) K = K o := rfl
theorem cst_lit (ci i : Nat) (K : Option XO → Prop) : cst (some (ci, i)) ci K = K (some (ci, i)) := by
  show (bif Nat.beq ci ci then K (some (ci, i)) else False) = K (some (ci, i))
  rw [show Nat.beq ci ci = true from Nat.beq_refl ci]
  rfl
theorem lgc_lt (a b : Int64) : lg_cmp a b < 0 ↔ a < b := by
  unfold lg_cmp
  split
  · rename_i h
    simp only [fa_lt64] at *
    exact ⟨fun z => absurd z (by decide), fun z => by omega⟩
  · rename_i h
    split
    · rename_i h2
      subst h2
      exact ⟨fun z => absurd z (by decide), fun z => absurd z h⟩
    · rename_i h2
      refine ⟨fun _ => ?_, fun _ => by decide⟩
      simp only [fa_lt64, fa_eq64] at *
      omega
theorem lgc_gt (a b : Int64) : 0 < lg_cmp a b ↔ b < a := by
  unfold lg_cmp
  split
  · rename_i h
    exact ⟨fun _ => h, fun _ => by decide⟩
  · rename_i h
    split
    · rename_i h2
      exact ⟨fun z => absurd z (by decide), fun z => absurd z h⟩
    · exact ⟨fun z => absurd z (by decide), fun z => absurd z h⟩
theorem lgc_eq (a b : Int64) : lg_cmp a b = 0 ↔ a = b := by
  unfold lg_cmp
  split
  · rename_i h
    refine ⟨fun z => absurd z (by decide), fun z => ?_⟩
    subst z
    exact absurd h (by simp only [fa_lt64]; omega)
  · split
    · rename_i h2
      exact ⟨fun _ => h2, fun _ => rfl⟩
    · rename_i h2
      exact ⟨fun z => absurd z (by decide), fun z => absurd z h2⟩
/-! ===== the reference: its arrays are where they are ===== -/
def mLk : List (Nat × Nat × Nat) := [(4, 116, 11), (5, 117, 11), (6, 118, 12), (7, 119, 12), (9, 120, 90), (10, 121, 90), (11, 122, 90), (12, 123, 90), (13, 124, 90), (14, 125, 90), (15, 126, 90), (16, 127, 90), (17, 128, 90), (18, 129, 90), (21, 130, 60), (22, 131, 60), (23, 132, 60), (24, 133, 60), (27, 134, 12), (28, 135, 12), (29, 136, 1820), (30, 137, 13), (38, 138, 6), (39, 139, 5), (44, 140, 141), (45, 300, 141), (50, 141, 90), (51, 142, 90), (52, 143, 90), (53, 144, 90), (54, 301, 90), (55, 145, 5), (56, 146, 44), (60, 147, 9), (61, 148, 9), (62, 149, 9), (64, 150, 20), (65, 151, 6), (66, 152, 6), (67, 153, 360), (68, 154, 60)]
def MI (σ : XH) : Prop := ∀ q ∈ mLk, hr σ 12 0 q.1 = some (q.2.1, 0) ∧ hn σ q.2.1 0 = q.2.2
theorem MI.r116 {σ : XH} (h : MI σ) : hr σ 12 0 4 = some (116, 0) := (h (4, 116, 11) (by decide)).1
theorem MI.n116 {σ : XH} (h : MI σ) : hn σ 116 0 = 11 := (h (4, 116, 11) (by decide)).2
theorem MI.r117 {σ : XH} (h : MI σ) : hr σ 12 0 5 = some (117, 0) := (h (5, 117, 11) (by decide)).1
theorem MI.n117 {σ : XH} (h : MI σ) : hn σ 117 0 = 11 := (h (5, 117, 11) (by decide)).2
theorem MI.r118 {σ : XH} (h : MI σ) : hr σ 12 0 6 = some (118, 0) := (h (6, 118, 12) (by decide)).1
theorem MI.n118 {σ : XH} (h : MI σ) : hn σ 118 0 = 12 := (h (6, 118, 12) (by decide)).2
theorem MI.r119 {σ : XH} (h : MI σ) : hr σ 12 0 7 = some (119, 0) := (h (7, 119, 12) (by decide)).1
theorem MI.n119 {σ : XH} (h : MI σ) : hn σ 119 0 = 12 := (h (7, 119, 12) (by decide)).2
theorem MI.r120 {σ : XH} (h : MI σ) : hr σ 12 0 9 = some (120, 0) := (h (9, 120, 90) (by decide)).1
theorem MI.n120 {σ : XH} (h : MI σ) : hn σ 120 0 = 90 := (h (9, 120, 90) (by decide)).2
theorem MI.r121 {σ : XH} (h : MI σ) : hr σ 12 0 10 = some (121, 0) := (h (10, 121, 90) (by decide)).1
theorem MI.n121 {σ : XH} (h : MI σ) : hn σ 121 0 = 90 := (h (10, 121, 90) (by decide)).2
theorem MI.r122 {σ : XH} (h : MI σ) : hr σ 12 0 11 = some (122, 0) := (h (11, 122, 90) (by decide)).1
theorem MI.n122 {σ : XH} (h : MI σ) : hn σ 122 0 = 90 := (h (11, 122, 90) (by decide)).2
theorem MI.r123 {σ : XH} (h : MI σ) : hr σ 12 0 12 = some (123, 0) := (h (12, 123, 90) (by decide)).1
theorem MI.n123 {σ : XH} (h : MI σ) : hn σ 123 0 = 90 := (h (12, 123, 90) (by decide)).2
theorem MI.r124 {σ : XH} (h : MI σ) : hr σ 12 0 13 = some (124, 0) := (h (13, 124, 90) (by decide)).1
theorem MI.n124 {σ : XH} (h : MI σ) : hn σ 124 0 = 90 := (h (13, 124, 90) (by decide)).2
theorem MI.r125 {σ : XH} (h : MI σ) : hr σ 12 0 14 = some (125, 0) := (h (14, 125, 90) (by decide)).1
theorem MI.n125 {σ : XH} (h : MI σ) : hn σ 125 0 = 90 := (h (14, 125, 90) (by decide)).2
theorem MI.r126 {σ : XH} (h : MI σ) : hr σ 12 0 15 = some (126, 0) := (h (15, 126, 90) (by decide)).1
theorem MI.n126 {σ : XH} (h : MI σ) : hn σ 126 0 = 90 := (h (15, 126, 90) (by decide)).2
theorem MI.r127 {σ : XH} (h : MI σ) : hr σ 12 0 16 = some (127, 0) := (h (16, 127, 90) (by decide)).1
theorem MI.n127 {σ : XH} (h : MI σ) : hn σ 127 0 = 90 := (h (16, 127, 90) (by decide)).2
theorem MI.r128 {σ : XH} (h : MI σ) : hr σ 12 0 17 = some (128, 0) := (h (17, 128, 90) (by decide)).1
theorem MI.n128 {σ : XH} (h : MI σ) : hn σ 128 0 = 90 := (h (17, 128, 90) (by decide)).2
theorem MI.r129 {σ : XH} (h : MI σ) : hr σ 12 0 18 = some (129, 0) := (h (18, 129, 90) (by decide)).1
theorem MI.n129 {σ : XH} (h : MI σ) : hn σ 129 0 = 90 := (h (18, 129, 90) (by decide)).2
theorem MI.r130 {σ : XH} (h : MI σ) : hr σ 12 0 21 = some (130, 0) := (h (21, 130, 60) (by decide)).1
theorem MI.n130 {σ : XH} (h : MI σ) : hn σ 130 0 = 60 := (h (21, 130, 60) (by decide)).2
theorem MI.r131 {σ : XH} (h : MI σ) : hr σ 12 0 22 = some (131, 0) := (h (22, 131, 60) (by decide)).1
theorem MI.n131 {σ : XH} (h : MI σ) : hn σ 131 0 = 60 := (h (22, 131, 60) (by decide)).2
theorem MI.r132 {σ : XH} (h : MI σ) : hr σ 12 0 23 = some (132, 0) := (h (23, 132, 60) (by decide)).1
theorem MI.n132 {σ : XH} (h : MI σ) : hn σ 132 0 = 60 := (h (23, 132, 60) (by decide)).2
theorem MI.r133 {σ : XH} (h : MI σ) : hr σ 12 0 24 = some (133, 0) := (h (24, 133, 60) (by decide)).1
theorem MI.n133 {σ : XH} (h : MI σ) : hn σ 133 0 = 60 := (h (24, 133, 60) (by decide)).2
theorem MI.r134 {σ : XH} (h : MI σ) : hr σ 12 0 27 = some (134, 0) := (h (27, 134, 12) (by decide)).1
theorem MI.n134 {σ : XH} (h : MI σ) : hn σ 134 0 = 12 := (h (27, 134, 12) (by decide)).2
theorem MI.r135 {σ : XH} (h : MI σ) : hr σ 12 0 28 = some (135, 0) := (h (28, 135, 12) (by decide)).1
theorem MI.n135 {σ : XH} (h : MI σ) : hn σ 135 0 = 12 := (h (28, 135, 12) (by decide)).2
theorem MI.r136 {σ : XH} (h : MI σ) : hr σ 12 0 29 = some (136, 0) := (h (29, 136, 1820) (by decide)).1
theorem MI.n136 {σ : XH} (h : MI σ) : hn σ 136 0 = 1820 := (h (29, 136, 1820) (by decide)).2
theorem MI.r137 {σ : XH} (h : MI σ) : hr σ 12 0 30 = some (137, 0) := (h (30, 137, 13) (by decide)).1
theorem MI.n137 {σ : XH} (h : MI σ) : hn σ 137 0 = 13 := (h (30, 137, 13) (by decide)).2
theorem MI.r138 {σ : XH} (h : MI σ) : hr σ 12 0 38 = some (138, 0) := (h (38, 138, 6) (by decide)).1
theorem MI.n138 {σ : XH} (h : MI σ) : hn σ 138 0 = 6 := (h (38, 138, 6) (by decide)).2
theorem MI.r139 {σ : XH} (h : MI σ) : hr σ 12 0 39 = some (139, 0) := (h (39, 139, 5) (by decide)).1
theorem MI.n139 {σ : XH} (h : MI σ) : hn σ 139 0 = 5 := (h (39, 139, 5) (by decide)).2
theorem MI.r140 {σ : XH} (h : MI σ) : hr σ 12 0 44 = some (140, 0) := (h (44, 140, 141) (by decide)).1
theorem MI.n140 {σ : XH} (h : MI σ) : hn σ 140 0 = 141 := (h (44, 140, 141) (by decide)).2
theorem MI.r300 {σ : XH} (h : MI σ) : hr σ 12 0 45 = some (300, 0) := (h (45, 300, 141) (by decide)).1
theorem MI.n300 {σ : XH} (h : MI σ) : hn σ 300 0 = 141 := (h (45, 300, 141) (by decide)).2
theorem MI.r141 {σ : XH} (h : MI σ) : hr σ 12 0 50 = some (141, 0) := (h (50, 141, 90) (by decide)).1
theorem MI.n141 {σ : XH} (h : MI σ) : hn σ 141 0 = 90 := (h (50, 141, 90) (by decide)).2
theorem MI.r142 {σ : XH} (h : MI σ) : hr σ 12 0 51 = some (142, 0) := (h (51, 142, 90) (by decide)).1
theorem MI.n142 {σ : XH} (h : MI σ) : hn σ 142 0 = 90 := (h (51, 142, 90) (by decide)).2
theorem MI.r143 {σ : XH} (h : MI σ) : hr σ 12 0 52 = some (143, 0) := (h (52, 143, 90) (by decide)).1
theorem MI.n143 {σ : XH} (h : MI σ) : hn σ 143 0 = 90 := (h (52, 143, 90) (by decide)).2
theorem MI.r144 {σ : XH} (h : MI σ) : hr σ 12 0 53 = some (144, 0) := (h (53, 144, 90) (by decide)).1
theorem MI.n144 {σ : XH} (h : MI σ) : hn σ 144 0 = 90 := (h (53, 144, 90) (by decide)).2
theorem MI.r301 {σ : XH} (h : MI σ) : hr σ 12 0 54 = some (301, 0) := (h (54, 301, 90) (by decide)).1
theorem MI.n301 {σ : XH} (h : MI σ) : hn σ 301 0 = 90 := (h (54, 301, 90) (by decide)).2
theorem MI.r145 {σ : XH} (h : MI σ) : hr σ 12 0 55 = some (145, 0) := (h (55, 145, 5) (by decide)).1
theorem MI.n145 {σ : XH} (h : MI σ) : hn σ 145 0 = 5 := (h (55, 145, 5) (by decide)).2
theorem MI.r146 {σ : XH} (h : MI σ) : hr σ 12 0 56 = some (146, 0) := (h (56, 146, 44) (by decide)).1
theorem MI.n146 {σ : XH} (h : MI σ) : hn σ 146 0 = 44 := (h (56, 146, 44) (by decide)).2
theorem MI.r147 {σ : XH} (h : MI σ) : hr σ 12 0 60 = some (147, 0) := (h (60, 147, 9) (by decide)).1
theorem MI.n147 {σ : XH} (h : MI σ) : hn σ 147 0 = 9 := (h (60, 147, 9) (by decide)).2
theorem MI.r148 {σ : XH} (h : MI σ) : hr σ 12 0 61 = some (148, 0) := (h (61, 148, 9) (by decide)).1
theorem MI.n148 {σ : XH} (h : MI σ) : hn σ 148 0 = 9 := (h (61, 148, 9) (by decide)).2
theorem MI.r149 {σ : XH} (h : MI σ) : hr σ 12 0 62 = some (149, 0) := (h (62, 149, 9) (by decide)).1
theorem MI.n149 {σ : XH} (h : MI σ) : hn σ 149 0 = 9 := (h (62, 149, 9) (by decide)).2
theorem MI.r150 {σ : XH} (h : MI σ) : hr σ 12 0 64 = some (150, 0) := (h (64, 150, 20) (by decide)).1
theorem MI.n150 {σ : XH} (h : MI σ) : hn σ 150 0 = 20 := (h (64, 150, 20) (by decide)).2
theorem MI.r151 {σ : XH} (h : MI σ) : hr σ 12 0 65 = some (151, 0) := (h (65, 151, 6) (by decide)).1
theorem MI.n151 {σ : XH} (h : MI σ) : hn σ 151 0 = 6 := (h (65, 151, 6) (by decide)).2
theorem MI.r152 {σ : XH} (h : MI σ) : hr σ 12 0 66 = some (152, 0) := (h (66, 152, 6) (by decide)).1
theorem MI.n152 {σ : XH} (h : MI σ) : hn σ 152 0 = 6 := (h (66, 152, 6) (by decide)).2
theorem MI.r153 {σ : XH} (h : MI σ) : hr σ 12 0 67 = some (153, 0) := (h (67, 153, 360) (by decide)).1
theorem MI.n153 {σ : XH} (h : MI σ) : hn σ 153 0 = 360 := (h (67, 153, 360) (by decide)).2
theorem MI.r154 {σ : XH} (h : MI σ) : hr σ 12 0 68 = some (154, 0) := (h (68, 154, 60) (by decide)).1
theorem MI.n154 {σ : XH} (h : MI σ) : hn σ 154 0 = 60 := (h (68, 154, 60) (by decide)).2
theorem MI.of {σ σ' : XH} (h : MI σ) (hr' : hr σ' = hr σ) (hn' : hn σ' = hn σ) : MI σ' := by
  unfold MI
  rw [hr', hn']
  exact h
theorem MI.wI {σ : XH} (h : MI σ) (s i k : Nat) (x : Int32) : MI (wI σ s i k x) := h
theorem MI.wL {σ : XH} (h : MI σ) (s i k : Nat) (x : Int64) : MI (wL σ s i k x) := h
/-- the logical state: what the reference's own cells hold -/
abbrev SS : Type := Nat → Nat → Int32
def md (σ : XH) : SS := fun s k => hi σ s 0 k
def up2 (S : SS) (s k : Nat) (x : Int32) : SS := fun s' k' => if s' = s ∧ k' = k then x else S s' k'
theorem md_wI (σ : XH) (s k : Nat) (x : Int32) : md (wI σ s 0 k x) = up2 (md σ) s k x := funext fun s' => funext fun k' => by
  show (if s' = s ∧ 0 = 0 ∧ k' = k then x else σ.2.2.1 s' 0 k') = if s' = s ∧ k' = k then x else σ.2.2.1 s' 0 k'
  simp only [true_and]
theorem md_wL (σ : XH) (s i k : Nat) (x : Int64) : md (wL σ s i k x) = md σ := rfl
theorem up2_eq (S : SS) (s k : Nat) (x : Int32) : up2 S s k x s k = x := by
  unfold up2
  rw [if_pos ⟨rfl, rfl⟩]
theorem up2_s (S : SS) {s s' : Nat} (k : Nat) (x : Int32) (h : s' ≠ s) : up2 S s k x s' = S s' := funext fun k' => by
  unfold up2
  rw [if_neg]
  exact fun z => h z.1
theorem up2_k (S : SS) (s : Nat) {k k' : Nat} (x : Int32) (h : k' ≠ k) (s' : Nat) : up2 S s k x s' k' = S s' k' := by
  unfold up2
  rw [if_neg]
  exact fun z => h z.2
theorem lt_add1 {x : Int32} (h : x < 1000000) : x < x + 1 := by
  have r := fb_rng x
  rw [fa_lt] at h
  have e1 : (1 : Int32).toInt = 1 := by decide
  have e2 : (1000000 : Int32).toInt = 1000000 := by decide
  rw [fa_lt, fb_addI (by omega) (by omega)]
  omega
theorem sub1_lt {x : Int32} (h : ¬ x < 0) : x - 1 < x := by
  have r := fb_rng x
  rw [fa_lt] at h
  have e1 : (1 : Int32).toInt = 1 := by decide
  have e2 : (0 : Int32).toInt = 0 := by decide
  rw [fa_lt, fb_subI (by omega) (by omega)]
  omega
theorem sub64_ne {a b : Int32} (h : a < b) : ¬ b.toInt64 - a.toInt64 = 0 := by
  have r1 := fb_rng a
  have r2 := fb_rng b
  rw [fa_lt] at h
  intro z
  have z2 := congrArg Int64.toInt z
  have e0 : (0 : Int64).toInt = 0 := by decide
  rw [fb_subL (by rw [Int32.toInt_toInt64, Int32.toInt_toInt64]; omega) (by rw [Int32.toInt_toInt64, Int32.toInt_toInt64]; omega), Int32.toInt_toInt64, Int32.toInt_toInt64, e0] at z2
  omega
theorem i_lt_of_nlt_lt {a b c : Int32} (h1 : ¬ b < a) (h2 : b < c) : a < c := by
  rw [fa_lt] at *
  omega
theorem i_lt_of_lt_nlt {a b c : Int32} (h1 : a < b) (h2 : ¬ c < b) : a < c := by
  rw [fa_lt] at *
  omega
theorem i_lt_irr (a : Int32) : ¬ a < a := by
  rw [fa_lt]
  omega
