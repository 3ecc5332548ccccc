/-! ===== what the reference's methods answer, over the logical state ===== -/
def inB (v lo hi : Int32) : Bool := decide (¬ v < lo ∧ ¬ hi < v)
abbrev inP (v lo hi : Int32) : Prop := inB v lo hi = true
theorem inP_iff (v lo hi : Int32) : inP v lo hi ↔ (¬ v < lo ∧ ¬ hi < v) := decide_eq_true_iff
def dwn (a b : Int64) : Int64 := if a < a / b * b then a / b - 1 else a / b
abbrev gS (S : SS) (s : Nat) (i : Int32) : Int32 := S s i.toNatClampNeg
abbrev kNow (S : SS) (r : Int32) : Int32 := if 0 < gS S 129 r then 7 else gS S 120 r
abbrev numF (S : SS) (r : Int32) : Int32 := if gS S 120 r = 6 then gS S 125 (gS S 127 r) else gS S 125 r
abbrev isSk (k : Int32) : Prop := k = 3 ∨ k = 4 ∨ k = 5
abbrev isStar (S : SS) (r c : Int32) : Prop := gS S 120 r = 1 ∧ gS S 129 r = 0 ∧ gS S 121 r = c ∧ (gS S 119 c < 0 ∨ ¬ gS S 119 c < gS S 123 r)
/-- the star below: of those that show no more than x the one that shows most, of several the latest -/
def sbl (S : SS) (c x : Int32) : Nat → Int32
  | 0 => -1
  | r + 1 => if isStar S (nI r) c ∧ ¬ x < gS S 123 (nI r) ∧ (sbl S c x r < 0 ∨ ¬ gS S 123 (nI r) < gS S 123 (sbl S c x r)) then nI r else sbl S c x r
def sab (S : SS) (c x : Int32) : Nat → Int32
  | 0 => -1
  | r + 1 => if isStar S (nI r) c ∧ ¬ gS S 123 (nI r) < x ∧ (sab S c x r < 0 ∨ ¬ gS S 123 (sab S c x r) < gS S 123 (nI r)) then nI r else sab S c x r
abbrev nRd (S : SS) : Nat := (S 12 8).toNatClampNeg
abbrev NOi : Int32 := -1000000000
def tmV (S : SS) (t a b : Int32) : Int64 := if b < 0 then (gS S 124 a).toInt64 + t.toInt64 - (gS S 123 a).toInt64 else (gS S 124 a).toInt64 + dwn ((t.toInt64 - (gS S 123 a).toInt64) * ((gS S 124 b).toInt64 - (gS S 124 a).toInt64)) ((gS S 123 b).toInt64 - (gS S 123 a).toInt64)
def tmO (v : Int64) : Int32 := if v < -2000000 ∨ 2000000 < v then NOi else v.toInt32
def tmF (S : SS) (c t : Int32) : Int32 :=
  if ¬ gS S 119 c < 0 ∧ gS S 119 c < t then NOi
  else if sbl S c t (nRd S) < 0 then (if sab S c (t + 1) (nRd S) < 0 then NOi else tmO (tmV S t (sab S c (t + 1) (nRd S)) (sab S c (gS S 123 (sab S c (t + 1) (nRd S)) + 1) (nRd S))))
  else if sab S c (t + 1) (nRd S) < 0 then (if sbl S c (gS S 123 (sbl S c t (nRd S)) - 1) (nRd S) < 0 then tmO (tmV S t (sbl S c t (nRd S)) (-1)) else tmO (tmV S t (sbl S c (gS S 123 (sbl S c t (nRd S)) - 1) (nRd S)) (sbl S c t (nRd S))))
  else tmO (tmV S t (sbl S c t (nRd S)) (sab S c (t + 1) (nRd S)))
/-- the moons of a station: the sum and how many, of the first so many readings -/
def lonA (S : SS) (s : Int32) : Nat → Int64 × Int32
  | 0 => (0, 0)
  | r + 1 => if gS S 120 (nI r) = 2 ∧ ¬ 0 < gS S 129 (nI r) ∧ gS S 118 (gS S 121 (nI r)) = s ∧ ¬ tmF S (gS S 121 (nI r)) (gS S 123 (nI r)) = NOi then ((lonA S s r).1 + (tmF S (gS S 121 (nI r)) (gS S 123 (nI r)) - gS S 124 (nI r)).toInt64, (lonA S s r).2 + 1) else lonA S s r
def lonF (S : SS) (s : Int32) : Int32 := if gS S 116 s = 99999 then (if (lonA S s (nRd S)).2 = 0 then NOi else (dwn (lonA S s (nRd S)).1 (lonA S s (nRd S)).2.toInt64).toInt32) else gS S 116 s
def seA (S : SS) (c t more : Int32) : Int32 := if tmF S c t = NOi ∨ lonF S (gS S 118 c) = NOi then NOi else tmF S c t - lonF S (gS S 118 c) - gS S 117 (gS S 118 c) / 100 + more
def seO (S : SS) (r e : Int32) : Int32 :=
  if gS S 120 r = 6 then (if e = 0 ∧ isSk (gS S 120 (gS S 127 r)) then seA S (gS S 121 (gS S 127 r)) (gS S 123 r) (if gS S 120 (gS S 127 r) = 5 then gS S 124 (gS S 127 r) else 0) else NOi)
  else if isSk (gS S 120 r) ∧ (e = 0 ∨ e = 1 ∧ gS S 120 r = 4) then seA S (gS S 121 r) (if e = 1 then gS S 124 r else gS S 123 r) (if gS S 120 r = 5 then gS S 124 r else 0)
  else NOi
/-! what holds of every logical state that is reached -/
abbrev nSt (S : SS) : Nat := (S 12 1).toNatClampNeg
abbrev nCl (S : SS) : Nat := (S 12 2).toNatClampNeg
abbrev nLe (S : SS) : Nat := (S 12 20).toNatClampNeg
abbrev nRu (S : SS) : Nat := (S 12 25).toNatClampNeg
abbrev nFd (S : SS) : Nat := (S 12 26).toNatClampNeg
abbrev nPl (S : SS) : Nat := (S 12 59).toNatClampNeg
/-- of a reading -/
def RdI (S : SS) (i : Int32) : Prop := inP (gS S 120 i) 1 6 ∧ vp_in (gS S 121 i) (nCl S) ∧ inP (gS S 122 i) 0 5 ∧ inP (gS S 123 i) 0 999999 ∧ (gS S 120 i = 6 → vp_in (gS S 127 i) i.toNatClampNeg ∧ ¬ gS S 120 (gS S 127 i) = 6) ∧ (gS S 120 i = 4 → inP (gS S 124 i) 0 999999) ∧ (gS S 120 i = 5 → inP (gS S 124 i) (-99) 99) ∧ ((gS S 120 i = 1 ∨ gS S 120 i = 2) → inP (gS S 124 i) 0 999999) ∧ ((gS S 120 i = 3 ∨ gS S 120 i = 4 ∨ gS S 120 i = 5) → inP (gS S 125 i) 1 4) ∧ (¬ (gS S 120 i = 3 ∨ gS S 120 i = 4 ∨ gS S 120 i = 5) → gS S 125 i = -1) ∧ (gS S 120 i = 6 → gS S 121 i = gS S 121 (gS S 127 i) ∧ gS S 122 i = gS S 122 (gS S 127 i)) ∧ (¬ gS S 120 i = 6 → gS S 127 i = -1) ∧ ¬ gS S 129 i < 0
def SInv (S : SS) : Prop :=
  (S 12 1 = nI (nSt S) ∧ nSt S ≤ 11) ∧ (S 12 2 = nI (nCl S) ∧ nCl S ≤ 12) ∧ (S 12 8 = nI (nRd S) ∧ nRd S ≤ 90) ∧ (S 12 20 = nI (nLe S) ∧ nLe S ≤ 60) ∧ (S 12 25 = nI (nRu S) ∧ nRu S ≤ 12) ∧ (S 12 26 = nI (nFd S) ∧ nFd S ≤ 140) ∧ (S 12 59 = nI (nPl S) ∧ nPl S ≤ 9) ∧ inP (S 12 0) 0 9999 ∧
  (∀ i, vp_in i (nCl S) → vp_in (gS S 118 i) (nSt S) ∧ inP (gS S 119 i) (-1) 999999) ∧ (∀ i, vp_in i (nRd S) → RdI S i)

/-! ===== a heap whose reference's cells are those of a logical state ===== -/
def rsb (s : Nat) : Bool := Nat.beq s 12 || ((Nat.ble 116 s && Nat.blt s 200) || (Nat.ble 300 s && Nat.blt s 400))
def up (σ : XH) (S : SS) : XH := (σ.1, σ.2.1, fun s i k => bif rsb s && Nat.beq i 0 then S s k else σ.2.2.1 s i k, σ.2.2.2)
theorem hi_up (σ : XH) (S : SS) {s : Nat} (h : rsb s = true) (k : Nat) : hi (up σ S) s 0 k = S s k := by
  show (bif rsb s && Nat.beq 0 0 then S s k else σ.2.2.1 s 0 k) = S s k
  rw [h]
  rfl
theorem hi_upc (σ : XH) (S : SS) {s : Nat} (h : rsb s = false) : hi (up σ S) s = hi σ s := funext fun i => funext fun k => by
  show (bif rsb s && Nat.beq i 0 then S s k else σ.2.2.1 s i k) = σ.2.2.1 s i k
  rw [h]
  rfl
theorem wI_up (σ : XH) (S : SS) {s : Nat} (h : rsb s = true) (k : Nat) (x : Int32) : wI (up σ S) s 0 k x = up σ (up2 S s k x) := by
  refine Prod.ext rfl (Prod.ext rfl (Prod.ext ?_ rfl))
  refine funext fun t => funext fun i => funext fun j => ?_
  show (if t = s ∧ i = 0 ∧ j = k then x else (bif rsb t && Nat.beq i 0 then S t j else σ.2.2.1 t i j)) = (bif rsb t && Nat.beq i 0 then (if t = s ∧ j = k then x else S t j) else σ.2.2.1 t i j)
  by_cases hi : i = 0
  · subst hi
    by_cases ht : t = s
    · subst ht
      simp only [h, true_and, Bool.and_true, cond_true, show Nat.beq 0 0 = true from rfl]
    · simp only [ht, false_and, if_false]
  · have e : Nat.beq i 0 = false := by
      rw [← Bool.not_eq_true]
      exact fun q => hi (Nat.eq_of_beq_eq_true q)
    simp only [hi, e, false_and, and_false, if_false, Bool.and_false, cond_false]
theorem wL_up (σ : XH) (S : SS) (s i k : Nat) (x : Int64) : wL (up σ S) s i k x = up (wL σ s i k x) S := rfl
theorem hl_up (σ : XH) (S : SS) : hl (up σ S) = hl σ := rfl
theorem hr_up (σ : XH) (S : SS) : hr (up σ S) = hr σ := rfl
theorem hn_up (σ : XH) (S : SS) : hn (up σ S) = hn σ := rfl
theorem hc_up (σ : XH) (S : SS) : hc (up σ S) = hc σ := rfl
theorem MI.up {σ : XH} (h : MI σ) (S : SS) : MI (up σ S) := h
theorem up_up (σ : XH) (S T : SS) : up (up σ S) T = up σ T := by
  refine Prod.ext rfl (Prod.ext rfl (Prod.ext ?_ rfl))
  refine funext fun t => funext fun i => funext fun j => ?_
  show (bif rsb t && Nat.beq i 0 then T t j else (bif rsb t && Nat.beq i 0 then S t j else σ.2.2.1 t i j)) = (bif rsb t && Nat.beq i 0 then T t j else σ.2.2.1 t i j)
  cases (rsb t && Nat.beq i 0) <;> rfl
theorem up2_at (S : SS) (s k : Nat) (x : Int32) (k' : Nat) : up2 S s k x s k' = if k' = k then x else S s k' := by
  unfold up2
  simp only [true_and]
theorem vp_at {x : Int32} {n m : Nat} (e : n = m) (h : vp_in x m) : vp_in x n := e ▸ h
theorem vp_of {x : Int32} {n m : Nat} (e : x = nI n) (hm : n < m) (h : m ≤ 10000) : vp_in x m := e ▸ vp_in_nI hm (by omega)
abbrev isCl (S : SS) (c : Int32) : Prop := inP c 0 (S 12 2 - 1)
abbrev isSt (S : SS) (c : Int32) : Prop := inP c 0 (S 12 1 - 1)
abbrev isRd (S : SS) (c : Int32) : Prop := inP c 0 (S 12 8 - 1)
theorem hu_12 (σ : XH) (S : SS) (k : Nat) : hi (up σ S) 12 0 k = S 12 k := rfl
theorem hu_116 (σ : XH) (S : SS) (k : Nat) : hi (up σ S) 116 0 k = S 116 k := rfl
theorem hu_117 (σ : XH) (S : SS) (k : Nat) : hi (up σ S) 117 0 k = S 117 k := rfl
theorem hu_118 (σ : XH) (S : SS) (k : Nat) : hi (up σ S) 118 0 k = S 118 k := rfl
theorem hu_119 (σ : XH) (S : SS) (k : Nat) : hi (up σ S) 119 0 k = S 119 k := rfl
theorem hu_120 (σ : XH) (S : SS) (k : Nat) : hi (up σ S) 120 0 k = S 120 k := rfl
theorem hu_121 (σ : XH) (S : SS) (k : Nat) : hi (up σ S) 121 0 k = S 121 k := rfl
theorem hu_122 (σ : XH) (S : SS) (k : Nat) : hi (up σ S) 122 0 k = S 122 k := rfl
theorem hu_123 (σ : XH) (S : SS) (k : Nat) : hi (up σ S) 123 0 k = S 123 k := rfl
theorem hu_124 (σ : XH) (S : SS) (k : Nat) : hi (up σ S) 124 0 k = S 124 k := rfl
theorem hu_125 (σ : XH) (S : SS) (k : Nat) : hi (up σ S) 125 0 k = S 125 k := rfl
theorem hu_126 (σ : XH) (S : SS) (k : Nat) : hi (up σ S) 126 0 k = S 126 k := rfl
theorem hu_127 (σ : XH) (S : SS) (k : Nat) : hi (up σ S) 127 0 k = S 127 k := rfl
theorem hu_128 (σ : XH) (S : SS) (k : Nat) : hi (up σ S) 128 0 k = S 128 k := rfl
theorem hu_129 (σ : XH) (S : SS) (k : Nat) : hi (up σ S) 129 0 k = S 129 k := rfl
theorem hu_130 (σ : XH) (S : SS) (k : Nat) : hi (up σ S) 130 0 k = S 130 k := rfl
theorem hu_131 (σ : XH) (S : SS) (k : Nat) : hi (up σ S) 131 0 k = S 131 k := rfl
theorem hu_132 (σ : XH) (S : SS) (k : Nat) : hi (up σ S) 132 0 k = S 132 k := rfl
theorem hu_133 (σ : XH) (S : SS) (k : Nat) : hi (up σ S) 133 0 k = S 133 k := rfl
theorem hu_134 (σ : XH) (S : SS) (k : Nat) : hi (up σ S) 134 0 k = S 134 k := rfl
theorem hu_135 (σ : XH) (S : SS) (k : Nat) : hi (up σ S) 135 0 k = S 135 k := rfl
theorem hu_136 (σ : XH) (S : SS) (k : Nat) : hi (up σ S) 136 0 k = S 136 k := rfl
theorem hu_137 (σ : XH) (S : SS) (k : Nat) : hi (up σ S) 137 0 k = S 137 k := rfl
theorem hu_138 (σ : XH) (S : SS) (k : Nat) : hi (up σ S) 138 0 k = S 138 k := rfl
theorem hu_139 (σ : XH) (S : SS) (k : Nat) : hi (up σ S) 139 0 k = S 139 k := rfl
theorem hu_140 (σ : XH) (S : SS) (k : Nat) : hi (up σ S) 140 0 k = S 140 k := rfl
theorem hu_141 (σ : XH) (S : SS) (k : Nat) : hi (up σ S) 141 0 k = S 141 k := rfl
theorem hu_142 (σ : XH) (S : SS) (k : Nat) : hi (up σ S) 142 0 k = S 142 k := rfl
theorem hu_143 (σ : XH) (S : SS) (k : Nat) : hi (up σ S) 143 0 k = S 143 k := rfl
theorem hu_144 (σ : XH) (S : SS) (k : Nat) : hi (up σ S) 144 0 k = S 144 k := rfl
theorem hu_145 (σ : XH) (S : SS) (k : Nat) : hi (up σ S) 145 0 k = S 145 k := rfl
theorem hu_146 (σ : XH) (S : SS) (k : Nat) : hi (up σ S) 146 0 k = S 146 k := rfl
theorem hu_147 (σ : XH) (S : SS) (k : Nat) : hi (up σ S) 147 0 k = S 147 k := rfl
theorem hu_148 (σ : XH) (S : SS) (k : Nat) : hi (up σ S) 148 0 k = S 148 k := rfl
theorem hu_149 (σ : XH) (S : SS) (k : Nat) : hi (up σ S) 149 0 k = S 149 k := rfl
theorem hu_150 (σ : XH) (S : SS) (k : Nat) : hi (up σ S) 150 0 k = S 150 k := rfl
theorem hu_151 (σ : XH) (S : SS) (k : Nat) : hi (up σ S) 151 0 k = S 151 k := rfl
theorem hu_152 (σ : XH) (S : SS) (k : Nat) : hi (up σ S) 152 0 k = S 152 k := rfl
theorem hu_153 (σ : XH) (S : SS) (k : Nat) : hi (up σ S) 153 0 k = S 153 k := rfl
theorem hu_154 (σ : XH) (S : SS) (k : Nat) : hi (up σ S) 154 0 k = S 154 k := rfl
theorem hu_300 (σ : XH) (S : SS) (k : Nat) : hi (up σ S) 300 0 k = S 300 k := rfl
theorem hu_301 (σ : XH) (S : SS) (k : Nat) : hi (up σ S) 301 0 k = S 301 k := rfl
theorem wu_12 (σ : XH) (S : SS) (k : Nat) (x : Int32) : wI (up σ S) 12 0 k x = up σ (up2 S 12 k x) := wI_up σ S rfl k x
theorem wu_116 (σ : XH) (S : SS) (k : Nat) (x : Int32) : wI (up σ S) 116 0 k x = up σ (up2 S 116 k x) := wI_up σ S rfl k x
theorem wu_117 (σ : XH) (S : SS) (k : Nat) (x : Int32) : wI (up σ S) 117 0 k x = up σ (up2 S 117 k x) := wI_up σ S rfl k x
theorem wu_118 (σ : XH) (S : SS) (k : Nat) (x : Int32) : wI (up σ S) 118 0 k x = up σ (up2 S 118 k x) := wI_up σ S rfl k x
theorem wu_119 (σ : XH) (S : SS) (k : Nat) (x : Int32) : wI (up σ S) 119 0 k x = up σ (up2 S 119 k x) := wI_up σ S rfl k x
theorem wu_120 (σ : XH) (S : SS) (k : Nat) (x : Int32) : wI (up σ S) 120 0 k x = up σ (up2 S 120 k x) := wI_up σ S rfl k x
theorem wu_121 (σ : XH) (S : SS) (k : Nat) (x : Int32) : wI (up σ S) 121 0 k x = up σ (up2 S 121 k x) := wI_up σ S rfl k x
theorem wu_122 (σ : XH) (S : SS) (k : Nat) (x : Int32) : wI (up σ S) 122 0 k x = up σ (up2 S 122 k x) := wI_up σ S rfl k x
theorem wu_123 (σ : XH) (S : SS) (k : Nat) (x : Int32) : wI (up σ S) 123 0 k x = up σ (up2 S 123 k x) := wI_up σ S rfl k x
theorem wu_124 (σ : XH) (S : SS) (k : Nat) (x : Int32) : wI (up σ S) 124 0 k x = up σ (up2 S 124 k x) := wI_up σ S rfl k x
theorem wu_125 (σ : XH) (S : SS) (k : Nat) (x : Int32) : wI (up σ S) 125 0 k x = up σ (up2 S 125 k x) := wI_up σ S rfl k x
theorem wu_126 (σ : XH) (S : SS) (k : Nat) (x : Int32) : wI (up σ S) 126 0 k x = up σ (up2 S 126 k x) := wI_up σ S rfl k x
theorem wu_127 (σ : XH) (S : SS) (k : Nat) (x : Int32) : wI (up σ S) 127 0 k x = up σ (up2 S 127 k x) := wI_up σ S rfl k x
theorem wu_128 (σ : XH) (S : SS) (k : Nat) (x : Int32) : wI (up σ S) 128 0 k x = up σ (up2 S 128 k x) := wI_up σ S rfl k x
theorem wu_129 (σ : XH) (S : SS) (k : Nat) (x : Int32) : wI (up σ S) 129 0 k x = up σ (up2 S 129 k x) := wI_up σ S rfl k x
theorem wu_130 (σ : XH) (S : SS) (k : Nat) (x : Int32) : wI (up σ S) 130 0 k x = up σ (up2 S 130 k x) := wI_up σ S rfl k x
theorem wu_131 (σ : XH) (S : SS) (k : Nat) (x : Int32) : wI (up σ S) 131 0 k x = up σ (up2 S 131 k x) := wI_up σ S rfl k x
theorem wu_132 (σ : XH) (S : SS) (k : Nat) (x : Int32) : wI (up σ S) 132 0 k x = up σ (up2 S 132 k x) := wI_up σ S rfl k x
theorem wu_133 (σ : XH) (S : SS) (k : Nat) (x : Int32) : wI (up σ S) 133 0 k x = up σ (up2 S 133 k x) := wI_up σ S rfl k x
theorem wu_134 (σ : XH) (S : SS) (k : Nat) (x : Int32) : wI (up σ S) 134 0 k x = up σ (up2 S 134 k x) := wI_up σ S rfl k x
theorem wu_135 (σ : XH) (S : SS) (k : Nat) (x : Int32) : wI (up σ S) 135 0 k x = up σ (up2 S 135 k x) := wI_up σ S rfl k x
theorem wu_136 (σ : XH) (S : SS) (k : Nat) (x : Int32) : wI (up σ S) 136 0 k x = up σ (up2 S 136 k x) := wI_up σ S rfl k x
theorem wu_137 (σ : XH) (S : SS) (k : Nat) (x : Int32) : wI (up σ S) 137 0 k x = up σ (up2 S 137 k x) := wI_up σ S rfl k x
theorem wu_138 (σ : XH) (S : SS) (k : Nat) (x : Int32) : wI (up σ S) 138 0 k x = up σ (up2 S 138 k x) := wI_up σ S rfl k x
theorem wu_139 (σ : XH) (S : SS) (k : Nat) (x : Int32) : wI (up σ S) 139 0 k x = up σ (up2 S 139 k x) := wI_up σ S rfl k x
theorem wu_140 (σ : XH) (S : SS) (k : Nat) (x : Int32) : wI (up σ S) 140 0 k x = up σ (up2 S 140 k x) := wI_up σ S rfl k x
theorem wu_141 (σ : XH) (S : SS) (k : Nat) (x : Int32) : wI (up σ S) 141 0 k x = up σ (up2 S 141 k x) := wI_up σ S rfl k x
theorem wu_142 (σ : XH) (S : SS) (k : Nat) (x : Int32) : wI (up σ S) 142 0 k x = up σ (up2 S 142 k x) := wI_up σ S rfl k x
theorem wu_143 (σ : XH) (S : SS) (k : Nat) (x : Int32) : wI (up σ S) 143 0 k x = up σ (up2 S 143 k x) := wI_up σ S rfl k x
theorem wu_144 (σ : XH) (S : SS) (k : Nat) (x : Int32) : wI (up σ S) 144 0 k x = up σ (up2 S 144 k x) := wI_up σ S rfl k x
theorem wu_145 (σ : XH) (S : SS) (k : Nat) (x : Int32) : wI (up σ S) 145 0 k x = up σ (up2 S 145 k x) := wI_up σ S rfl k x
theorem wu_146 (σ : XH) (S : SS) (k : Nat) (x : Int32) : wI (up σ S) 146 0 k x = up σ (up2 S 146 k x) := wI_up σ S rfl k x
theorem wu_147 (σ : XH) (S : SS) (k : Nat) (x : Int32) : wI (up σ S) 147 0 k x = up σ (up2 S 147 k x) := wI_up σ S rfl k x
theorem wu_148 (σ : XH) (S : SS) (k : Nat) (x : Int32) : wI (up σ S) 148 0 k x = up σ (up2 S 148 k x) := wI_up σ S rfl k x
theorem wu_149 (σ : XH) (S : SS) (k : Nat) (x : Int32) : wI (up σ S) 149 0 k x = up σ (up2 S 149 k x) := wI_up σ S rfl k x
theorem wu_150 (σ : XH) (S : SS) (k : Nat) (x : Int32) : wI (up σ S) 150 0 k x = up σ (up2 S 150 k x) := wI_up σ S rfl k x
theorem wu_151 (σ : XH) (S : SS) (k : Nat) (x : Int32) : wI (up σ S) 151 0 k x = up σ (up2 S 151 k x) := wI_up σ S rfl k x
theorem wu_152 (σ : XH) (S : SS) (k : Nat) (x : Int32) : wI (up σ S) 152 0 k x = up σ (up2 S 152 k x) := wI_up σ S rfl k x
theorem wu_153 (σ : XH) (S : SS) (k : Nat) (x : Int32) : wI (up σ S) 153 0 k x = up σ (up2 S 153 k x) := wI_up σ S rfl k x
theorem wu_154 (σ : XH) (S : SS) (k : Nat) (x : Int32) : wI (up σ S) 154 0 k x = up σ (up2 S 154 k x) := wI_up σ S rfl k x
theorem wu_300 (σ : XH) (S : SS) (k : Nat) (x : Int32) : wI (up σ S) 300 0 k x = up σ (up2 S 300 k x) := wI_up σ S rfl k x
theorem wu_301 (σ : XH) (S : SS) (k : Nat) (x : Int32) : wI (up σ S) 301 0 k x = up σ (up2 S 301 k x) := wI_up σ S rfl k x
