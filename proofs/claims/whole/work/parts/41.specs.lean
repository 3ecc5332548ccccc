/-! ===== what the reference's methods answer, over the logical state ===== -/
def inB (v lo hi : Int32) : Bool := decide (¬ v < lo ∧ ¬ hi < v)
abbrev inP (v lo hi : Int32) : Prop := inB v lo hi = true
theorem inP_iff (v lo hi : Int32) : inP v lo hi ↔ (¬ v < lo ∧ ¬ hi < v) := decide_eq_true_iff
def dwn (a b : Int64) : Int64 := if a < a / b * b then a / b - 1 else a / b
abbrev gS (S : SS) (s : Nat) (i : Int32) : Int32 := S s i.toNatClampNeg
abbrev kNow (S : SS) (r : Int32) : Int32 := if 0 < gS S 129 r then 7 else gS S 120 r
abbrev numF (S : SS) (r : Int32) : Int32 := if gS S 120 r = 6 then gS S 125 (gS S 127 r) else gS S 125 r
abbrev isSk (k : Int32) : Prop := k = 3 ∨ k = 4 ∨ k = 5
abbrev isStar (S : SS) (r c : Int32) : Prop := gS S 120 r = 1 ∧ gS S 129 r = 0 ∧ gS S 121 r = c ∧ (gS S 119 c < 0 ∨ ¬ gS S 119 c < gS S 123 r)
/-- the star below: of those that show no more than x the one that shows most, of several the latest -/
def sbl (S : SS) (c x : Int32) : Nat → Int32
  | 0 => -1
  | r + 1 => if isStar S (nI r) c ∧ ¬ x < gS S 123 (nI r) ∧ (sbl S c x r < 0 ∨ ¬ gS S 123 (nI r) < gS S 123 (sbl S c x r)) then nI r else sbl S c x r
def sab (S : SS) (c x : Int32) : Nat → Int32
  | 0 => -1
  | r + 1 => if isStar S (nI r) c ∧ ¬ gS S 123 (nI r) < x ∧ (sab S c x r < 0 ∨ ¬ gS S 123 (sab S c x r) < gS S 123 (nI r)) then nI r else sab S c x r
abbrev nRd (S : SS) : Nat := (S 12 8).toNatClampNeg
abbrev NOi : Int32 := -1000000000
def tmV (S : SS) (t a b : Int32) : Int64 := if b < 0 then (gS S 124 a).toInt64 + t.toInt64 - (gS S 123 a).toInt64 else (gS S 124 a).toInt64 + dwn ((t.toInt64 - (gS S 123 a).toInt64) * ((gS S 124 b).toInt64 - (gS S 124 a).toInt64)) ((gS S 123 b).toInt64 - (gS S 123 a).toInt64)
def tmO (v : Int64) : Int32 := if v < -2000000 ∨ 2000000 < v then NOi else v.toInt32
def tmF (S : SS) (c t : Int32) : Int32 :=
  if ¬ gS S 119 c < 0 ∧ gS S 119 c < t then NOi
  else if sbl S c t (nRd S) < 0 then (if sab S c (t + 1) (nRd S) < 0 then NOi else tmO (tmV S t (sab S c (t + 1) (nRd S)) (sab S c (gS S 123 (sab S c (t + 1) (nRd S)) + 1) (nRd S))))
  else if sab S c (t + 1) (nRd S) < 0 then (if sbl S c (gS S 123 (sbl S c t (nRd S)) - 1) (nRd S) < 0 then tmO (tmV S t (sbl S c t (nRd S)) (-1)) else tmO (tmV S t (sbl S c (gS S 123 (sbl S c t (nRd S)) - 1) (nRd S)) (sbl S c t (nRd S))))
  else tmO (tmV S t (sbl S c t (nRd S)) (sab S c (t + 1) (nRd S)))
/-- the moons of a station: the sum and how many, of the first so many readings -/
def lonA (S : SS) (s : Int32) : Nat → Int64 × Int32
  | 0 => (0, 0)
  | r + 1 => if gS S 120 (nI r) = 2 ∧ ¬ 0 < gS S 129 (nI r) ∧ gS S 118 (gS S 121 (nI r)) = s ∧ ¬ tmF S (gS S 121 (nI r)) (gS S 123 (nI r)) = NOi then ((lonA S s r).1 + (tmF S (gS S 121 (nI r)) (gS S 123 (nI r)) - gS S 124 (nI r)).toInt64, (lonA S s r).2 + 1) else lonA S s r
def lonF (S : SS) (s : Int32) : Int32 := if gS S 116 s = 99999 then (if (lonA S s (nRd S)).2 = 0 then NOi else (dwn (lonA S s (nRd S)).1 (lonA S s (nRd S)).2.toInt64).toInt32) else gS S 116 s
def seA (S : SS) (c t more : Int32) : Int32 := if tmF S c t = NOi ∨ lonF S (gS S 118 c) = NOi then NOi else tmF S c t - lonF S (gS S 118 c) - gS S 117 (gS S 118 c) / 100 + more
def seO (S : SS) (r e : Int32) : Int32 :=
  if gS S 120 r = 6 then (if e = 0 ∧ isSk (gS S 120 (gS S 127 r)) then seA S (gS S 121 (gS S 127 r)) (gS S 123 r) (if gS S 120 (gS S 127 r) = 5 then gS S 124 (gS S 127 r) else 0) else NOi)
  else if isSk (gS S 120 r) ∧ (e = 0 ∨ e = 1 ∧ gS S 120 r = 4) then seA S (gS S 121 r) (if e = 1 then gS S 124 r else gS S 123 r) (if gS S 120 r = 5 then gS S 124 r else 0)
  else NOi
/-! what holds of every logical state that is reached -/
abbrev nSt (S : SS) : Nat := (S 12 1).toNatClampNeg
abbrev nCl (S : SS) : Nat := (S 12 2).toNatClampNeg
abbrev nLe (S : SS) : Nat := (S 12 20).toNatClampNeg
abbrev nRu (S : SS) : Nat := (S 12 25).toNatClampNeg
abbrev nFd (S : SS) : Nat := (S 12 26).toNatClampNeg
abbrev nPl (S : SS) : Nat := (S 12 59).toNatClampNeg
/-- of a reading -/
def RdI (S : SS) (i : Int32) : Prop := inP (gS S 120 i) 1 6 ∧ vp_in (gS S 121 i) (nCl S) ∧ inP (gS S 122 i) 0 5 ∧ inP (gS S 123 i) 0 999999 ∧ (gS S 120 i = 6 → vp_in (gS S 127 i) i.toNatClampNeg ∧ ¬ gS S 120 (gS S 127 i) = 6) ∧ (gS S 120 i = 4 → inP (gS S 124 i) 0 999999) ∧ (gS S 120 i = 5 → inP (gS S 124 i) (-99) 99) ∧ ((gS S 120 i = 1 ∨ gS S 120 i = 2) → inP (gS S 124 i) 0 999999) ∧ ((gS S 120 i = 3 ∨ gS S 120 i = 4 ∨ gS S 120 i = 5) → inP (gS S 125 i) 1 4) ∧ (¬ (gS S 120 i = 3 ∨ gS S 120 i = 4 ∨ gS S 120 i = 5) → gS S 125 i = -1)
def SInv (S : SS) : Prop :=
  (S 12 1 = nI (nSt S) ∧ nSt S ≤ 11) ∧ (S 12 2 = nI (nCl S) ∧ nCl S ≤ 12) ∧ (S 12 8 = nI (nRd S) ∧ nRd S ≤ 90) ∧ (S 12 20 = nI (nLe S) ∧ nLe S ≤ 60) ∧ (S 12 25 = nI (nRu S) ∧ nRu S ≤ 12) ∧ (S 12 26 = nI (nFd S) ∧ nFd S ≤ 140) ∧ (S 12 59 = nI (nPl S) ∧ nPl S ≤ 9) ∧ inP (S 12 0) 0 9999 ∧
  (∀ i, vp_in i (nCl S) → vp_in (gS S 118 i) (nSt S) ∧ inP (gS S 119 i) (-1) 999999) ∧ (∀ i, vp_in i (nRd S) → RdI S i)
