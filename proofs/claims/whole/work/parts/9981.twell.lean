/-! ===== rests that agree too well ===== -/
/-- digits of a number of base three, together -/
def ds3 : Nat → Nat → Nat
  | 0, _ => 0
  | f + 1, w => if w = 0 then 0 else w % 3 + ds3 f (w / 3)
/-- how many of the first so many numbers have such digits -/
def cn3 (f : Nat) (P : Nat → Bool) : Nat → Nat
  | 0 => 0
  | m + 1 => cn3 f P m + (if P (ds3 f m) = true then 1 else 0)
def wyC : Nat → (Nat → Bool) → Nat
  | 0, P => if P 0 = true then 1 else 0
  | n + 1, P => wyC n P + (wyC n (fun j => P (j + 1)) + wyC n (fun j => P (j + 2)))
theorem ds3_0 : ∀ f, ds3 f 0 = 0
  | 0 => rfl
  | f + 1 => if_pos rfl
theorem ds3_s (f m d : Nat) (hd : d < 3) : ds3 (f + 1) (3 * m + d) = ds3 f m + d := by
  show (if 3 * m + d = 0 then 0 else (3 * m + d) % 3 + ds3 f ((3 * m + d) / 3)) = ds3 f m + d
  by_cases c : 3 * m + d = 0
  · rw [if_pos c]
    have h1 : m = 0 := by omega
    have h2 : d = 0 := by omega
    rw [h1, h2, ds3_0]
  · rw [if_neg c]
    have e1 : (3 * m + d) % 3 = d := by omega
    have e2 : (3 * m + d) / 3 = m := by omega
    rw [e1, e2, Nat.add_comm]
theorem cn3_3 (f : Nat) (P : Nat → Bool) : ∀ m, cn3 (f + 1) P (3 * m) = cn3 f P m + (cn3 f (fun j => P (j + 1)) m + cn3 f (fun j => P (j + 2)) m)
  | 0 => rfl
  | m + 1 => by
    have ih := cn3_3 f P m
    have e : 3 * (m + 1) = 3 * m + 2 + 1 := by omega
    rw [e]
    show cn3 (f + 1) P (3 * m) + (if P (ds3 (f + 1) (3 * m)) = true then 1 else 0) + (if P (ds3 (f + 1) (3 * m + 1)) = true then 1 else 0) + (if P (ds3 (f + 1) (3 * m + 2)) = true then 1 else 0) = cn3 f P m + (if P (ds3 f m) = true then 1 else 0) + (cn3 f (fun j => P (j + 1)) m + (if P (ds3 f m + 1) = true then 1 else 0) + (cn3 f (fun j => P (j + 2)) m + (if P (ds3 f m + 2) = true then 1 else 0)))
    have s0 : ds3 (f + 1) (3 * m) = ds3 f m := ds3_s f m 0 (by omega)
    rw [ih, s0, ds3_s f m 1 (by omega), ds3_s f m 2 (by omega)]
    omega
theorem cn3_wy : ∀ (n : Nat) (P : Nat → Bool), cn3 n P (3 ^ n) = wyC n P
  | 0, P => by
    show 0 + (if P 0 = true then 1 else 0) = if P 0 = true then 1 else 0
    rw [Nat.zero_add]
  | n + 1, P => by
    have e : 3 ^ (n + 1) = 3 * 3 ^ n := by rw [Nat.pow_succ, Nat.mul_comm]
    rw [e, cn3_3, cn3_wy n, cn3_wy n, cn3_wy n]
    rfl
/-- the ways that so many can have a sum of spans -/
def wyN : Nat → Nat → Nat
  | 0, j => if j = 0 then 1 else 0
  | k + 1, j => wyN k j + ((if j = 0 then 0 else wyN k (j - 1)) + (if j < 2 then 0 else wyN k (j - 2)))
def swN (P : Nat → Bool) (f : Nat → Nat) : Nat → Nat
  | 0 => 0
  | m + 1 => swN P f m + (if P m = true then f m else 0)
theorem swN_add (P : Nat → Bool) (f g k : Nat → Nat) : ∀ m, swN P (fun j => f j + (g j + k j)) m = swN P f m + (swN P g m + swN P k m)
  | 0 => rfl
  | m + 1 => by
    show swN P (fun j => f j + (g j + k j)) m + (if P m = true then f m + (g m + k m) else 0) = swN P f m + (if P m = true then f m else 0) + (swN P g m + (if P m = true then g m else 0) + (swN P k m + (if P m = true then k m else 0)))
    rw [swN_add P f g k m]
    split <;> omega
theorem swN_s1 (P : Nat → Bool) (f : Nat → Nat) : ∀ m, swN P (fun j => if j = 0 then 0 else f (j - 1)) (m + 1) = swN (fun j => P (j + 1)) f m
  | 0 => by
    show 0 + (if P 0 = true then 0 else 0) = 0
    split <;> rfl
  | m + 1 => by
    show swN P (fun j => if j = 0 then 0 else f (j - 1)) (m + 1) + (if P (m + 1) = true then f m else 0) = swN (fun j => P (j + 1)) f m + (if P (m + 1) = true then f m else 0)
    rw [swN_s1 P f m]
theorem swN_s2 (P : Nat → Bool) (f : Nat → Nat) : ∀ m, swN P (fun j => if j < 2 then 0 else f (j - 2)) (m + 2) = swN (fun j => P (j + 2)) f m
  | 0 => by
    show 0 + (if P 0 = true then 0 else 0) + (if P 1 = true then 0 else 0) = 0
    split <;> split <;> rfl
  | m + 1 => by
    show swN P (fun j => if j < 2 then 0 else f (j - 2)) (m + 2) + (if P (m + 2) = true then (if m + 2 < 2 then 0 else f (m + 2 - 2)) else 0) = swN (fun j => P (j + 2)) f m + (if P (m + 2) = true then f m else 0)
    rw [swN_s2 P f m, if_neg (show ¬ m + 2 < 2 by omega)]
    rfl
theorem swN_wy : ∀ (n : Nat) (P : Nat → Bool) (m : Nat), 2 * n < m → swN P (wyN n) m = wyC n P
  | 0, P, m, hm => by
    have go : ∀ m, swN P (wyN 0) (m + 1) = if P 0 = true then 1 else 0 := by
      intro m
      induction m with
      | zero =>
        show 0 + (if P 0 = true then 1 else 0) = _
        rw [Nat.zero_add]
      | succ m ih =>
        show swN P (wyN 0) (m + 1) + (if P (m + 1) = true then wyN 0 (m + 1) else 0) = _
        rw [ih]
        have e : wyN 0 (m + 1) = 0 := if_neg (Nat.succ_ne_zero m)
        rw [e]
        split <;> split <;> rfl
    cases m with
    | zero => omega
    | succ m => exact go m
  | n + 1, P, m, hm => by
    have e1 : wyN (n + 1) = fun j => wyN n j + ((if j = 0 then 0 else wyN n (j - 1)) + (if j < 2 then 0 else wyN n (j - 2))) := rfl
    rw [e1, swN_add]
    obtain ⟨q, hq⟩ : ∃ q, m = q + 2 := ⟨m - 2, by omega⟩
    subst hq
    rw [swN_wy n P (q + 2) (by omega), swN_s1 P (wyN n) (q + 1), swN_s2 P (wyN n) q, swN_wy n _ (q + 1) (by omega), swN_wy n _ q (by omega)]
    rfl
theorem wyN_bd : ∀ n, n ≤ 8 → ∀ j, j < 17 → wyN n j ≤ 6561 := by decide +kernel
theorem swN_bd (P : Nat → Bool) (n : Nat) (hn : n ≤ 8) : ∀ m, m ≤ 17 → swN P (wyN n) m ≤ 6561 * m
  | 0, _ => Nat.le_refl 0
  | m + 1, hm => by
    have ih := swN_bd P n hn m (by omega)
    have := wyN_bd n hn m (by omega)
    show swN P (wyN n) m + (if P m = true then wyN n m else 0) ≤ 6561 * (m + 1)
    split <;> omega
theorem cn3_bd (f : Nat) (P : Nat → Bool) : ∀ m, cn3 f P m ≤ m
  | 0 => Nat.le_refl 0
  | m + 1 => by
    have := cn3_bd f P m
    unfold cn3
    split <;> omega
theorem div3_b : allB (fun s => decide (nI s / 3 = nI (s / 3)) && decide (nI s - nI s / 3 * 3 = nI (s % 3))) 13 0 = true := by decide +kernel
theorem div3 {s : Nat} (hs : s < 8192) : nI s / 3 = nI (s / 3) ∧ nI s - nI s / 3 * 3 = nI (s % 3) := by
  have := allB_ok 13 0 div3_b s hs
  rw [Nat.zero_add, Bool.and_eq_true] at this
  exact ⟨of_decide_eq_true this.1, of_decide_eq_true this.2⟩
theorem pow3_n : ∀ k, k < 8 → nI (3 ^ k) * 3 = nI (3 ^ (k + 1)) := by decide +kernel
theorem pow3_le : ∀ k, k ≤ 8 → 3 ^ k ≤ 6561 := by decide
/-- the rests either way, together -/
def arF (S : SS) (h d p : Int32) (L : List Nat) : Nat → Int64
  | 0 => 0
  | k + 1 => arF S h d p L k + (abI (rsF S h d (L.getD k 0) p)).toInt64
abbrev twP (span : Int32) (total : Int64) (j : Nat) : Bool := decide ((nI j).toInt64 * span.toInt64 < total)
def tooWellG (S : SS) (h d span : Int32) : Int32 :=
  if ¬ inP h 0 2 then -1 else if ¬ inP d 0 9999 ∨ ¬ inP span 1 99 then -2 else if 8 < (CL S h d).length ∨ ¬ 0 < (smA S h d 0).2 then -3
  else nI (wyC (CL S h d).length (twP span (arF S h d (dsF (smA S h d 0).1 (smA S h d 0).2) (CL S h d) (CL S h d).length)))
theorem ds3_bd : ∀ f w, ds3 f w ≤ 2 * f
  | 0, _ => Nat.le_refl 0
  | f + 1, w => by
    have := ds3_bd f (w / 3)
    unfold ds3
    split
    · omega
    · have := Nat.mod_lt w (show 0 < 3 by omega)
      omega
theorem lp_ds3 {d rc rs n : Nat} {l9 : Nat} {span : Int32} {total : Int64} {ways : Int32} {cnt : Nat} {σ : XH} {Q : XV → XH → Prop} (hn8 : n ≤ 8)
    (h : Ex d rc rs m_X11_tooWell 118 [vU, vU, vU, vI span, vU, vL total, vU, vI ways, vI (nI (cnt + (if twP span total (ds3 n l9) = true then 1 else 0))), vI (nI (l9 + 1)), vU, vU] [] σ Q) :
    ∀ (f w acc : Nat), w < 3 ^ f → w < 8192 → acc + ds3 f w = ds3 n l9 → acc < 1000 → Ex d rc rs m_X11_tooWell 132 [vU, vU, vU, vI span, vU, vL total, vU, vI ways, vI (nI cnt), vI (nI l9), vI (nI acc), vI (nI w)] [] σ Q := by
  have fin : ∀ acc, acc = ds3 n l9 → Ex d rc rs m_X11_tooWell 132 [vU, vU, vU, vI span, vU, vL total, vU, vI ways, vI (nI cnt), vI (nI l9), vI (nI acc), vI (nI 0)] [] σ Q := fun acc ea => by
    have h174 : ∀ q : Nat, q = (if twP span total (ds3 n l9) = true then 1 else 0) → Ex d rc rs m_X11_tooWell 174 [vU, vU, vU, vI span, vU, vL total, vU, vI ways, vU, vI (nI l9), vU, vU] [vI (nI q), vI (nI cnt)] σ Q := fun q eq => by
      refine sX11_tooWell_174 ?_
      unfold bX11_tooWell_174
      rw [nI_add, nI_1, eq]
      exact h
    refine sX11_tooWell_132 ?_
    unfold bX11_tooWell_132
    rw [lgc_lt, ea]
    refine ⟨fun y => absurd y (by decide), fun _ => ⟨fun y => h174 1 (by rw [if_pos (decide_eq_true y)]), fun y => h174 0 (by rw [if_neg (fun z => y (of_decide_eq_true z))])⟩⟩
  intro f
  induction f with
  | zero =>
    intro w acc hw hw2 ha hacc
    have : w = 0 := by
      rw [Nat.pow_zero] at hw
      omega
    subst this
    exact fin acc (by rw [ds3_0] at ha; omega)
  | succ f ih =>
    intro w acc hw hw2 ha hacc
    by_cases c : w = 0
    · subst c
      exact fin acc (by rw [ds3_0] at ha; omega)
    · have eds : ds3 (f + 1) w = w % 3 + ds3 f (w / 3) := if_neg c
      rw [eds] at ha
      obtain ⟨d1, d2⟩ := div3 hw2
      refine sX11_tooWell_132 ?_
      unfold bX11_tooWell_132
      have hpos : (0 : Int32) < nI w := by
        rw [fa_lt, nI_toInt (by omega)]
        have e0 : (0 : Int32).toInt = 0 := by decide
        omega
      refine ⟨fun _ => ⟨by decide, by decide, ?_⟩, fun y => absurd hpos y⟩
      rw [d2, d1, nI_add]
      have hp : (3 : Nat) ^ (f + 1) = 3 * 3 ^ f := by rw [Nat.pow_succ, Nat.mul_comm]
      have hm := Nat.mod_lt w (show 0 < 3 by omega)
      have hbd := ds3_bd n l9
      refine ih (w / 3) (acc + w % 3) (by omega) (by omega) (by omega) ?_
      omega
