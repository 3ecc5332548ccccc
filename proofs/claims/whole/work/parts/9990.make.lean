/-! ===== the first state: what the class's and the reference's making leave ===== -/
def AGH (X : Nat → Bool) (σ τ : XH) : Prop := ∀ s, X s = false → hc σ s = hc τ s ∧ hi σ s = hi τ s ∧ hr σ s = hr τ s ∧ ∀ i, hn τ s i ≠ 0 → hn σ s i = hn τ s i
theorem AGH.c {X : Nat → Bool} {σ τ : XH} (a : AGH X σ τ) (s : Nat) (hs : X s = false) : hc σ s = hc τ s := (a s hs).1
theorem AGH.i {X : Nat → Bool} {σ τ : XH} (a : AGH X σ τ) (s : Nat) (hs : X s = false) : hi σ s = hi τ s := (a s hs).2.1
theorem AGH.r {X : Nat → Bool} {σ τ : XH} (a : AGH X σ τ) (s : Nat) (hs : X s = false) : hr σ s = hr τ s := (a s hs).2.2.1
theorem AGH.n {X : Nat → Bool} {σ τ : XH} (a : AGH X σ τ) (s i : Nat) (hs : X s = false) (h : hn τ s i ≠ 0) : hn σ s i = hn τ s i := (a s hs).2.2.2 i h
theorem AGH.wI {X : Nat → Bool} {σ τ : XH} (a : AGH X σ τ) (s i k : Nat) (x : Int32) : AGH X (wI σ s i k x) (wI τ s i k x) := fun t ht => ⟨a.c t ht, funext fun j => funext fun l => by rw [hi_wI', hi_wI', a.i t ht], a.r t ht, fun j hj => a.n t j ht hj⟩
theorem AGH.wL {X : Nat → Bool} {σ τ : XH} (a : AGH X σ τ) (s i k : Nat) (x : Int64) : AGH X (wL σ s i k x) (wL τ s i k x) := fun t ht => ⟨a.c t ht, a.i t ht, a.r t ht, fun j hj => a.n t j ht hj⟩
theorem AGH.wR {X : Nat → Bool} {σ τ : XH} (a : AGH X σ τ) (s i k : Nat) (x : Option XO) : AGH X (wR σ s i k x) (wR τ s i k x) := fun t ht => ⟨a.c t ht, a.i t ht, funext fun j => funext fun l => by rw [hr_wR', hr_wR', a.r t ht], fun j hj => a.n t j ht hj⟩
theorem AGH.nwO {X : Nat → Bool} {σ τ : XH} (a : AGH X σ τ) (s : Nat) : AGH X (nwO σ s) (nwO τ s) := fun t ht => ⟨by
  rw [hc_nwO, hc_nwO]
  by_cases y : t = s
  · rw [if_pos y, if_pos y, ← y, a.c t ht]
  · rw [if_neg y, if_neg y, a.c t ht], a.i t ht, a.r t ht, fun j hj => a.n t j ht hj⟩
theorem AGH.nwA {X : Nat → Bool} {σ τ : XH} (a : AGH X σ τ) (s n : Nat) : AGH X (nwA σ s n) (nwA τ s n) := fun t ht => ⟨by
  rw [hc_nwA, hc_nwA]
  by_cases y : t = s
  · rw [if_pos y, if_pos y, ← y, a.c t ht]
  · rw [if_neg y, if_neg y, a.c t ht], a.i t ht, a.r t ht, fun j hj => by
  rw [hn_nwA] at hj ⊢
  rw [hn_nwA]
  by_cases y : t = s
  · subst y
    rw [a.c t ht]
    by_cases z : t = t ∧ j = hc τ t
    · rw [if_pos z, if_pos z]
    · rw [if_neg z] at hj
      rw [if_neg z, if_neg z]
      exact a.n t j ht hj
  · rw [if_neg (fun z => y z.1)] at hj
    rw [if_neg (fun z => y z.1), if_neg (fun z => y z.1)]
    exact a.n t j ht hj⟩
theorem AGH.fr {X X' T : Nat → Bool} {σ τ g : XH} (a : AGH X σ τ) (hF : Fr T σ g) (h : ∀ s, X' s = false → X s = false ∧ T s = false) : AGH X' g τ := fun s hs => by
  obtain ⟨h1, h2⟩ := h s hs
  obtain ⟨f1, f2, f3, _, f5⟩ := hF s h2
  obtain ⟨b1, b2, b3, b4⟩ := a s h1
  exact ⟨f1.trans b1, f3.trans b2, f5.trans b3, fun i hi => by rw [f2]; exact b4 i hi⟩
theorem ku_of {K : XH → Prop} {g : XH} (h : K g) : kU K vU g := h
def XA (s : Nat) : Bool := Nat.ble 500 s
def XB (s : Nat) : Bool := Nat.ble 500 s || tl [6, 103, 104, 105] s
def Y0 (s : Nat) : Bool := Nat.blt s 500
def YB (s : Nat) : Bool := Nat.blt s 500 && !tl [6, 103, 104, 105] s
theorem XB_X {s : Nat} (h : XB s = false) : XA s = false ∧ tl [6, 103, 104, 105] s = false := Bool.or_eq_false_iff.mp h
theorem Y0_6 {s : Nat} (h : Y0 s = false) : tl [6, 103, 104, 105] s = false := by
  cases z : tl [6, 103, 104, 105] s with
  | false => rfl
  | true =>
    have := (show ∀ t ∈ [6, 103, 104, 105], Y0 t = true by decide)
    unfold tl at z
    obtain ⟨u, hu, hb⟩ := List.any_eq_true.mp z
    rw [← Nat.eq_of_beq_eq_true hb] at hu
    rw [this s hu] at h
    cases h
