/-! ===== what the class's heap holds, told by the logical state ===== -/
def SA (A K : Nat → Bool) (S S' : SS) : Prop := (∀ s, s ≠ 12 → A s = false → S' s = S s) ∧ (∀ k, K k = false → S' 12 k = S 12 k)
theorem SA.rf (A K : Nat → Bool) (S : SS) : SA A K S S := ⟨fun _ _ _ => rfl, fun _ _ => rfl⟩
theorem SA.trans {A K : Nat → Bool} {a b c : SS} (h : SA A K a b) (k : SA A K b c) : SA A K a c := ⟨fun s h1 h2 => (k.1 s h1 h2).trans (h.1 s h1 h2), fun j hj => (k.2 j hj).trans (h.2 j hj)⟩
theorem SA.sub {A K A' K' : Nat → Bool} {a b : SS} (h : SA A K a b) (hA : ∀ s, A' s = false → A s = false) (hK : ∀ s, K' s = false → K s = false) : SA A' K' a b := ⟨fun s h1 h2 => h.1 s h1 (hA s h2), fun j hj => h.2 j (hK j hj)⟩
theorem SA.a {A K : Nat → Bool} {S S' : SS} (h : SA A K S S') {s : Nat} (h1 : s ≠ 12) (h2 : A s = false) : S' s = S s := h.1 s h1 h2
theorem SA.k {A K : Nat → Bool} {S S' : SS} (h : SA A K S S') {j : Nat} (h2 : K j = false) : S' 12 j = S 12 j := h.2 j h2
/-- a write to an array -/
theorem SA.wa {A K : Nat → Bool} {S S' : SS} (h : SA A K S S') {s : Nat} (k : Nat) (x : Int32) (h1 : s ≠ 12) (h2 : A s = true) : SA A K S (up2 S' s k x) :=
  h.trans ⟨fun t _ ht => up2_s _ _ _ (fun z => by rw [z, h2] at ht; cases ht), fun j _ => by rw [up2_s _ _ _ (fun z => h1 z.symm)]⟩
/-- a write to a scalar -/
theorem SA.wk {A K : Nat → Bool} {S S' : SS} (h : SA A K S S') (k : Nat) (x : Int32) (h2 : K k = true) : SA A K S (up2 S' 12 k x) :=
  h.trans ⟨fun t ht _ => up2_s _ _ _ ht, fun j hj => up2_k _ _ _ (fun z => by rw [z, h2] at hj; cases hj) _⟩
/-! the derived functions look at few sites -/
theorem sbl_cg {S S' : SS} (h : ∀ s, s ∈ [119, 120, 121, 123, 129] → S' s = S s) (c x : Int32) : ∀ n, sbl S' c x n = sbl S c x n
  | 0 => rfl
  | r + 1 => by
    unfold sbl
    rw [sbl_cg h c x r]
    simp only [isStar, gS, h 119 (by decide), h 120 (by decide), h 121 (by decide), h 123 (by decide), h 129 (by decide)]
theorem sab_cg {S S' : SS} (h : ∀ s, s ∈ [119, 120, 121, 123, 129] → S' s = S s) (c x : Int32) : ∀ n, sab S' c x n = sab S c x n
  | 0 => rfl
  | r + 1 => by
    unfold sab
    rw [sab_cg h c x r]
    simp only [isStar, gS, h 119 (by decide), h 120 (by decide), h 121 (by decide), h 123 (by decide), h 129 (by decide)]
theorem tmF_cg {S S' : SS} (h : ∀ s, s ∈ [119, 120, 121, 123, 124, 129] → S' s = S s) (h8 : S' 12 8 = S 12 8) (c t : Int32) : tmF S' c t = tmF S c t := by
  have hh : ∀ s, s ∈ [119, 120, 121, 123, 129] → S' s = S s := fun s hs => h s (by revert s; decide)
  have e1 : ∀ a, gS S' 119 a = gS S 119 a := fun a => by simp only [gS, h 119 (by decide)]
  have e2 : ∀ a, gS S' 123 a = gS S 123 a := fun a => by simp only [gS, h 123 (by decide)]
  have e3 : ∀ a, gS S' 124 a = gS S 124 a := fun a => by simp only [gS, h 124 (by decide)]
  have e4 : ∀ a b, tmV S' t a b = tmV S t a b := fun a b => by simp only [tmV, e2, e3]
  have e5 : nRd S' = nRd S := by simp only [nRd, h8]
  unfold tmF
  simp only [e1, e2, e4, e5, sbl_cg hh, sab_cg hh]
theorem lonA_cg {S S' : SS} (h : ∀ s, s ∈ [118, 119, 120, 121, 123, 124, 129] → S' s = S s) (h8 : S' 12 8 = S 12 8) (s : Int32) : ∀ n, lonA S' s n = lonA S s n
  | 0 => rfl
  | r + 1 => by
    have hh : ∀ s, s ∈ [119, 120, 121, 123, 124, 129] → S' s = S s := fun s hs => h s (by revert s; decide)
    unfold lonA
    rw [lonA_cg h h8 s r]
    simp only [gS, tmF_cg hh h8, h 118 (by decide), h 120 (by decide), h 121 (by decide), h 123 (by decide), h 124 (by decide), h 129 (by decide)]
theorem lonF_cg {S S' : SS} (h : ∀ s, s ∈ [116, 118, 119, 120, 121, 123, 124, 129] → S' s = S s) (h8 : S' 12 8 = S 12 8) (s : Int32) : lonF S' s = lonF S s := by
  have hh : ∀ s, s ∈ [118, 119, 120, 121, 123, 124, 129] → S' s = S s := fun s hs => h s (by revert s; decide)
  unfold lonF
  simp only [gS, h 116 (by decide), lonA_cg hh h8, nRd, h8]
theorem seA_cg {S S' : SS} (h : ∀ s, s ∈ [116, 117, 118, 119, 120, 121, 123, 124, 129] → S' s = S s) (h8 : S' 12 8 = S 12 8) (c t m : Int32) : seA S' c t m = seA S c t m := by
  have h1 : ∀ s, s ∈ [116, 118, 119, 120, 121, 123, 124, 129] → S' s = S s := fun s hs => h s (by revert s; decide)
  have h2 : ∀ s, s ∈ [119, 120, 121, 123, 124, 129] → S' s = S s := fun s hs => h s (by revert s; decide)
  unfold seA
  simp only [gS, tmF_cg h2 h8, lonF_cg h1 h8, h 117 (by decide), h 118 (by decide)]
theorem seO_cg {S S' : SS} (h : ∀ s, s ∈ [116, 117, 118, 119, 120, 121, 123, 124, 127, 129] → S' s = S s) (h8 : S' 12 8 = S 12 8) (r e : Int32) : seO S' r e = seO S r e := by
  have h1 : ∀ s, s ∈ [116, 117, 118, 119, 120, 121, 123, 124, 129] → S' s = S s := fun s hs => h s (by revert s; decide)
  unfold seO
  simp only [gS, seA_cg h1 h8, h 120 (by decide), h 121 (by decide), h 123 (by decide), h 124 (by decide), h 127 (by decide)]
/-! ===== the class's cells ===== -/
def cLk : List (Nat × Nat × Nat × Nat) := [(11, 0, 0, 0), (11, 1, 0, 1), (11, 2, 0, 2), (11, 3, 0, 3), (11, 4, 0, 4), (11, 5, 0, 5), (11, 6, 400, 0), (11, 7, 115, 0), (11, 8, 7, 0), (11, 9, 6, 0), (11, 10, 9, 0), (11, 11, 1, 0), (1, 0, 100, 0), (7, 0, 200, 0), (9, 0, 107, 0), (9, 1, 108, 0), (9, 2, 109, 0), (9, 3, 110, 0), (9, 4, 111, 0), (9, 5, 112, 0), (9, 6, 113, 0), (400, 0, 10, 0), (400, 1, 10, 1), (400, 2, 10, 2), (400, 3, 10, 3), (400, 4, 10, 4), (400, 5, 10, 5)]
def cLn : List (Nat × Nat) := [(100, 20), (200, 140), (107, 90), (108, 90), (109, 90), (110, 90), (111, 90), (112, 11), (113, 17), (115, 5), (400, 6), (500, 8), (501, 24)]
def aboveC : List Int32 := [-1, 0, 0, 0, 3, 0, 0, 0]
def bodiesC : List Int32 := [10, 20, 0, 0, 50, 0, 70, 0, 11, 0, 30, 0, 0, 60, 0, 0, 12, 0, 0, 40, 51, 0, 0, 80]
/-- the texts of the rule's reader, in the order of the pool's places -/
def strC : List (List Int32) := [[101, 100, 103, 101, 115, 32], [98, 108, 117, 114, 32], [114, 101, 115, 116, 32], [115, 116, 114, 105, 107, 101, 32], [61], [41], [99, 111, 112, 105, 101, 100], [119], [105, 116, 104, 100, 114, 97, 119, 110], [101, 105, 103, 104, 32], [32], [59]]
def CFX (σ : XH) : Prop := (∀ q ∈ cLk, hr σ q.1 0 q.2.1 = some q.2.2) ∧ (∀ q ∈ cLn, hn σ q.1 0 = q.2) ∧ (∀ t, t < 6 → hr σ 10 t 0 = some (114, t) ∧ hn σ 114 t = 60) ∧ (hc σ 10 = 6 ∧ hc σ 114 = 6 ∧ hc σ 11 = 1 ∧ hc σ 7 = 1 ∧ hc σ 9 = 1 ∧ hc σ 1 = 1) ∧
  (∀ (k : Nat) (x : Int32), aboveC[k]? = some x → hi σ 500 0 k = x) ∧ (∀ (k : Nat) (x : Int32), bodiesC[k]? = some x → hi σ 501 0 k = x) ∧ (∀ (t : Nat) (l : List Int32), strC[t]? = some l → hn σ 513 t = l.length ∧ ∀ (k : Nat) (x : Int32), l[k]? = some x → hi σ 513 t k = x)
def CSt (σ : XH) (S : SS) : Prop := hc σ 8 = nSt S ∧ hc σ 106 = nSt S ∧ ∀ s, s < nSt S → hi σ 8 s 0 = nI s ∧ hi σ 8 s 1 = (if S 116 s = 99999 then 0 else 1) ∧ hi σ 8 s 2 = S 117 s / 100 ∧ hi σ 8 s 4 = lonF S (nI s) ∧ hr σ 8 s 3 = some (106, s) ∧ hn σ 106 s = 5 ∧ hi σ 106 s 0 = 0 ∧ ∀ n, 1 ≤ n → n ≤ 4 → hi σ 106 s n = S 146 (4 * s + n - 1)
/-- the stars of a clock among the first k readings stand in the order of what they show, of those that show the same the latest alone -/
def StR (σ : XH) (S : SS) (c k : Nat) : Prop := ∃ n : Nat, hi σ 2 c 4 = nI n ∧ n ≤ 90 ∧ (∀ i j, i < j → j < n → (hi σ 101 c i).toInt < (hi σ 101 c j).toInt) ∧
  (∀ i, i < n → ∃ r, r < k ∧ isStar S (nI r) (nI c) ∧ S 123 r = hi σ 101 c i ∧ S 124 r = hi σ 102 c i ∧ ∀ r', r < r' → r' < k → isStar S (nI r') (nI c) → ¬ S 123 r' = hi σ 101 c i) ∧
  (∀ r, r < k → isStar S (nI r) (nI c) → ∃ i, i < n ∧ hi σ 101 c i = S 123 r)
def CCl (σ : XH) (S : SS) : Prop := hc σ 2 = nCl S ∧ hc σ 101 = nCl S ∧ hc σ 102 = nCl S ∧ ∀ c, c < nCl S → hi σ 2 c 0 = nI c ∧ hr σ 2 c 1 = some (8, (S 118 c).toNatClampNeg) ∧ hr σ 2 c 2 = some (101, c) ∧ hr σ 2 c 3 = some (102, c) ∧ hn σ 101 c = 90 ∧ hn σ 102 c = 90 ∧ hi σ 2 c 5 = (if S 119 c < 0 then NOi else S 119 c) ∧ StR σ S c (nRd S)
def CRd (σ : XH) (S : SS) : Prop := hc σ 5 = nRd S ∧ ∀ r, r < nRd S → hi σ 5 r 0 = nI r ∧ hi σ 5 r 1 = S 120 r ∧ hr σ 5 r 2 = some (2, (S 121 r).toNatClampNeg) ∧ hi σ 5 r 3 = S 122 r ∧ hi σ 5 r 4 = S 123 r ∧ hr σ 5 r 5 = (if S 120 r = 6 then some (5, (S 127 r).toNatClampNeg) else none) ∧ hi σ 5 r 6 = (if S 120 r = 3 ∨ S 120 r = 6 then 0 else S 124 r) ∧ hi σ 5 r 7 = (if S 125 r = -1 then 0 else S 125 r) ∧ hi σ 5 r 8 = S 126 r ∧ hi σ 5 r 9 = S 128 r ∧ hi σ 5 r 10 = S 129 r
def CLe (σ : XH) (S : SS) : Prop := hc σ 3 = nLe S ∧ ∀ k, k < nLe S → hi σ 3 k 0 = S 130 k ∧ hi σ 3 k 1 = S 131 k ∧ hi σ 3 k 2 = S 133 k ∧ hi σ 3 k 3 = S 132 k
def CPl (σ : XH) (S : SS) : Prop := hc σ 4 = nPl S ∧ ∀ k, k < nPl S → hi σ 4 k 0 = S 148 k * S 147 k * S 147 k ∧ hi σ 4 k 1 = S 149 k
def CTp (σ : XH) (S : SS) : Prop := ∀ t, t < 6 → hi σ 10 t 1 = S 151 t ∧ hi σ 10 t 2 = S 152 t ∧ ∀ k, k < 60 → hi σ 114 t k = S 153 (60 * t + k)
def CTb (σ : XH) (S : SS) : Prop := ∀ n, n ≤ 4 → hi σ 115 0 n = S 145 n
def CSc (σ : XH) (S : SS) : Prop := hi σ 11 0 12 = S 12 0 ∧ hi σ 11 0 13 = S 12 3 ∧ hi σ 11 0 14 = (if S 12 19 < 0 then -3 else S 12 19)
def CTx (σ : XH) (S : SS) : Prop := hi σ 7 0 1 = S 12 26 ∧ ∀ k, k < nFd S → hi σ 200 0 k = S 136 (1680 + k)
def CAc (σ : XH) (S : SS) : Prop := hi σ 1 0 1 = S 12 63 ∧ ∀ k, k < 20 → nI k < S 12 63 → hi σ 100 0 k = S 150 k
def EL (S : SS) (ρ : List Nat) : Nat → List XO
  | 0 => (List.range (nSt S)).map fun i => (8, i)
  | 1 => (List.range (nCl S)).map fun i => (2, i)
  | 2 => (List.range (nRd S)).map fun i => (5, i)
  | 3 => (List.range (nLe S)).map fun i => (3, i)
  | 4 => ρ.map fun i => (6, i)
  | _ => (List.range (nPl S)).map fun i => (4, i)

theorem CSt.tr {σ σ' : XH} {S S' : SS} {T A K : Nat → Bool} (h : CSt σ S) (hF : Fr T σ σ') (hS : SA A K S S') (t : ∀ s, s ∈ [8, 106] → T s = false) (a : ∀ s, s ∈ [116, 117, 118, 119, 120, 121, 123, 124, 129, 146] → s ≠ 12 ∧ A s = false) (k : ∀ j, j ∈ [1, 8] → K j = false) : CSt σ' S' := by
  have i8 := hF.i (t 8 (by decide)); have r8 := hF.r (t 8 (by decide)); have n8 := hF.n (t 8 (by decide)); have c8 := hF.c (t 8 (by decide))
  have i106 := hF.i (t 106 (by decide)); have r106 := hF.r (t 106 (by decide)); have n106 := hF.n (t 106 (by decide)); have c106 := hF.c (t 106 (by decide))
  have a116 := hS.a (a 116 (by decide)).1 (a 116 (by decide)).2
  have a117 := hS.a (a 117 (by decide)).1 (a 117 (by decide)).2
  have a118 := hS.a (a 118 (by decide)).1 (a 118 (by decide)).2
  have a119 := hS.a (a 119 (by decide)).1 (a 119 (by decide)).2
  have a120 := hS.a (a 120 (by decide)).1 (a 120 (by decide)).2
  have a121 := hS.a (a 121 (by decide)).1 (a 121 (by decide)).2
  have a123 := hS.a (a 123 (by decide)).1 (a 123 (by decide)).2
  have a124 := hS.a (a 124 (by decide)).1 (a 124 (by decide)).2
  have a129 := hS.a (a 129 (by decide)).1 (a 129 (by decide)).2
  have a146 := hS.a (a 146 (by decide)).1 (a 146 (by decide)).2
  have k1 := hS.k (k 1 (by decide))
  have k8 := hS.k (k 8 (by decide))
  have hl : ∀ s, lonF S' s = lonF S s := lonF_cg (fun s hs => by have := a s (by revert s; decide); exact hS.a this.1 this.2) k8
  unfold CSt at *
  simp only [nSt, nCl, nRd, nLe, nPl, nFd, i8, r8, n8, c8, i106, r106, n106, c106, a116, a117, a118, a119, a120, a121, a123, a124, a129, a146, k1, k8, hl] at *
  exact h
theorem CRd.tr {σ σ' : XH} {S S' : SS} {T A K : Nat → Bool} (h : CRd σ S) (hF : Fr T σ σ') (hS : SA A K S S') (t : ∀ s, s ∈ [5] → T s = false) (a : ∀ s, s ∈ [120, 121, 122, 123, 124, 125, 126, 127, 128, 129] → s ≠ 12 ∧ A s = false) (k : ∀ j, j ∈ [8] → K j = false) : CRd σ' S' := by
  have i5 := hF.i (t 5 (by decide)); have r5 := hF.r (t 5 (by decide)); have n5 := hF.n (t 5 (by decide)); have c5 := hF.c (t 5 (by decide))
  have a120 := hS.a (a 120 (by decide)).1 (a 120 (by decide)).2
  have a121 := hS.a (a 121 (by decide)).1 (a 121 (by decide)).2
  have a122 := hS.a (a 122 (by decide)).1 (a 122 (by decide)).2
  have a123 := hS.a (a 123 (by decide)).1 (a 123 (by decide)).2
  have a124 := hS.a (a 124 (by decide)).1 (a 124 (by decide)).2
  have a125 := hS.a (a 125 (by decide)).1 (a 125 (by decide)).2
  have a126 := hS.a (a 126 (by decide)).1 (a 126 (by decide)).2
  have a127 := hS.a (a 127 (by decide)).1 (a 127 (by decide)).2
  have a128 := hS.a (a 128 (by decide)).1 (a 128 (by decide)).2
  have a129 := hS.a (a 129 (by decide)).1 (a 129 (by decide)).2
  have k8 := hS.k (k 8 (by decide))
  unfold CRd at *
  simp only [nSt, nCl, nRd, nLe, nPl, nFd, i5, r5, n5, c5, a120, a121, a122, a123, a124, a125, a126, a127, a128, a129, k8] at *
  exact h
theorem CLe.tr {σ σ' : XH} {S S' : SS} {T A K : Nat → Bool} (h : CLe σ S) (hF : Fr T σ σ') (hS : SA A K S S') (t : ∀ s, s ∈ [3] → T s = false) (a : ∀ s, s ∈ [130, 131, 132, 133] → s ≠ 12 ∧ A s = false) (k : ∀ j, j ∈ [20] → K j = false) : CLe σ' S' := by
  have i3 := hF.i (t 3 (by decide)); have r3 := hF.r (t 3 (by decide)); have n3 := hF.n (t 3 (by decide)); have c3 := hF.c (t 3 (by decide))
  have a130 := hS.a (a 130 (by decide)).1 (a 130 (by decide)).2
  have a131 := hS.a (a 131 (by decide)).1 (a 131 (by decide)).2
  have a132 := hS.a (a 132 (by decide)).1 (a 132 (by decide)).2
  have a133 := hS.a (a 133 (by decide)).1 (a 133 (by decide)).2
  have k20 := hS.k (k 20 (by decide))
  unfold CLe at *
  simp only [nSt, nCl, nRd, nLe, nPl, nFd, i3, r3, n3, c3, a130, a131, a132, a133, k20] at *
  exact h
theorem CPl.tr {σ σ' : XH} {S S' : SS} {T A K : Nat → Bool} (h : CPl σ S) (hF : Fr T σ σ') (hS : SA A K S S') (t : ∀ s, s ∈ [4] → T s = false) (a : ∀ s, s ∈ [147, 148, 149] → s ≠ 12 ∧ A s = false) (k : ∀ j, j ∈ [59] → K j = false) : CPl σ' S' := by
  have i4 := hF.i (t 4 (by decide)); have r4 := hF.r (t 4 (by decide)); have n4 := hF.n (t 4 (by decide)); have c4 := hF.c (t 4 (by decide))
  have a147 := hS.a (a 147 (by decide)).1 (a 147 (by decide)).2
  have a148 := hS.a (a 148 (by decide)).1 (a 148 (by decide)).2
  have a149 := hS.a (a 149 (by decide)).1 (a 149 (by decide)).2
  have k59 := hS.k (k 59 (by decide))
  unfold CPl at *
  simp only [nSt, nCl, nRd, nLe, nPl, nFd, i4, r4, n4, c4, a147, a148, a149, k59] at *
  exact h
theorem CTp.tr {σ σ' : XH} {S S' : SS} {T A K : Nat → Bool} (h : CTp σ S) (hF : Fr T σ σ') (hS : SA A K S S') (t : ∀ s, s ∈ [10, 114] → T s = false) (a : ∀ s, s ∈ [151, 152, 153] → s ≠ 12 ∧ A s = false) (k : ∀ j, j ∈ [] → K j = false) : CTp σ' S' := by
  have i10 := hF.i (t 10 (by decide)); have r10 := hF.r (t 10 (by decide)); have n10 := hF.n (t 10 (by decide)); have c10 := hF.c (t 10 (by decide))
  have i114 := hF.i (t 114 (by decide)); have r114 := hF.r (t 114 (by decide)); have n114 := hF.n (t 114 (by decide)); have c114 := hF.c (t 114 (by decide))
  have a151 := hS.a (a 151 (by decide)).1 (a 151 (by decide)).2
  have a152 := hS.a (a 152 (by decide)).1 (a 152 (by decide)).2
  have a153 := hS.a (a 153 (by decide)).1 (a 153 (by decide)).2
  unfold CTp at *
  simp only [nSt, nCl, nRd, nLe, nPl, nFd, i10, r10, n10, c10, i114, r114, n114, c114, a151, a152, a153] at *
  exact h
theorem CTb.tr {σ σ' : XH} {S S' : SS} {T A K : Nat → Bool} (h : CTb σ S) (hF : Fr T σ σ') (hS : SA A K S S') (t : ∀ s, s ∈ [115] → T s = false) (a : ∀ s, s ∈ [145] → s ≠ 12 ∧ A s = false) (k : ∀ j, j ∈ [] → K j = false) : CTb σ' S' := by
  have i115 := hF.i (t 115 (by decide)); have r115 := hF.r (t 115 (by decide)); have n115 := hF.n (t 115 (by decide)); have c115 := hF.c (t 115 (by decide))
  have a145 := hS.a (a 145 (by decide)).1 (a 145 (by decide)).2
  unfold CTb at *
  simp only [nSt, nCl, nRd, nLe, nPl, nFd, i115, r115, n115, c115, a145] at *
  exact h
theorem CSc.tr {σ σ' : XH} {S S' : SS} {T A K : Nat → Bool} (h : CSc σ S) (hF : Fr T σ σ') (hS : SA A K S S') (t : ∀ s, s ∈ [11] → T s = false) (a : ∀ s, s ∈ [] → s ≠ 12 ∧ A s = false) (k : ∀ j, j ∈ [0, 3, 19] → K j = false) : CSc σ' S' := by
  have i11 := hF.i (t 11 (by decide)); have r11 := hF.r (t 11 (by decide)); have n11 := hF.n (t 11 (by decide)); have c11 := hF.c (t 11 (by decide))
  have k0 := hS.k (k 0 (by decide))
  have k3 := hS.k (k 3 (by decide))
  have k19 := hS.k (k 19 (by decide))
  unfold CSc at *
  simp only [nSt, nCl, nRd, nLe, nPl, nFd, i11, r11, n11, c11, k0, k3, k19] at *
  exact h
theorem CTx.tr {σ σ' : XH} {S S' : SS} {T A K : Nat → Bool} (h : CTx σ S) (hF : Fr T σ σ') (hS : SA A K S S') (t : ∀ s, s ∈ [7, 200] → T s = false) (a : ∀ s, s ∈ [136] → s ≠ 12 ∧ A s = false) (k : ∀ j, j ∈ [26] → K j = false) : CTx σ' S' := by
  have i7 := hF.i (t 7 (by decide)); have r7 := hF.r (t 7 (by decide)); have n7 := hF.n (t 7 (by decide)); have c7 := hF.c (t 7 (by decide))
  have i200 := hF.i (t 200 (by decide)); have r200 := hF.r (t 200 (by decide)); have n200 := hF.n (t 200 (by decide)); have c200 := hF.c (t 200 (by decide))
  have a136 := hS.a (a 136 (by decide)).1 (a 136 (by decide)).2
  have k26 := hS.k (k 26 (by decide))
  unfold CTx at *
  simp only [nSt, nCl, nRd, nLe, nPl, nFd, i7, r7, n7, c7, i200, r200, n200, c200, a136, k26] at *
  exact h
theorem CAc.tr {σ σ' : XH} {S S' : SS} {T A K : Nat → Bool} (h : CAc σ S) (hF : Fr T σ σ') (hS : SA A K S S') (t : ∀ s, s ∈ [1, 100] → T s = false) (a : ∀ s, s ∈ [150] → s ≠ 12 ∧ A s = false) (k : ∀ j, j ∈ [63] → K j = false) : CAc σ' S' := by
  have i1 := hF.i (t 1 (by decide)); have r1 := hF.r (t 1 (by decide)); have n1 := hF.n (t 1 (by decide)); have c1 := hF.c (t 1 (by decide))
  have i100 := hF.i (t 100 (by decide)); have r100 := hF.r (t 100 (by decide)); have n100 := hF.n (t 100 (by decide)); have c100 := hF.c (t 100 (by decide))
  have a150 := hS.a (a 150 (by decide)).1 (a 150 (by decide)).2
  have k63 := hS.k (k 63 (by decide))
  unfold CAc at *
  simp only [nSt, nCl, nRd, nLe, nPl, nFd, i1, r1, n1, c1, i100, r100, n100, c100, a150, k63] at *
  exact h
theorem StR.tr {σ σ' : XH} {S S' : SS} {c n : Nat} (h : StR σ S c n) (h2 : hi σ' 2 c 4 = hi σ 2 c 4) (h101 : hi σ' 101 c = hi σ 101 c) (h102 : hi σ' 102 c = hi σ 102 c) (hs : ∀ r, r < n → (isStar S' (nI r) (nI c) ↔ isStar S (nI r) (nI c))) (e1 : ∀ r, r < n → S' 123 r = S 123 r) (e2 : ∀ r, r < n → S' 124 r = S 124 r) : StR σ' S' c n := by
  obtain ⟨m, m1, m2, m3, m4, m5⟩ := h
  refine ⟨m, h2.trans m1, m2, by rw [h101]; exact m3, fun i hi => ?_, fun r hr hst => ?_⟩
  · obtain ⟨r, r1, r2, r3, r4, r5⟩ := m4 i hi
    refine ⟨r, r1, (hs r r1).mpr r2, by rw [h101, e1 r r1]; exact r3, by rw [h102, e2 r r1]; exact r4, fun r' g1 g2 g3 => ?_⟩
    rw [h101, e1 r' g2]
    exact r5 r' g1 g2 ((hs r' g2).mp g3)
  · rw [h101, e1 r hr]
    exact m5 r hr ((hs r hr).mp hst)
theorem CCl.tr {σ σ' : XH} {S S' : SS} {T A K : Nat → Bool} (h : CCl σ S) (hF : Fr T σ σ') (hS : SA A K S S') (t : ∀ s, s ∈ [2, 101, 102] → T s = false) (a : ∀ s, s ∈ [118, 119, 120, 121, 123, 124, 129] → s ≠ 12 ∧ A s = false) (k : ∀ j, j ∈ [2, 8] → K j = false) : CCl σ' S' := by
  have i2 := hF.i (t 2 (by decide)); have r2 := hF.r (t 2 (by decide)); have n2 := hF.n (t 2 (by decide)); have c2 := hF.c (t 2 (by decide))
  have i101 := hF.i (t 101 (by decide)); have r101 := hF.r (t 101 (by decide)); have n101 := hF.n (t 101 (by decide)); have c101 := hF.c (t 101 (by decide))
  have i102 := hF.i (t 102 (by decide)); have r102 := hF.r (t 102 (by decide)); have n102 := hF.n (t 102 (by decide)); have c102 := hF.c (t 102 (by decide))
  have a118 := hS.a (a 118 (by decide)).1 (a 118 (by decide)).2
  have a119 := hS.a (a 119 (by decide)).1 (a 119 (by decide)).2
  have a120 := hS.a (a 120 (by decide)).1 (a 120 (by decide)).2
  have a121 := hS.a (a 121 (by decide)).1 (a 121 (by decide)).2
  have a123 := hS.a (a 123 (by decide)).1 (a 123 (by decide)).2
  have a124 := hS.a (a 124 (by decide)).1 (a 124 (by decide)).2
  have a129 := hS.a (a 129 (by decide)).1 (a 129 (by decide)).2
  have k2 := hS.k (k 2 (by decide))
  have k8 := hS.k (k 8 (by decide))
  have hst : ∀ r c : Int32, isStar S' r c ↔ isStar S r c := fun r c => by simp only [isStar, gS, a119, a120, a121, a123, a129]
  obtain ⟨h1, h2, h3, h4⟩ := h
  have en : nCl S' = nCl S := by simp only [nCl, k2]
  have er : nRd S' = nRd S := by simp only [nRd, k8]
  refine ⟨by rw [c2, en]; exact h1, by rw [c101, en]; exact h2, by rw [c102, en]; exact h3, fun c hc => ?_⟩
  rw [en] at hc
  obtain ⟨g1, g2, g3, g4, g5, g6, g7, g8⟩ := h4 c hc
  refine ⟨by rw [i2]; exact g1, by rw [r2, a118]; exact g2, by rw [r2]; exact g3, by rw [r2]; exact g4, by rw [n101]; exact g5, by rw [n102]; exact g6, by rw [i2, a119]; exact g7, ?_⟩
  rw [er]
  exact g8.tr (by rw [i2]) (by rw [i101]) (by rw [i102]) (fun r _ => hst _ _) (fun r _ => by rw [a123]) (fun r _ => by rw [a124])
theorem CFX.tr {σ σ' : XH} (h : CFX σ) (h1 : ∀ q ∈ cLk, hr σ' q.1 0 q.2.1 = hr σ q.1 0 q.2.1) (h2 : ∀ q ∈ cLn, hn σ' q.1 0 = hn σ q.1 0) (h3 : ∀ t, t < 6 → hr σ' 10 t 0 = hr σ 10 t 0 ∧ hn σ' 114 t = hn σ 114 t) (h4 : hc σ' 10 = hc σ 10 ∧ hc σ' 114 = hc σ 114 ∧ hc σ' 11 = hc σ 11 ∧ hc σ' 7 = hc σ 7 ∧ hc σ' 9 = hc σ 9 ∧ hc σ' 1 = hc σ 1) (h5 : hi σ' 500 = hi σ 500) (h6 : hi σ' 501 = hi σ 501) (h7 : hi σ' 513 = hi σ 513) (h8 : hn σ' 513 = hn σ 513) : CFX σ' := by
  obtain ⟨g1, g2, g3, g4, g5, g6, g7⟩ := h
  obtain ⟨h41, h42, h43, h44, h45, h46⟩ := h4
  refine ⟨fun q hq => (h1 q hq).trans (g1 q hq), fun q hq => (h2 q hq).trans (g2 q hq), fun t ht => ⟨(h3 t ht).1.trans (g3 t ht).1, (h3 t ht).2.trans (g3 t ht).2⟩, ?_, ?_, ?_, ?_⟩
  · rw [h41, h42, h43, h44, h45, h46]; exact g4
  · rw [h5]; exact g5
  · rw [h6]; exact g6
  · rw [h7, h8]; exact g7
theorem CFX.fi {T : Nat → Bool} {σ σ' : XH} (h : CFX σ) (hF : Fi T σ σ') (t1 : T 500 = false) (t2 : T 501 = false) (t3 : T 513 = false) : CFX σ' :=
  h.tr (fun q _ => by rw [hF.r]) (fun q _ => by rw [hF.n]) (fun t _ => ⟨by rw [hF.r], by rw [hF.n]⟩) (by rw [hF.c]; exact ⟨rfl, rfl, rfl, rfl, rfl, rfl⟩) (hF.i t1) (hF.i t2) (hF.i t3) (by rw [hF.n])
/-- new cells at other sites leave the fixed ones -/
theorem CFX.fr {T : Nat → Bool} {σ σ' : XH} (h : CFX σ) (hF : Fr T σ σ') (t : ∀ s, s ∈ [1, 7, 9, 10, 11, 100, 107, 108, 109, 110, 111, 112, 113, 114, 115, 200, 400, 500, 501, 513] → T s = false) : CFX σ' :=
  h.tr (fun q hq => by
    have : T q.1 = false := t q.1 (by revert q; decide)
    rw [hF.r this]) (fun q hq => by
    have : T q.1 = false := t q.1 (by revert q; decide)
    rw [hF.n this]) (fun i _ => ⟨by rw [hF.r (t 10 (by decide))], by rw [hF.n (t 114 (by decide))]⟩) ⟨hF.c (t 10 (by decide)), hF.c (t 114 (by decide)), hF.c (t 11 (by decide)), hF.c (t 7 (by decide)), hF.c (t 9 (by decide)), hF.c (t 1 (by decide))⟩ (hF.i (t 500 (by decide))) (hF.i (t 501 (by decide))) (hF.i (t 513 (by decide))) (hF.n (t 513 (by decide)))
theorem CFX.k11_0 {σ : XH} (h : CFX σ) : hr σ 11 0 0 = some (0, 0) := h.1 (11, 0, 0, 0) (by decide)
theorem CFX.k11_1 {σ : XH} (h : CFX σ) : hr σ 11 0 1 = some (0, 1) := h.1 (11, 1, 0, 1) (by decide)
theorem CFX.k11_2 {σ : XH} (h : CFX σ) : hr σ 11 0 2 = some (0, 2) := h.1 (11, 2, 0, 2) (by decide)
theorem CFX.k11_3 {σ : XH} (h : CFX σ) : hr σ 11 0 3 = some (0, 3) := h.1 (11, 3, 0, 3) (by decide)
theorem CFX.k11_4 {σ : XH} (h : CFX σ) : hr σ 11 0 4 = some (0, 4) := h.1 (11, 4, 0, 4) (by decide)
theorem CFX.k11_5 {σ : XH} (h : CFX σ) : hr σ 11 0 5 = some (0, 5) := h.1 (11, 5, 0, 5) (by decide)
theorem CFX.k11_6 {σ : XH} (h : CFX σ) : hr σ 11 0 6 = some (400, 0) := h.1 (11, 6, 400, 0) (by decide)
theorem CFX.k11_7 {σ : XH} (h : CFX σ) : hr σ 11 0 7 = some (115, 0) := h.1 (11, 7, 115, 0) (by decide)
theorem CFX.k11_8 {σ : XH} (h : CFX σ) : hr σ 11 0 8 = some (7, 0) := h.1 (11, 8, 7, 0) (by decide)
theorem CFX.k11_9 {σ : XH} (h : CFX σ) : hr σ 11 0 9 = some (6, 0) := h.1 (11, 9, 6, 0) (by decide)
theorem CFX.k11_10 {σ : XH} (h : CFX σ) : hr σ 11 0 10 = some (9, 0) := h.1 (11, 10, 9, 0) (by decide)
theorem CFX.k11_11 {σ : XH} (h : CFX σ) : hr σ 11 0 11 = some (1, 0) := h.1 (11, 11, 1, 0) (by decide)
theorem CFX.k1_0 {σ : XH} (h : CFX σ) : hr σ 1 0 0 = some (100, 0) := h.1 (1, 0, 100, 0) (by decide)
theorem CFX.k7_0 {σ : XH} (h : CFX σ) : hr σ 7 0 0 = some (200, 0) := h.1 (7, 0, 200, 0) (by decide)
theorem CFX.k9_0 {σ : XH} (h : CFX σ) : hr σ 9 0 0 = some (107, 0) := h.1 (9, 0, 107, 0) (by decide)
theorem CFX.k9_1 {σ : XH} (h : CFX σ) : hr σ 9 0 1 = some (108, 0) := h.1 (9, 1, 108, 0) (by decide)
theorem CFX.k9_2 {σ : XH} (h : CFX σ) : hr σ 9 0 2 = some (109, 0) := h.1 (9, 2, 109, 0) (by decide)
theorem CFX.k9_3 {σ : XH} (h : CFX σ) : hr σ 9 0 3 = some (110, 0) := h.1 (9, 3, 110, 0) (by decide)
theorem CFX.k9_4 {σ : XH} (h : CFX σ) : hr σ 9 0 4 = some (111, 0) := h.1 (9, 4, 111, 0) (by decide)
theorem CFX.k9_5 {σ : XH} (h : CFX σ) : hr σ 9 0 5 = some (112, 0) := h.1 (9, 5, 112, 0) (by decide)
theorem CFX.k9_6 {σ : XH} (h : CFX σ) : hr σ 9 0 6 = some (113, 0) := h.1 (9, 6, 113, 0) (by decide)
theorem CFX.n100 {σ : XH} (h : CFX σ) : hn σ 100 0 = 20 := h.2.1 (100, 20) (by decide)
theorem CFX.n200 {σ : XH} (h : CFX σ) : hn σ 200 0 = 140 := h.2.1 (200, 140) (by decide)
theorem CFX.n107 {σ : XH} (h : CFX σ) : hn σ 107 0 = 90 := h.2.1 (107, 90) (by decide)
theorem CFX.n108 {σ : XH} (h : CFX σ) : hn σ 108 0 = 90 := h.2.1 (108, 90) (by decide)
theorem CFX.n109 {σ : XH} (h : CFX σ) : hn σ 109 0 = 90 := h.2.1 (109, 90) (by decide)
theorem CFX.n110 {σ : XH} (h : CFX σ) : hn σ 110 0 = 90 := h.2.1 (110, 90) (by decide)
theorem CFX.n111 {σ : XH} (h : CFX σ) : hn σ 111 0 = 90 := h.2.1 (111, 90) (by decide)
theorem CFX.n112 {σ : XH} (h : CFX σ) : hn σ 112 0 = 11 := h.2.1 (112, 11) (by decide)
theorem CFX.n113 {σ : XH} (h : CFX σ) : hn σ 113 0 = 17 := h.2.1 (113, 17) (by decide)
theorem CFX.n115 {σ : XH} (h : CFX σ) : hn σ 115 0 = 5 := h.2.1 (115, 5) (by decide)
theorem CFX.n400 {σ : XH} (h : CFX σ) : hn σ 400 0 = 6 := h.2.1 (400, 6) (by decide)
theorem CFX.n500 {σ : XH} (h : CFX σ) : hn σ 500 0 = 8 := h.2.1 (500, 8) (by decide)
theorem CFX.n501 {σ : XH} (h : CFX σ) : hn σ 501 0 = 24 := h.2.1 (501, 24) (by decide)
theorem CFX.t400 {σ : XH} (h : CFX σ) {t : Nat} (ht : t < 6) : hr σ 400 0 t = some (10, t) := by
  match t, ht with
  | 0, _ => exact h.1 (400, 0, 10, 0) (by decide)
  | 1, _ => exact h.1 (400, 1, 10, 1) (by decide)
  | 2, _ => exact h.1 (400, 2, 10, 2) (by decide)
  | 3, _ => exact h.1 (400, 3, 10, 3) (by decide)
  | 4, _ => exact h.1 (400, 4, 10, 4) (by decide)
  | 5, _ => exact h.1 (400, 5, 10, 5) (by decide)
theorem inP_nI {x : Int32} {n : Nat} (hn : n ≤ 100000) : inP x 0 (nI n - 1) ↔ vp_in x n := by
  rw [inP_iff]
  unfold vp_in
  have e0 : (0 : Int32).toInt = 0 := by decide
  have e1 : (1 : Int32).toInt = 1 := by decide
  have en : (nI n).toInt = n := nI_toInt (by omega)
  have es : (nI n - 1).toInt = n - 1 := by
    rw [fb_subI (by rw [en, e1]; omega) (by rw [en, e1]; omega), en, e1]
  have r := fb_rng x
  have ec : x.toNatClampNeg = x.toInt.toNat := rfl
  rw [fa_lt, fa_lt, es, e0, ec]
  omega
theorem inP_c {x lo : Int32} {hi : Int32} {n : Nat} (h : inP x lo hi) (h0 : 0 ≤ lo.toInt) (h1 : hi.toInt < n) : vp_in x n := by
  rw [inP_iff] at h
  unfold vp_in
  have ec : x.toNatClampNeg = x.toInt.toNat := rfl
  have e0 : (0 : Int32).toInt = 0 := by decide
  rw [fa_lt, fa_lt] at h
  rw [fa_lt, ec, e0]
  omega
