/-! ===== a change that touches some clocks alone ===== -/
/-- P: the clocks that are touched; readings come at the end -/
def Loc (P : Int32 → Prop) (S S' : SS) : Prop :=
  nRd S ≤ nRd S' ∧ nRd S' ≤ 90 ∧ S' 116 = S 116 ∧ S' 117 = S 117 ∧ S' 118 = S 118 ∧ (∀ c, ¬ P c → gS S' 119 c = gS S 119 c) ∧
  (∀ r, r < nRd S → S' 120 r = S 120 r ∧ S' 121 r = S 121 r ∧ S' 123 r = S 123 r ∧ S' 124 r = S 124 r) ∧
  (∀ r, r < nRd S → S' 129 r = S 129 r ∨ P (S 121 r) ∨ (¬ S 120 r = 1 ∧ ¬ S 120 r = 2)) ∧
  (∀ r, nRd S ≤ r → r < nRd S' → P (S' 121 r) ∨ (¬ S' 120 r = 1 ∧ ¬ S' 120 r = 2))
theorem Loc.star {P : Int32 → Prop} {S S' : SS} (h : Loc P S S') {c : Int32} (hc : ¬ P c) {r : Nat} (hr_ : r < nRd S') : isStar S' (nI r) c ↔ (r < nRd S ∧ isStar S (nI r) c) := by
  obtain ⟨h1, h2, h3, h4, h5, h6, h7, h8, h9⟩ := h
  have g : ∀ q, gS S q (nI r) = S q r := fun q => gS_nI S q (by omega)
  have g' : ∀ q, gS S' q (nI r) = S' q r := fun q => gS_nI S' q (by omega)
  unfold isStar
  rw [g, g, g, g, g', g', g', g', h6 c hc]
  by_cases e : r < nRd S
  · obtain ⟨a1, a2, a3, a4⟩ := h7 r e
    rw [a1, a2, a3]
    constructor
    · intro z
      refine ⟨e, z.1, ?_, z.2.2.1, z.2.2.2⟩
      rcases h8 r e with y | y | y
      · rw [← y]; exact z.2.1
      · rw [z.2.2.1] at y
        exact absurd y hc
      · exact absurd z.1 y.1
    · intro z
      refine ⟨z.2.1, ?_, z.2.2.2.1, z.2.2.2.2⟩
      rcases h8 r e with y | y | y
      · rw [y]; exact z.2.2.1
      · rw [z.2.2.2.1] at y
        exact absurd y hc
      · exact absurd z.2.1 y.1
  · constructor
    · intro z
      rcases h9 r (by omega) hr_ with y | y
      · rw [z.2.2.1] at y
        exact absurd y hc
      · exact absurd z.1 y.1
    · exact fun z => absurd z.1 e
theorem Loc.sblE {P : Int32 → Prop} {S S' : SS} (h : Loc P S S') {c : Int32} (hc : ¬ P c) (x : Int32) : sbl S' c x (nRd S') = sbl S c x (nRd S) := by
  have h90 := h.2.1
  have hle := h.1
  have h7 := h.2.2.2.2.2.2.1
  rcases sbl_sp S' c x (nRd S') h90 with ⟨e, i1⟩ | ⟨r, r1, e, r2, r3, i1⟩
  · rcases sbl_sp S c x (nRd S) (by omega) with ⟨f, -⟩ | ⟨q, q1, f, q2, q3, -⟩
    · rw [e, f]
    · have := i1 q (by omega) ((h.star hc (by omega)).mpr ⟨q1, q2⟩)
      rw [(h7 q q1).2.2.1] at this
      exact absurd this q3
  · obtain ⟨r4, r5⟩ := (h.star hc r1).mp r2
    rw [(h7 r r4).2.2.1] at r3
    rcases sbl_sp S c x (nRd S) (by omega) with ⟨f, j1⟩ | ⟨q, q1, f, q2, q3, j1⟩
    · exact absurd (j1 r r4 r5) r3
    · rw [e, f]
      have a := i1 q (by omega) ((h.star hc (by omega)).mpr ⟨q1, q2⟩) (by rw [(h7 q q1).2.2.1]; exact q3)
      have b := j1 r r4 r5 r3
      rw [(h7 q q1).2.2.1, (h7 r r4).2.2.1] at a
      have e1 : S 123 q = S 123 r := by
        have a1 := a.1
        have b1 := b.1
        rw [fa_lt] at a1 b1
        rw [fa_eq]
        omega
      have := a.2 e1
      have := b.2 e1.symm
      rw [show r = q by omega]
theorem Loc.sabE {P : Int32 → Prop} {S S' : SS} (h : Loc P S S') {c : Int32} (hc : ¬ P c) (x : Int32) : sab S' c x (nRd S') = sab S c x (nRd S) := by
  have h90 := h.2.1
  have hle := h.1
  have h7 := h.2.2.2.2.2.2.1
  rcases sab_sp S' c x (nRd S') h90 with ⟨e, i1⟩ | ⟨r, r1, e, r2, r3, i1⟩
  · rcases sab_sp S c x (nRd S) (by omega) with ⟨f, -⟩ | ⟨q, q1, f, q2, q3, -⟩
    · rw [e, f]
    · have := i1 q (by omega) ((h.star hc (by omega)).mpr ⟨q1, q2⟩)
      rw [(h7 q q1).2.2.1] at this
      exact absurd this q3
  · obtain ⟨r4, r5⟩ := (h.star hc r1).mp r2
    rw [(h7 r r4).2.2.1] at r3
    rcases sab_sp S c x (nRd S) (by omega) with ⟨f, j1⟩ | ⟨q, q1, f, q2, q3, j1⟩
    · exact absurd (j1 r r4 r5) r3
    · rw [e, f]
      have a := i1 q (by omega) ((h.star hc (by omega)).mpr ⟨q1, q2⟩) (by rw [(h7 q q1).2.2.1]; exact q3)
      have b := j1 r r4 r5 r3
      rw [(h7 q q1).2.2.1, (h7 r r4).2.2.1] at a
      have e1 : S 123 q = S 123 r := by
        have a1 := a.1
        have b1 := b.1
        rw [fa_lt] at a1 b1
        rw [fa_eq]
        omega
      have := a.2 e1
      have := b.2 e1.symm
      rw [show r = q by omega]
theorem Loc.tmE {P : Int32 → Prop} {S S' : SS} (h : Loc P S S') {c : Int32} (hc : ¬ P c) (t : Int32) : tmF S' c t = tmF S c t := by
  have h90 : nRd S ≤ 90 := Nat.le_trans h.1 h.2.1
  have h7 := h.2.2.2.2.2.2.1
  have gb : ∀ x, ¬ sbl S c x (nRd S) < 0 → gS S' 123 (sbl S c x (nRd S)) = gS S 123 (sbl S c x (nRd S)) ∧ gS S' 124 (sbl S c x (nRd S)) = gS S 124 (sbl S c x (nRd S)) := fun x hx => by
    obtain ⟨r, r1, r2, -⟩ := sbl_f h90 hx
    rw [r2, gS_nI S 123 (by omega), gS_nI S' 123 (by omega), gS_nI S 124 (by omega), gS_nI S' 124 (by omega)]
    exact ⟨(h7 r r1).2.2.1, (h7 r r1).2.2.2⟩
  have ga : ∀ x, ¬ sab S c x (nRd S) < 0 → gS S' 123 (sab S c x (nRd S)) = gS S 123 (sab S c x (nRd S)) ∧ gS S' 124 (sab S c x (nRd S)) = gS S 124 (sab S c x (nRd S)) := fun x hx => by
    obtain ⟨r, r1, r2, -⟩ := sab_f h90 hx
    rw [r2, gS_nI S 123 (by omega), gS_nI S' 123 (by omega), gS_nI S 124 (by omega), gS_nI S' 124 (by omega)]
    exact ⟨(h7 r r1).2.2.1, (h7 r r1).2.2.2⟩
  have tv : ∀ a b, gS S' 123 a = gS S 123 a → gS S' 124 a = gS S 124 a → (¬ b < 0 → gS S' 123 b = gS S 123 b ∧ gS S' 124 b = gS S 124 b) → tmV S' t a b = tmV S t a b := fun a b e1 e2 e3 => by
    unfold tmV
    by_cases z : b < 0
    · rw [if_pos z, if_pos z, e1, e2]
    · rw [if_neg z, if_neg z, e1, e2, (e3 z).1, (e3 z).2]
  unfold tmF
  rw [h.2.2.2.2.2.1 c hc, h.sblE hc, h.sabE hc]
  by_cases z1 : ¬ gS S 119 c < 0 ∧ gS S 119 c < t
  · rw [if_pos z1, if_pos z1]
  · rw [if_neg z1, if_neg z1]
    by_cases z2 : sbl S c t (nRd S) < 0
    · rw [if_pos z2, if_pos z2]
      by_cases z3 : sab S c (t + 1) (nRd S) < 0
      · rw [if_pos z3, if_pos z3]
      · rw [if_neg z3, if_neg z3, (ga _ z3).1, h.sabE hc, tv _ _ (ga _ z3).1 (ga _ z3).2 (fun z => ga _ z)]
    · rw [if_neg z2, if_neg z2]
      by_cases z3 : sab S c (t + 1) (nRd S) < 0
      · rw [if_pos z3, if_pos z3, (gb _ z2).1, h.sblE hc]
        by_cases z4 : sbl S c (gS S 123 (sbl S c t (nRd S)) - 1) (nRd S) < 0
        · rw [if_pos z4, if_pos z4, tv _ _ (gb _ z2).1 (gb _ z2).2 (fun z => absurd nI_neg1 z)]
        · rw [if_neg z4, if_neg z4, tv _ _ (gb _ z4).1 (gb _ z4).2 (fun z => gb _ z)]
      · rw [if_neg z3, if_neg z3, tv _ _ (gb _ z2).1 (gb _ z2).2 (fun z => ga _ z)]
theorem Loc.lonAE {P : Int32 → Prop} {S S' : SS} (h : Loc P S S') {s : Int32} (hs : ∀ c, P c → ¬ gS S 118 c = s) : ∀ k, k ≤ nRd S → lonA S' s k = lonA S s k
  | 0, _ => rfl
  | k + 1, hk => by
    have h90 : nRd S ≤ 90 := Nat.le_trans h.1 h.2.1
    obtain ⟨a1, a2, a3, a4⟩ := h.2.2.2.2.2.2.1 k (by omega)
    have g : ∀ q, gS S q (nI k) = S q k := fun q => gS_nI S q (by omega)
    have g' : ∀ q, gS S' q (nI k) = S' q k := fun q => gS_nI S' q (by omega)
    have ih := Loc.lonAE h hs k (by omega)
    have e118 : ∀ c, gS S' 118 c = gS S 118 c := fun c => by
      show S' 118 _ = S 118 _
      rw [h.2.2.2.2.1]
    unfold lonA
    simp only [g, g', a1, a2, a3, a4, e118, ih]
    by_cases c3 : gS S 118 (S 121 k) = s
    · have np : ¬ P (S 121 k) := fun y => hs _ y c3
      rw [h.tmE np]
      by_cases c1 : S 120 k = 2
      · have e129 : S' 129 k = S 129 k := by
          rcases h.2.2.2.2.2.2.2.1 k (by omega) with y | y | y
          · exact y
          · exact absurd y np
          · exact absurd c1 y.2
        rw [e129]
      · rw [if_neg (fun z => c1 z.1), if_neg (fun z => c1 z.1)]
    · rw [if_neg (fun z => c3 z.2.2.1), if_neg (fun z => c3 z.2.2.1)]
theorem Loc.lonBE {P : Int32 → Prop} {S S' : SS} (h : Loc P S S') {s : Int32} (hs : ∀ c, P c → ¬ gS S 118 c = s) : ∀ k, nRd S + k ≤ nRd S' → lonA S' s (nRd S + k) = lonA S s (nRd S)
  | 0, _ => h.lonAE hs _ (Nat.le_refl _)
  | k + 1, hk => by
    have h90 := h.2.1
    have g' : ∀ q, gS S' q (nI (nRd S + k)) = S' q (nRd S + k) := fun q => gS_nI S' q (by omega)
    have ih := Loc.lonBE h hs k (by omega)
    rw [← Nat.add_assoc]
    show (if gS S' 120 (nI (nRd S + k)) = 2 ∧ ¬ 0 < gS S' 129 (nI (nRd S + k)) ∧ gS S' 118 (gS S' 121 (nI (nRd S + k))) = s ∧ ¬ tmF S' (gS S' 121 (nI (nRd S + k))) (gS S' 123 (nI (nRd S + k))) = NOi then _ else lonA S' s (nRd S + k)) = _
    rw [if_neg, ih]
    intro z
    rw [g', g'] at z
    rcases h.2.2.2.2.2.2.2.2 (nRd S + k) (by omega) (by omega) with y | y
    · refine hs _ y ?_
      have := z.2.2.1
      rw [g' 121] at this
      show S 118 _ = s
      rw [← h.2.2.2.2.1]
      exact this
    · exact y.2 z.1
theorem Loc.lonE {P : Int32 → Prop} {S S' : SS} (h : Loc P S S') {s : Int32} (hs : ∀ c, P c → ¬ gS S 118 c = s) : lonF S' s = lonF S s := by
  have e := h.lonBE hs (nRd S' - nRd S) (by have := h.1; omega)
  rw [show nRd S + (nRd S' - nRd S) = nRd S' by have := h.1; omega] at e
  unfold lonF
  have e116 : gS S' 116 s = gS S 116 s := by
    show S' 116 _ = S 116 _
    rw [h.2.2.1]
  rw [e116, e]
/-- an untouched clock's stars stand as they stood -/
theorem Loc.stR {P : Int32 → Prop} {S S' : SS} (h : Loc P S S') {σ σ' : XH} {c : Nat} (hc : ¬ P (nI c)) (hS : StR σ S c (nRd S)) (h2 : hi σ' 2 c 4 = hi σ 2 c 4) (h101 : hi σ' 101 c = hi σ 101 c) (h102 : hi σ' 102 c = hi σ 102 c) : StR σ' S' c (nRd S') := by
  obtain ⟨n, s1, s2, s3, s4, s5⟩ := hS
  have hle := h.1
  have h7 := h.2.2.2.2.2.2.1
  refine ⟨n, by rw [h2]; exact s1, s2, by rw [h101]; exact s3, fun i hi_ => ?_, fun r hr_ hs => ?_⟩
  · obtain ⟨r, r1, r2, r3, r4, r5⟩ := s4 i hi_
    refine ⟨r, by omega, (h.star hc (by omega)).mpr ⟨r1, r2⟩, by rw [h101, (h7 r r1).2.2.1]; exact r3, by rw [h102, (h7 r r1).2.2.2]; exact r4, fun r' g1 g2 g3 => ?_⟩
    obtain ⟨q1, q2⟩ := (h.star hc g2).mp g3
    rw [h101, (h7 r' q1).2.2.1]
    exact r5 r' g1 q1 q2
  · obtain ⟨q1, q2⟩ := (h.star hc hr_).mp hs
    obtain ⟨i, i1, i2⟩ := s5 r q1 q2
    exact ⟨i, i1, by rw [h101, (h7 r q1).2.2.1]; exact i2⟩
