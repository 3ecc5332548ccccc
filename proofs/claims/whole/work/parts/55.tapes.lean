/-! ===== tapes ===== -/
/-- of tapes: sort and size -/
def TpI (S : SS) : Prop := ∀ t, t < 6 → inP (S 151 t) (-1) 3 ∧ inP (S 152 t) 0 60 ∧ (S 151 t < 0 → S 152 t = 0)
theorem m60 : ∀ t, t < 6 → (60 : Int32) * nI t = nI (60 * t) := by decide +kernel
theorem tp_t {x : Int32} (h : inP x 0 5) : ∃ t, t < 6 ∧ x = nI t := by
  have v : vp_in x 6 := inP_c h (by decide) (by decide)
  exact ⟨x.toNatClampNeg, vp_lt v, nI_of_nn (vp_nn v)⟩
theorem TpI.b {S : SS} (h : TpI S) {t : Nat} (ht : t < 6) : 0 ≤ (S 152 t).toInt ∧ (S 152 t).toInt ≤ 60 := by
  have := (h t ht).2.1
  rw [inP_iff, fa_lt, fa_lt] at this
  have e0 : (0 : Int32).toInt = 0 := by decide
  have e1 : (60 : Int32).toInt = 60 := by decide
  omega
/-- a place of a tape -/
theorem tp_ix {S : SS} (h : TpI S) {t : Nat} (ht : t < 6) {i : Int32} (h0 : ¬ i < 0) (h1 : i < S 152 t) : i = nI i.toNatClampNeg ∧ i.toNatClampNeg < 60 ∧ 60 * nI t + i = nI (60 * t + i.toNatClampNeg) := by
  have b := h.b ht
  have e := nI_of_nn h0
  rw [fa_lt] at h0 h1
  have e0 : (0 : Int32).toInt = 0 := by decide
  have ec : i.toNatClampNeg = i.toInt.toNat := rfl
  refine ⟨e, by omega, ?_⟩
  rw [m60 t ht]
  exact (congrArg (nI (60 * t) + ·) e).trans (nI_add _ _)
def zT (S : SS) (t : Nat) : Nat → SS
  | 0 => S
  | k + 1 => up2 (zT S t k) 153 (60 * t + k) 0
theorem zT_s {S : SS} {t s : Nat} (h : s ≠ 153) : ∀ n, zT S t n s = S s
  | 0 => rfl
  | k + 1 => by
    unfold zT
    rw [up2_s _ _ _ h, zT_s h k]
theorem zT_at {S : SS} {t j : Nat} : ∀ n, zT S t n 153 j = if 60 * t ≤ j ∧ j < 60 * t + n then 0 else S 153 j
  | 0 => by
    rw [if_neg (fun z => by omega)]
    rfl
  | k + 1 => by
    unfold zT
    rw [up2_at, zT_at k]
    by_cases e : j = 60 * t + k
    · rw [if_pos e, if_pos (by omega)]
    · rw [if_neg e]
      by_cases c : 60 * t ≤ j ∧ j < 60 * t + k
      · rw [if_pos c, if_pos (by omega)]
      · rw [if_neg c, if_neg (fun z => by omega)]
def tapeF (S : SS) (t of_ n : Int32) : RS := if inP t 0 5 then (if inP of_ (-1) 3 ∧ ¬ (¬ of_ < 0 ∧ 60 < n) then (if ¬ of_ < 0 ∧ n < 0 then (-14, S) else (1, zT (up2 (up2 S 151 t.toNatClampNeg of_) 152 t.toNatClampNeg (if of_ < 0 then 0 else n)) t.toNatClampNeg 60)) else (-2, S)) else (-1, S)
theorem lp_X11_tape {d rc rs t : Nat} {σ : XH} {S : SS} {Q : XV → XH → Prop} (hM : MI σ) (ht : t < 6) (h : Q (vI 1) (up σ (zT S t 60))) : ∀ (m k : Nat), k + m = 60 → Ex d rc rs m_X11_tape 69 [vR (some (12, 0)), vI (nI t), vU, vU, vI (nI k)] [] (up σ (zT S t k)) Q := by
  intro m
  induction m with
  | zero =>
    intro k hk
    have e : k = 60 := by omega
    rw [e]
    refine sX11_tape_69 ?_
    unfold bX11_tape_69
    exact br_f (by decide) h
  | succ m ih =>
    intro k hk
    have e : 60 * nI t + nI k = nI (60 * t + k) := by rw [m60 t ht, nI_add]
    refine sX11_tape_69 ?_
    unfold bX11_tape_69
    rw [e, nI_clamp (by omega), nI_1]
    refine br_t (nI_lt (b := 60) (by omega) (by omega)) ⟨hM.r153, vp_at hM.n153 (vp_in_nI (by omega) (by omega)), ?_⟩
    intro g1 e1
    rw [wu_153] at e1
    subst e1
    exact ih (k + 1) (by omega)
theorem sp_X11_tape {d : Nat} {t of_ n : Int32} {σ : XH} {S : SS} {Q : XV → XH → Prop} (hd : 2 ≤ d) (hM : MI σ) (h : Q (vI (tapeF S t of_ n).1) (up σ (tapeF S t of_ n).2)) : Ec d 0 0 m_X11_tape [vR (some (12, 0)), vI t, vI of_, vI n] (up σ S) Q := by
  unfold tapeF at h
  refine Ec_of mo_X11_tape.1 (Nat.le_of_ble_eq_true rfl) ?_
  refine sX11_tape_0 ?_
  unfold bX11_tape_0
  refine ⟨by omega, sp_X11_isTape (by omega) (fun z => br_f (by decide) ⟨by omega, ?_⟩) (fun z => br_t rfl ?_)⟩
  · rw [if_pos z] at h
    obtain ⟨q, hq, eq⟩ := tp_t z
    subst eq
    rw [nI_clamp (by omega)] at h
    have v6 : vp_in (nI q) 6 := vp_in_nI hq (by omega)
    have bad : ¬ (inP of_ (-1) 3 ∧ ¬ (¬ of_ < 0 ∧ 60 < n)) → Ex d 0 0 m_X11_tape 30 [vU, vU, vU, vU, vU] [] (up σ S) Q := fun y => by
      rw [if_neg y] at h
      refine sX11_tape_30 ?_
      exact h
    have f44 : inP of_ (-1) 3 → ¬ (¬ of_ < 0 ∧ 60 < n) → ¬ (¬ of_ < 0 ∧ n < 0) → Ex d 0 0 m_X11_tape 44 [vR (some (12, 0)), vI (nI q), vI of_, vI n, vU] [] (up σ S) Q := fun y1 y2 y3 => by
      rw [if_pos ⟨y1, y2⟩, if_neg y3] at h
      have fin : ∀ w : Int32, w = (if of_ < 0 then 0 else n) → Ex d 0 0 m_X11_tape 65 [vR (some (12, 0)), vI (nI q), vU, vU, vU] [vI w, vI (nI q), vR (some (152, 0))] (up σ (up2 S 151 q of_)) Q := fun w hw => by
        refine sX11_tape_65 ?_
        refine ⟨vp_at hM.n152 v6, ?_⟩
        intro g1 e1
        rw [wu_152, nI_clamp (by omega)] at e1
        subst e1
        rw [← hw] at h
        have g := lp_X11_tape (d := d) (rc := 0) (rs := 0) hM hq h 60 0 (by omega)
        rw [nI_0] at g
        exact g
      refine sX11_tape_44 ?_
      refine ⟨hM.r151, vp_at hM.n151 v6, ?_⟩
      intro g1 e1
      rw [wu_151, nI_clamp (by omega)] at e1
      subst e1
      exact ⟨hM.r152, fun c => fin _ (by rw [if_pos c]), fun c => fin _ (by rw [if_neg c])⟩
    have f33 : inP of_ (-1) 3 → ¬ (¬ of_ < 0 ∧ 60 < n) → Ex d 0 0 m_X11_tape 33 [vR (some (12, 0)), vI (nI q), vI of_, vI n, vU] [] (up σ S) Q := fun y1 y2 => by
      refine sX11_tape_33 ?_
      refine ⟨fun c => f44 y1 y2 (fun y => y.1 c), fun c => ⟨fun c2 => ?_, fun c2 => f44 y1 y2 (fun y => c2 y.2)⟩⟩
      rw [if_pos ⟨y1, y2⟩, if_pos ⟨c, c2⟩] at h
      exact h
    exact sp_X11_in (by omega) (fun z2 => br_f (by decide) ⟨fun c => f33 z2 (fun y => y.1 c), fun c => ⟨fun c2 => bad (fun y => y.2 ⟨c, c2⟩), fun c2 => f33 z2 (fun y => c2 y.2)⟩⟩) (fun z2 => br_t rfl (bad (fun y => z2 y.1)))
  · rw [if_neg z] at h
    exact h
/-- the state behind a shift -/
def sh1 (S : SS) (a m : Nat) : SS := fun s k => if s = 154 ∧ k < m then S 153 (a + k) else S s k
def sh2 (S : SS) (a b m : Nat) (T : SS) : SS := fun s k => if s = 153 ∧ b ≤ k ∧ k < b + m then S 153 (a + (k - b)) else T s k
theorem sh1_up {S : SS} {a m : Nat} : up2 (sh1 S a m) 154 m (S 153 (a + m)) = sh1 S a (m + 1) := funext fun s => funext fun k => by
  unfold up2 sh1
  by_cases e : s = 154
  · by_cases e2 : k = m
    · rw [if_pos ⟨e, e2⟩, if_pos ⟨e, by omega⟩, e2]
    · rw [if_neg (fun z => e2 z.2)]
      by_cases e3 : k < m
      · rw [if_pos ⟨e, e3⟩, if_pos ⟨e, by omega⟩]
      · rw [if_neg (fun z => e3 z.2), if_neg (fun z => by omega)]
  · rw [if_neg (fun z => e z.1), if_neg (fun z => e z.1), if_neg (fun z => e z.1)]
theorem sh2_up {S T : SS} {a b m : Nat} : up2 (sh2 S a b m T) 153 (b + m) (S 153 (a + m)) = sh2 S a b (m + 1) T := funext fun s => funext fun k => by
  unfold up2 sh2
  by_cases e : s = 153
  · by_cases e2 : k = b + m
    · rw [if_pos ⟨e, e2⟩, if_pos ⟨e, by omega, by omega⟩, show a + (k - b) = a + m by omega]
    · rw [if_neg (fun z => e2 z.2)]
      by_cases e3 : b ≤ k ∧ k < b + m
      · rw [if_pos ⟨e, e3⟩, if_pos ⟨e, by omega, by omega⟩]
      · rw [if_neg (fun z => e3 z.2), if_neg (fun z => by omega)]
  · rw [if_neg (fun z => e z.1), if_neg (fun z => e z.1), if_neg (fun z => e z.1)]
def shiftF (S : SS) (t i q j n : Int32) : RS := if inP t 0 5 ∧ inP q 0 5 then (if gS S 151 t < 0 ∨ gS S 151 q < 0 then (-11, S) else if gS S 151 t = gS S 151 q then (if n < 0 ∨ i < 0 ∨ j < 0 ∨ gS S 152 t - n < i ∨ gS S 152 q - n < j then (-13, S) else (n, sh2 S (60 * t.toNatClampNeg + i.toNatClampNeg) (60 * q.toNatClampNeg + j.toNatClampNeg) n.toNatClampNeg (sh1 S (60 * t.toNatClampNeg + i.toNatClampNeg) n.toNatClampNeg))) else (-12, S)) else (-1, S)
theorem lp_X11_sh1 {d rc rs t q i j n : Nat} {σ : XH} {S : SS} {Q : XV → XH → Prop} (hM : MI σ) (ht : t < 6) (hi_ : i + n ≤ 60) (h : Ex d rc rs m_X11_shift 141 [vR (some (12, 0)), vU, vU, vI (nI q), vI (nI j), vI (nI n), vI 0] [] (up σ (sh1 S (60 * t + i) n)) Q) : ∀ (m k : Nat), k + m = n → Ex d rc rs m_X11_shift 104 [vR (some (12, 0)), vI (nI t), vI (nI i), vI (nI q), vI (nI j), vI (nI n), vI (nI k)] [] (up σ (sh1 S (60 * t + i) k)) Q := by
  intro m
  induction m with
  | zero =>
    intro k hk
    have e : k = n := by omega
    rw [e]
    refine sX11_shift_104 ?_
    unfold bX11_shift_104
    exact br_f (nI_nlt (Nat.le_refl _) (by omega)) h
  | succ m ih =>
    intro k hk
    have e : 60 * nI t + nI i + nI k = nI (60 * t + i + k) := by rw [m60 t ht, nI_add, nI_add]
    refine sX11_shift_104 ?_
    unfold bX11_shift_104
    rw [e, nI_clamp (by omega), nI_clamp (by omega), nI_1]
    refine br_t (nI_lt (by omega) (by omega)) ⟨hM.r154, hM.r153, vp_at hM.n153 (vp_in_nI (by omega) (by omega)), vp_at hM.n154 (vp_in_nI (by omega) (by omega)), ?_⟩
    intro g1 e1
    rw [wu_154, hu_153] at e1
    have e2 : sh1 S (60 * t + i) k 153 (60 * t + i + k) = S 153 (60 * t + i + k) := by
      unfold sh1
      rw [if_neg (fun z => absurd z.1 (by decide))]
    rw [e2, sh1_up] at e1
    subst e1
    exact ih (k + 1) (by omega)
theorem lp_X11_sh2 {d rc rs q j n a : Nat} {σ : XH} {S : SS} {Q : XV → XH → Prop} (hM : MI σ) (hq : q < 6) (hj : j + n ≤ 60) (h : Q (vI (nI n)) (up σ (sh2 S a (60 * q + j) n (sh1 S a n)))) : ∀ (m k : Nat), k + m = n → Ex d rc rs m_X11_shift 141 [vR (some (12, 0)), vU, vU, vI (nI q), vI (nI j), vI (nI n), vI (nI k)] [] (up σ (sh2 S a (60 * q + j) k (sh1 S a n))) Q := by
  intro m
  induction m with
  | zero =>
    intro k hk
    have e : k = n := by omega
    rw [e]
    refine sX11_shift_141 ?_
    unfold bX11_shift_141
    exact br_f (nI_nlt (Nat.le_refl _) (by omega)) h
  | succ m ih =>
    intro k hk
    have e : 60 * nI q + nI j + nI k = nI (60 * q + j + k) := by rw [m60 q hq, nI_add, nI_add]
    refine sX11_shift_141 ?_
    unfold bX11_shift_141
    rw [e, nI_clamp (by omega), nI_clamp (by omega), nI_1]
    refine br_t (nI_lt (by omega) (by omega)) ⟨hM.r153, hM.r154, vp_at hM.n154 (vp_in_nI (by omega) (by omega)), vp_at hM.n153 (vp_in_nI (by omega) (by omega)), ?_⟩
    intro g1 e1
    rw [wu_153, hu_154] at e1
    have e2 : sh2 S a (60 * q + j) k (sh1 S a n) 154 k = S 153 (a + k) := by
      unfold sh2 sh1
      rw [if_neg (fun z => absurd z.1 (by decide)), if_pos ⟨rfl, by omega⟩]
    rw [e2, sh2_up] at e1
    subst e1
    exact ih (k + 1) (by omega)
theorem sp_X11_shift {d : Nat} {t i q j n : Int32} {σ : XH} {S : SS} {Q : XV → XH → Prop} (hd : 2 ≤ d) (hM : MI σ) (hT : TpI S) (h : Q (vI (shiftF S t i q j n).1) (up σ (shiftF S t i q j n).2)) : Ec d 0 0 m_X11_shift [vR (some (12, 0)), vI t, vI i, vI q, vI j, vI n] (up σ S) Q := by
  unfold shiftF at h
  have f16 : ¬ (inP t 0 5 ∧ inP q 0 5) → Ex d 0 0 m_X11_shift 16 [vU, vU, vU, vU, vU, vU, vU] [] (up σ S) Q := fun z => by
    rw [if_neg z] at h
    refine sX11_shift_16 ?_
    exact h
  refine Ec_of mo_X11_shift.1 (Nat.le_of_ble_eq_true rfl) ?_
  refine sX11_shift_0 ?_
  unfold bX11_shift_0
  refine ⟨by omega, sp_X11_isTape (by omega) (fun z => br_f (by decide) ⟨by omega, ?_⟩) (fun z => br_t rfl (f16 (fun y => z y.1)))⟩
  refine sp_X11_isTape (by omega) (fun z2 => br_f (by decide) ?_) (fun z2 => br_t rfl (f16 (fun y => z2 y.2)))
  rw [if_pos ⟨z, z2⟩] at h
  obtain ⟨t', ht, et⟩ := tp_t z
  obtain ⟨q', hq, eq⟩ := tp_t z2
  subst et eq
  have g : ∀ s r, r < 100000 → gS S s (nI r) = S s r := fun s r hr_ => gS_nI S s hr_
  rw [g 151 t' (by omega), g 151 q' (by omega), g 152 t' (by omega), g 152 q' (by omega), nI_clamp (n := t') (by omega), nI_clamp (n := q') (by omega)] at h
  have vt : vp_in (nI t') 6 := vp_in_nI ht (by omega)
  have vq : vp_in (nI q') 6 := vp_in_nI hq (by omega)
  have f36 : (S 151 t' < 0 ∨ S 151 q' < 0) → Ex d 0 0 m_X11_shift 36 [vU, vU, vU, vU, vU, vU, vU] [] (up σ S) Q := fun y => by
    rw [if_pos y] at h
    refine sX11_shift_36 ?_
    exact h
  dsimp only [hu_151, hu_152]
  rw [nI_clamp (n := t') (by omega), nI_clamp (n := q') (by omega)]
  refine ⟨hM.r151, vp_at hM.n151 vt, fun c1 => f36 (Or.inl c1), fun c1 => ⟨hM.r151, vp_at hM.n151 vq, fun c2 => f36 (Or.inr c2), fun c2 => ⟨hM.r151, vp_at hM.n151 vt, hM.r151, vp_at hM.n151 vq, fun c3 => ?_, fun c3 => ?_⟩⟩⟩
  · rw [if_neg (fun y => y.elim c1 c2), if_pos c3] at h
    have f98 : (n < 0 ∨ i < 0 ∨ j < 0 ∨ S 152 t' - n < i ∨ S 152 q' - n < j) → Ex d 0 0 m_X11_shift 98 [vU, vU, vU, vU, vU, vU, vU] [] (up σ S) Q := fun y => by
      rw [if_pos y] at h
      refine sX11_shift_98 ?_
      exact h
    refine ⟨fun c4 => f98 (Or.inl c4), fun c4 => ⟨fun c5 => f98 (Or.inr (Or.inl c5)), fun c5 => ⟨fun c6 => f98 (Or.inr (Or.inr (Or.inl c6))), fun c6 => ⟨hM.r152, vp_at hM.n152 vt, fun c7 => f98 (Or.inr (Or.inr (Or.inr (Or.inl c7)))), fun c7 => ⟨hM.r152, vp_at hM.n152 vq, fun c8 => f98 (Or.inr (Or.inr (Or.inr (Or.inr c8)))), fun c8 => ?_⟩⟩⟩⟩⟩
    rw [if_neg (fun y => y.elim c4 (fun y => y.elim c5 (fun y => y.elim c6 (fun y => y.elim c7 c8))))] at h
    have bt := hT.b ht
    have bq := hT.b hq
    have en := nI_of_nn c4
    have ei := nI_of_nn c5
    have ej := nI_of_nn c6
    have rn := fb_rng n
    have cn : n.toNatClampNeg = n.toInt.toNat := rfl
    have ci : i.toNatClampNeg = i.toInt.toNat := rfl
    have cj : j.toNatClampNeg = j.toInt.toNat := rfl
    have e0 : (0 : Int32).toInt = 0 := by decide
    rw [fa_lt, e0] at c4 c5 c6
    rw [fa_lt, fb_subI (by omega) (by omega)] at c7 c8
    have hin : i.toNatClampNeg + n.toNatClampNeg ≤ 60 := by omega
    have hjn : j.toNatClampNeg + n.toNatClampNeg ≤ 60 := by omega
    generalize n.toNatClampNeg = n' at *
    generalize i.toNatClampNeg = i' at *
    generalize j.toNatClampNeg = j' at *
    subst en ei ej
    have g2 := lp_X11_sh2 (d := d) (rc := 0) (rs := 0) (Q := Q) hM hq hjn h n' 0 (by omega)
    have e3 : sh2 S (60 * t' + i') (60 * q' + j') 0 (sh1 S (60 * t' + i') n') = sh1 S (60 * t' + i') n' := funext fun s => funext fun k => by
      unfold sh2
      rw [if_neg (fun z => by omega)]
    rw [e3, nI_0] at g2
    have g1 := lp_X11_sh1 (d := d) (rc := 0) (rs := 0) (S := S) hM ht hin g2 n' 0 (by omega)
    have e4 : sh1 S (60 * t' + i') 0 = S := funext fun s => funext fun k => by
      unfold sh1
      rw [if_neg (fun z => by omega)]
    rw [e4, nI_0] at g1
    exact g1
  · rw [if_neg (fun y => y.elim c1 c2), if_neg c3] at h
    exact h
/-! the class's tapes -/
theorem sp_X9_holdsRow {d t : Nat} {S : SS} {σ : XH} {Q : XV → XH → Prop} (hC : CTp σ S) (ht : t < 6) (h1 : ¬ S 151 t < 0 → Q (vI 1) σ) (h0 : S 151 t < 0 → Q (vI 0) σ) : Ec d 0 0 m_X9_holdsRow [vR (some (10, t))] σ Q := by
  refine Ec_of mo_X9_holdsRow.1 (Nat.le_of_ble_eq_true rfl) ?_
  refine sX9_holdsRow_0 ?_
  unfold bX9_holdsRow_0
  rw [(hC t ht).1]
  refine ⟨fun c => ?_, fun c => ?_⟩
  · refine sX9_holdsRow_12 ?_
    exact ⟨Or.inl rfl, h0 c⟩
  · refine sX9_holdsRow_12 ?_
    exact ⟨Or.inr rfl, h1 c⟩
theorem sp_X9_hasPlace {d t : Nat} {i : Int32} {S : SS} {σ : XH} {Q : XV → XH → Prop} (hC : CTp σ S) (ht : t < 6) (h1 : (¬ i < 0 ∧ i < S 152 t) → Q (vI 1) σ) (h0 : ¬ (¬ i < 0 ∧ i < S 152 t) → Q (vI 0) σ) : Ec d 0 0 m_X9_hasPlace [vR (some (10, t)), vI i] σ Q := by
  have f16 : ¬ (¬ i < 0 ∧ i < S 152 t) → Ex d 0 0 m_X9_hasPlace 16 [vU, vU] [] σ Q := fun z => by
    refine sX9_hasPlace_16 ?_
    refine sX9_hasPlace_17 ?_
    exact ⟨Or.inl rfl, h0 z⟩
  refine Ec_of mo_X9_hasPlace.1 (Nat.le_of_ble_eq_true rfl) ?_
  refine sX9_hasPlace_0 ?_
  unfold bX9_hasPlace_0
  rw [(hC t ht).2.1]
  refine ⟨fun c => f16 (fun z => z.1 c), fun c => ⟨fun c2 => ?_, fun c2 => f16 (fun z => c2 z.2)⟩⟩
  refine sX9_hasPlace_17 ?_
  exact ⟨Or.inr rfl, h1 ⟨c, c2⟩⟩
theorem sp_X9_hasPlaces {d t : Nat} {i n : Int32} {S : SS} {σ : XH} {Q : XV → XH → Prop} (hC : CTp σ S) (ht : t < 6) (h1 : (¬ i < 0 ∧ ¬ n < 0 ∧ ¬ S 152 t < i ∧ ¬ S 152 t - i < n) → Q (vI 1) σ) (h0 : ¬ (¬ i < 0 ∧ ¬ n < 0 ∧ ¬ S 152 t < i ∧ ¬ S 152 t - i < n) → Q (vI 0) σ) : Ec d 0 0 m_X9_hasPlaces [vR (some (10, t)), vI i, vI n] σ Q := by
  have f30 : ¬ (¬ i < 0 ∧ ¬ n < 0 ∧ ¬ S 152 t < i ∧ ¬ S 152 t - i < n) → Ex d 0 0 m_X9_hasPlaces 30 [vU, vU, vU] [] σ Q := fun z => by
    refine sX9_hasPlaces_30 ?_
    refine sX9_hasPlaces_31 ?_
    exact ⟨Or.inl rfl, h0 z⟩
  refine Ec_of mo_X9_hasPlaces.1 (Nat.le_of_ble_eq_true rfl) ?_
  refine sX9_hasPlaces_0 ?_
  unfold bX9_hasPlaces_0
  rw [(hC t ht).2.1]
  refine ⟨fun c => f30 (fun z => z.1 c), fun c => ⟨fun c2 => f30 (fun z => z.2.1 c2), fun c2 => ⟨fun c3 => f30 (fun z => z.2.2.1 c3), fun c3 => ⟨fun c4 => f30 (fun z => z.2.2.2 c4), fun c4 => ?_⟩⟩⟩⟩
  refine sX9_hasPlaces_31 ?_
  exact ⟨Or.inr rfl, h1 ⟨c, c2, c3, c4⟩⟩
theorem inP_lt {i x : Int32} (hx : ¬ x.toInt = -2147483648) : inP i 0 (x - 1) ↔ (¬ i < 0 ∧ i < x) := by
  have r := fb_rng x
  have e1 : (1 : Int32).toInt = 1 := by decide
  have e0 : (0 : Int32).toInt = 0 := by decide
  rw [inP_iff, fa_lt, fa_lt, fa_lt, fb_subI (by omega) (by omega), e1, e0]
  omega
theorem CTp.wi {σ : XH} {S : SS} (h : CTp σ S) {t k : Nat} (ht : t < 6) (hk : k < 60) (x : Int32) : CTp (wI σ 114 t k x) (up2 S 153 (60 * t + k) x) := by
  intro q hq
  obtain ⟨h1, h2, h3⟩ := h q hq
  refine ⟨by rw [hi_wI_ne _ _ _ _ (by decide), up2_s _ _ _ (by decide)]; exact h1, by rw [hi_wI_ne _ _ _ _ (by decide), up2_s _ _ _ (by decide)]; exact h2, fun j hj => ?_⟩
  rw [hi_wI_at, up2_at]
  by_cases e : q = t ∧ j = k
  · rw [if_pos e, if_pos (by omega)]
  · rw [if_neg e, if_neg (fun z => e (by omega))]
    exact h3 j hj
theorem sp_X10_item {d : Nat} {t i v : Int32} {S : SS} {σ : XH} {Q : XV → XH → Prop} (hd : 2 ≤ d) (hX : CFX σ) (hT : TpI S) (hC : CTp σ S) (h : ∀ σ', Fi (tl [114]) σ σ' → CTp σ' (itemF S t i v).2 → Q (vI (itemF S t i v).1) σ') : Ec d 0 0 m_X10_item [vR (some (11, 0)), vI t, vI i, vI v] σ Q := by
  unfold itemF at h
  refine Ec_of mo_X10_item.1 (Nat.le_of_ble_eq_true rfl) ?_
  refine sX10_item_0 ?_
  unfold bX10_item_0
  refine ⟨by omega, sp_X10_tapeAt (by omega) hX (fun q hq eq z => br_f some_ne ?_) (fun z => br_t rfl ?_)⟩
  · subst eq
    rw [if_pos z, gS_nI S 151 (by omega), gS_nI S 152 (by omega)] at h
    have b := hT.b hq
    have ep := inP_lt (i := i) (x := S 152 q) (by omega)
    refine drf_of rfl ⟨by omega, ?_⟩
    refine sp_X9_holdsRow hC hq (fun c1 => br_f (by decide) ?_) (fun c1 => br_t rfl ?_)
    · rw [if_neg c1] at h
      refine drf_of rfl ⟨by omega, ?_⟩
      refine sp_X9_hasPlace hC hq (fun c2 => br_f (by decide) ?_) (fun c2 => br_t rfl ?_)
      · rw [if_pos (ep.mpr c2)] at h
        obtain ⟨x1, x2, x3⟩ := tp_ix hT hq c2.1 c2.2
        have f62 : ¬ (S 151 q = 3 ∧ ¬ inP v (-8000000) 8000000) → Ex d 0 0 m_X10_item 62 [vU, vU, vI i, vI v, vR (some (10, q))] [] σ Q := fun c3 => by
          rw [if_neg c3] at h
          have vi : vp_in i 60 := by
            rw [x1]
            exact vp_in_nI x2 (by omega)
          have fin : ∀ x : Int32, x = (if S 151 q = 0 then v.toInt8.toInt32 else if S 151 q = 1 then v.toInt16.toInt32 else v) → Ex (d - 1) 0 0 m_X9_put 53 [vU, vU, vU] [] (wI σ 114 q i.toNatClampNeg x) (kU fun h1 => Q (vI 1) h1) := fun x hx => by
            refine sX9_put_53 ?_
            refine h _ (Fi.wI (Fi.rf _ _) (by decide) _ _ _) ?_
            show CTp _ (up2 S 153 (60 * nI q + i).toNatClampNeg _)
            rw [x3, nI_clamp (by omega), ← hx]
            exact hC.wi hq x2 x
          refine sX10_item_62 ?_
          refine drf_of rfl ⟨by omega, ?_⟩
          refine Ec_of mo_X9_put.1 (Nat.le_of_ble_eq_true rfl) ?_
          refine sX9_put_0 ?_
          unfold bX9_put_0
          refine ⟨by omega, sp_X9_hasPlace hC hq (fun _ => br_f (by decide) ?_) (fun y => absurd c2 y)⟩
          have lk := (hX.2.2.1 q hq).1
          have ln := (hX.2.2.1 q hq).2
          rw [(hC q hq).1]
          refine ⟨fun s0 => ⟨lk, vp_at ln vi, ?_⟩, fun s0 => ⟨fun s1 => ⟨lk, vp_at ln vi, ?_⟩, fun s1 => ⟨lk, vp_at ln vi, ?_⟩⟩⟩
          · intro g1 e1
            subst e1
            exact fin _ (by rw [if_pos s0])
          · intro g1 e1
            subst e1
            exact fin _ (by rw [if_neg s0, if_pos s1])
          · intro g1 e1
            subst e1
            exact fin _ (by rw [if_neg s0, if_neg s1])
        refine drf_of rfl ?_
        rw [(hC q hq).1]
        refine ⟨fun c3 => ⟨by omega, ?_⟩, fun c3 => f62 (fun y => c3 y.1)⟩
        refine sp_X10_within (fun c4 => br_f (by decide) (f62 (fun y => y.2 c4))) (fun c4 => br_t rfl ?_)
        refine sX10_item_59 ?_
        rw [if_pos ⟨c3, c4⟩] at h
        exact h σ (Fi.rf _ _) hC
      · rw [if_neg (fun y => c2 (ep.mp y))] at h
        exact h σ (Fi.rf _ _) hC
    · rw [if_pos c1] at h
      exact h σ (Fi.rf _ _) hC
  · rw [if_neg z] at h
    exact h σ (Fi.rf _ _) hC
theorem sp_X10_blank {d : Nat} {t i : Int32} {S : SS} {σ : XH} {Q : XV → XH → Prop} (hd : 2 ≤ d) (hX : CFX σ) (hT : TpI S) (hC : CTp σ S) (h : ∀ σ', Fi (tl [114]) σ σ' → CTp σ' (blankF S t i).2 → Q (vI (blankF S t i).1) σ') : Ec d 0 0 m_X10_blank [vR (some (11, 0)), vI t, vI i] σ Q := by
  unfold blankF at h
  refine Ec_of mo_X10_blank.1 (Nat.le_of_ble_eq_true rfl) ?_
  refine sX10_blank_0 ?_
  unfold bX10_blank_0
  refine ⟨by omega, sp_X10_tapeAt (by omega) hX (fun q hq eq z => br_f some_ne ?_) (fun z => br_t rfl ?_)⟩
  · subst eq
    rw [if_pos z, gS_nI S 151 (by omega), gS_nI S 152 (by omega)] at h
    have b := hT.b hq
    have ep := inP_lt (i := i) (x := S 152 q) (by omega)
    refine drf_of rfl ⟨by omega, ?_⟩
    refine sp_X9_holdsRow hC hq (fun c1 => br_f (by decide) ?_) (fun c1 => br_t rfl ?_)
    · rw [if_neg c1] at h
      refine drf_of rfl ?_
      rw [(hC q hq).1]
      refine ⟨fun c3 => drf_of rfl ⟨by omega, ?_⟩, fun c3 => ?_⟩
      · rw [if_pos c3] at h
        refine sp_X9_hasPlace hC hq (fun c2 => br_f (by decide) ?_) (fun c2 => br_t rfl ?_)
        · rw [if_pos (ep.mpr c2)] at h
          obtain ⟨x1, x2, x3⟩ := tp_ix hT hq c2.1 c2.2
          have vi : vp_in i 60 := by
            rw [x1]
            exact vp_in_nI x2 (by omega)
          have lk := (hX.2.2.1 q hq).1
          have ln := (hX.2.2.1 q hq).2
          refine drf_of rfl ⟨by omega, ?_⟩
          refine Ec_of mo_X9_put.1 (Nat.le_of_ble_eq_true rfl) ?_
          refine sX9_put_0 ?_
          unfold bX9_put_0
          refine ⟨by omega, sp_X9_hasPlace hC hq (fun _ => br_f (by decide) ?_) (fun y => absurd c2 y)⟩
          rw [(hC q hq).1]
          refine br_f (by rw [c3]; decide) (br_f (by rw [c3]; decide) ⟨lk, vp_at ln vi, ?_⟩)
          intro g1 e1
          subst e1
          refine sX9_put_53 ?_
          refine sX10_blank_52 ?_
          refine h _ (Fi.wI (Fi.rf _ _) (by decide) _ _ _) ?_
          show CTp _ (up2 S 153 (60 * nI q + i).toNatClampNeg _)
          rw [x3, nI_clamp (by omega)]
          exact hC.wi hq x2 _
        · rw [if_neg (fun y => c2 (ep.mp y))] at h
          exact h σ (Fi.rf _ _) hC
      · rw [if_neg c3] at h
        exact h σ (Fi.rf _ _) hC
    · rw [if_pos c1] at h
      exact h σ (Fi.rf _ _) hC
  · rw [if_neg z] at h
    exact h σ (Fi.rf _ _) hC
theorem sp_X10_read {d : Nat} {t i : Int32} {S : SS} {σ : XH} {Q : XV → XH → Prop} (hd : 2 ≤ d) (hX : CFX σ) (hT : TpI S) (hC : CTp σ S) (h : Q (vI (readF S t i).1) σ) : Ec d 0 0 m_X10_read [vR (some (11, 0)), vI t, vI i] σ Q := by
  unfold readF at h
  have f18 : ¬ (inP t 0 5 ∧ ¬ gS S 151 t < 0 ∧ inP i 0 (gS S 152 t - 1)) → Ex d 0 0 m_X10_read 18 [vU, vU, vU, vU] [] σ Q := fun z => by
    rw [if_neg z] at h
    refine sX10_read_18 ?_
    refine sX10_read_29 ?_
    exact h
  refine Ec_of mo_X10_read.1 (Nat.le_of_ble_eq_true rfl) ?_
  refine sX10_read_0 ?_
  unfold bX10_read_0
  refine ⟨by omega, sp_X10_tapeAt (by omega) hX (fun q hq eq z => br_f some_ne ?_) (fun z => br_t rfl (f18 (fun y => z y.1)))⟩
  subst eq
  rw [gS_nI S 151 (by omega), gS_nI S 152 (by omega)] at h f18
  have b := hT.b hq
  have ep := inP_lt (i := i) (x := S 152 q) (by omega)
  refine drf_of rfl ⟨by omega, ?_⟩
  refine sp_X9_hasPlace hC hq (fun c2 => br_f (by decide) ?_) (fun c2 => br_t rfl (f18 (fun y => c2 (ep.mp y.2.2))))
  obtain ⟨x1, x2, x3⟩ := tp_ix hT hq c2.1 c2.2
  have c1 : ¬ S 151 q < 0 := fun y => by
    have := (hT q hq).2.2 y
    rw [this] at c2
    exact c2.1 c2.2
  rw [if_pos ⟨z, c1, ep.mpr c2⟩, x3, gS_nI S 153 (by omega)] at h
  have vi : vp_in i 60 := by
    rw [x1]
    exact vp_in_nI x2 (by omega)
  refine drf_of rfl ⟨(hX.2.2.1 q hq).1, vp_at (hX.2.2.1 q hq).2 vi, ?_⟩
  refine sX10_read_29 ?_
  unfold bX10_read_29
  rw [(hC q hq).2.2 _ x2]
  exact h
theorem sp_X10_tape {d : Nat} {t of_ n : Int32} {S : SS} {σ : XH} {Q : XV → XH → Prop} (hd : 2 ≤ d) (hX : CFX σ) (hC : CTp σ S) (h : ∀ σ', Fi (tl [10, 114]) σ σ' → CTp σ' (tapeF S t of_ n).2 → Q (vI (tapeF S t of_ n).1) σ') : Ec d 0 0 m_X10_tape [vR (some (11, 0)), vI t, vI of_, vI n] σ Q := by
  unfold tapeF at h
  refine Ec_of mo_X10_tape.1 (Nat.le_of_ble_eq_true rfl) ?_
  refine sX10_tape_0 ?_
  unfold bX10_tape_0
  refine ⟨by omega, sp_X10_tapeAt (by omega) hX (fun q hq eq z => br_f some_ne ⟨by omega, ?_⟩) (fun z => br_t rfl ?_)⟩
  · subst eq
    rw [if_pos z, nI_clamp (by omega)] at h
    have f50 : inP of_ (-1) 3 → ¬ (¬ of_ < 0 ∧ 60 < n) → ¬ (¬ of_ < 0 ∧ n < 0) → Ex d 0 0 m_X10_tape 50 [vU, vU, vI of_, vI n, vR (some (10, q))] [] σ Q := fun y1 y2 y3 => by
      rw [if_pos ⟨y1, y2⟩, if_neg y3] at h
      have fin : ∀ w : Int32, w = (if of_ < 0 then 0 else n) → Ex (d - 1) 0 0 m_X9_become 24 [vR (some (10, q)), vU, vU] [vI w, vR (some (10, q))] (wI σ 10 q 1 of_) (kU fun h1 => Q (vI 1) h1) := fun w hw => by
        refine sX9_become_24 ?_
        intro g1 e1
        subst e1
        refine ⟨(hX.2.2.1 q hq).1, by omega, ?_⟩
        refine sp_fill (s := 114) (n := 60) (by omega) (by omega) (hX.2.2.1 q hq).2 ?_
        intro σ' k1 k2 k3
        have b10 : hi σ' 10 = hi (wI (wI σ 10 q 1 of_) 10 q 2 w) 10 := k1.i (by decide)
        refine h σ' ((Fi.wI (Fi.wI (Fi.rf _ _) (by decide) _ _ _) (by decide) _ _ _).trans (k1.sub (tl_sub (by decide)))) ?_
        dsimp only
        intro p hp
        obtain ⟨c1, c2, c3⟩ := hC p hp
        rw [b10, hi_wI_at, hi_wI_at, hi_wI_at, hi_wI_at]
        rw [zT_s (by decide), zT_s (by decide), up2_s _ _ _ (show 151 ≠ 152 by decide), up2_at, up2_at, up2_s _ _ _ (show 152 ≠ 151 by decide)]
        by_cases e : p = q
        · subst e
          rw [if_neg (fun z => absurd z.2 (by decide)), if_pos ⟨rfl, rfl⟩, if_pos rfl, if_pos ⟨rfl, rfl⟩, if_pos rfl]
          refine ⟨rfl, hw, fun k hk => ?_⟩
          rw [k3 k hk, zT_at, if_pos (by omega)]
        · rw [if_neg (fun z => e z.1), if_neg (fun z => e z.1), if_neg e, if_neg (fun z => e z.1), if_neg (fun z => e z.1), if_neg e]
          refine ⟨c1, c2, fun k hk => ?_⟩
          rw [k2 p e, zT_at, if_neg (fun z => by omega), up2_s _ _ _ (by decide), up2_s _ _ _ (by decide)]
          exact c3 k hk
      refine sX10_tape_50 ?_
      refine drf_of rfl ⟨by omega, ?_⟩
      refine Ec_of mo_X9_become.1 (Nat.le_of_ble_eq_true rfl) ?_
      refine sX9_become_0 ?_
      intro g1 e1
      subst e1
      refine ⟨fun c => fin _ (by rw [if_pos c]), fun c => ⟨by omega, sp_minI ⟨by omega, sp_maxI ?_⟩⟩⟩
      refine fin _ ?_
      rw [if_neg c]
      have r60 : ¬ 60 < n := fun y => y2 ⟨c, y⟩
      have r0 : ¬ n < 0 := fun y => y3 ⟨c, y⟩
      have em : mnI n 60 = n := by
        unfold mnI
        rw [if_neg r60]
      rw [em]
      unfold mxI
      by_cases c0 : 0 < n
      · rw [if_pos c0]
      · rw [if_neg c0]
        rw [fa_lt] at c0 r0
        rw [fa_eq]
        omega
    have f39 : inP of_ (-1) 3 → ¬ (¬ of_ < 0 ∧ 60 < n) → Ex d 0 0 m_X10_tape 39 [vU, vU, vI of_, vI n, vR (some (10, q))] [] σ Q := fun y1 y2 => by
      refine sX10_tape_39 ?_
      refine ⟨fun c => f50 y1 y2 (fun y => y.1 c), fun c => ⟨fun c2 => ?_, fun c2 => f50 y1 y2 (fun y => c2 y.2)⟩⟩
      rw [if_pos ⟨y1, y2⟩, if_pos ⟨c, c2⟩] at h
      exact h σ (Fi.rf _ _) hC
    refine sp_X10_within (fun z2 => br_f (by decide) ⟨fun c => f39 z2 (fun y => y.1 c), fun c => ⟨fun c2 => ?_, fun c2 => f39 z2 (fun y => c2 y.2)⟩⟩) (fun z2 => br_t rfl ?_)
    · rw [if_neg (fun y => y.2 ⟨c, c2⟩)] at h
      exact h σ (Fi.rf _ _) hC
    · rw [if_neg (fun y => z2 y.1)] at h
      exact h σ (Fi.rf _ _) hC
  · rw [if_neg z] at h
    exact h σ (Fi.rf _ _) hC
theorem hi_cpI (σ : XH) (o : XO) (a : Nat) (q : XO) (b n : Nat) (s i k : Nat) : hi (cpI σ o a q b n) s i k = if s = q.1 ∧ i = q.2 ∧ b ≤ k ∧ k < b + n then hi σ o.1 o.2 (a + (k - b)) else hi σ s i k := rfl
theorem sp_X10_shift {d : Nat} {t i q j n : Int32} {S : SS} {σ : XH} {Q : XV → XH → Prop} (hd : 2 ≤ d) (hX : CFX σ) (hT : TpI S) (hC : CTp σ S) (h : ∀ σ', Fi (tl [114]) σ σ' → CTp σ' (shiftF S t i q j n).2 → Q (vI (shiftF S t i q j n).1) σ') : Ec d 0 0 m_X10_shift [vR (some (11, 0)), vI t, vI i, vI q, vI j, vI n] σ Q := by
  unfold shiftF at h
  have f24 : ¬ (inP t 0 5 ∧ inP q 0 5) → Ex d 0 0 m_X10_shift 24 [vU, vU, vU, vU, vU, vU, vU, vU] [] σ Q := fun z => by
    rw [if_neg z] at h
    refine sX10_shift_24 ?_
    exact h σ (Fi.rf _ _) hC
  refine Ec_of mo_X10_shift.1 (Nat.le_of_ble_eq_true rfl) ?_
  refine sX10_shift_0 ?_
  unfold bX10_shift_0
  refine ⟨by omega, sp_X10_tapeAt (by omega) hX (fun t' ht et z => ⟨by omega, ?_⟩) (fun z => ⟨by omega, ?_⟩)⟩
  · refine sp_X10_tapeAt (by omega) hX (fun q' hq eq z2 => br_f some_ne (br_f some_ne ?_)) (fun z2 => br_f some_ne (br_t rfl (f24 (fun y => z2 y.2))))
    subst et eq
    have g : ∀ s r, r < 100000 → gS S s (nI r) = S s r := fun s r hr_ => gS_nI S s hr_
    rw [if_pos ⟨z, z2⟩, g 151 t' (by omega), g 151 q' (by omega), g 152 t' (by omega), g 152 q' (by omega), nI_clamp (n := t') (by omega), nI_clamp (n := q') (by omega)] at h
    have f42 : (S 151 t' < 0 ∨ S 151 q' < 0) → Ex d 0 0 m_X10_shift 42 [vU, vU, vU, vU, vU, vU, vU, vU] [] σ Q := fun y => by
      rw [if_pos y] at h
      refine sX10_shift_42 ?_
      exact h σ (Fi.rf _ _) hC
    refine drf_of rfl ⟨by omega, ?_⟩
    refine sp_X9_holdsRow hC ht (fun c1 => br_f (by decide) ?_) (fun c1 => br_t rfl (f42 (Or.inl c1)))
    refine drf_of rfl ⟨by omega, ?_⟩
    refine sp_X9_holdsRow hC hq (fun c2 => br_f (by decide) ?_) (fun c2 => br_t rfl (f42 (Or.inr c2)))
    refine drf_of rfl (drf_of rfl ?_)
    rw [if_neg (fun y => y.elim c1 c2)] at h
    rw [(hC t' ht).1, (hC q' hq).1]
    refine ⟨fun c3 => drf_of rfl ⟨by omega, ?_⟩, fun c3 => ?_⟩
    · rw [if_pos c3] at h
      have bt := hT.b ht
      have bq := hT.b hq
      have rn := fb_rng n
      have ri := fb_rng i
      have rj := fb_rng j
      have e0 : (0 : Int32).toInt = 0 := by decide
      -- the two ways to say that there is room
      have key : ∀ (L x : Int32), (0 ≤ L.toInt ∧ L.toInt ≤ 60) → ((¬ x < 0 ∧ ¬ n < 0 ∧ ¬ L < x ∧ ¬ L - x < n) ↔ (¬ n < 0 ∧ ¬ x < 0 ∧ ¬ L - n < x)) := fun L x hL => by
        have rx := fb_rng x
        by_cases cx : x < 0
        · exact ⟨fun y => absurd cx y.1, fun y => absurd cx y.2.1⟩
        · by_cases cn : n < 0
          · exact ⟨fun y => absurd cn y.2.1, fun y => absurd cn y.1⟩
          · rw [fa_lt, e0] at cx cn
            rw [fa_lt, fa_lt, fa_lt, fa_lt, fa_lt, e0, fb_subI (x := L) (y := x) (by omega) (by omega), fb_subI (x := L) (y := n) (by omega) (by omega)]
            omega
      have f84 : (n < 0 ∨ i < 0 ∨ j < 0 ∨ S 152 t' - n < i ∨ S 152 q' - n < j) → Ex d 0 0 m_X10_shift 84 [vU, vU, vU, vU, vU, vU, vU, vU] [] σ Q := fun y => by
        rw [if_pos y] at h
        refine sX10_shift_84 ?_
        exact h σ (Fi.rf _ _) hC
      have k1 := key (S 152 t') i bt
      have k2 := key (S 152 q') j bq
      refine sp_X9_hasPlaces hC ht (fun c4 => br_f (by decide) ?_) (fun c4 => br_t rfl (f84 ?_))
      · refine drf_of rfl ⟨by omega, ?_⟩
        refine sp_X9_hasPlaces hC hq (fun c5 => br_f (by decide) ?_) (fun c5 => br_t rfl (f84 ?_))
        · have m1 := k1.mp c4
          have m2 := k2.mp c5
          rw [if_neg (fun y => y.elim m1.1 (fun y => y.elim m1.2.1 (fun y => y.elim m2.2.1 (fun y => y.elim m1.2.2 m2.2.2))))] at h
          obtain ⟨n0, i0, i1⟩ := m1
          obtain ⟨-, j0, j1⟩ := m2
          have cn : n.toNatClampNeg = n.toInt.toNat := rfl
          have ci : i.toNatClampNeg = i.toInt.toNat := rfl
          have cj : j.toNatClampNeg = j.toInt.toNat := rfl
          refine drf_of rfl ⟨(hX.2.2.1 t' ht).1, drf_of rfl ⟨(hX.2.2.1 q' hq).1, by omega, i0, j0, n0, ?_, ?_, ?_⟩⟩
          · rw [(hX.2.2.1 t' ht).2]
            rw [fa_lt, e0] at n0 i0
            rw [fa_lt, fb_subI (by omega) (by omega)] at i1
            omega
          · rw [(hX.2.2.1 q' hq).2]
            rw [fa_lt, e0] at n0 j0
            rw [fa_lt, fb_subI (by omega) (by omega)] at j1
            omega
          · intro g1 e1
            subst e1
            rw [fa_lt, e0] at n0 i0 j0
            rw [fa_lt, fb_subI (by omega) (by omega)] at i1 j1
            refine h _ (Fi.cpI (Fi.rf _ _) _ _ _ _ _ rfl) ?_
            dsimp only
            intro p hp
            obtain ⟨c1, c2, c3⟩ := hC p hp
            have e151 : ∀ s, s ≠ 153 → s ≠ 154 → ∀ k, sh2 S (60 * t' + i.toNatClampNeg) (60 * q' + j.toNatClampNeg) n.toNatClampNeg (sh1 S (60 * t' + i.toNatClampNeg) n.toNatClampNeg) s k = S s k := fun s h1 h2 k => by
              unfold sh2 sh1
              rw [if_neg (fun z => h1 z.1), if_neg (fun z => h2 z.1)]
            refine ⟨?_, ?_, fun k hk => ?_⟩
            · rw [hi_cpI_ne _ _ _ _ _ _ (show 10 ≠ 114 by decide), e151 151 (by decide) (by decide)]
              exact c1
            · rw [hi_cpI_ne _ _ _ _ _ _ (show 10 ≠ 114 by decide), e151 152 (by decide) (by decide)]
              exact c2
            · rw [hi_cpI]
              unfold sh2
              by_cases e : p = q' ∧ j.toNatClampNeg ≤ k ∧ k < j.toNatClampNeg + n.toNatClampNeg
              · rw [if_pos ⟨rfl, e.1, e.2.1, e.2.2⟩, if_pos ⟨rfl, by omega, by omega⟩]
                show hi σ 114 t' (i.toNatClampNeg + (k - j.toNatClampNeg)) = _
                rw [(hC t' ht).2.2 _ (by omega)]
                congr 1
                omega
              · rw [if_neg (fun z => e ⟨z.2.1, z.2.2.1, z.2.2.2⟩), if_neg (fun z => e (by omega))]
                unfold sh1
                rw [if_neg (fun z => absurd z.1 (by decide))]
                exact c3 k hk
        · apply Classical.byContradiction
          intro y
          exact c5 (k2.mpr ⟨fun z => y (Or.inl z), fun z => y (Or.inr (Or.inr (Or.inl z))), fun z => y (Or.inr (Or.inr (Or.inr (Or.inr z))))⟩)
      · apply Classical.byContradiction
        intro y
        exact c4 (k1.mpr ⟨fun z => y (Or.inl z), fun z => y (Or.inr (Or.inl z)), fun z => y (Or.inr (Or.inr (Or.inr (Or.inl z))))⟩)
    · rw [if_neg c3] at h
      exact h σ (Fi.rf _ _) hC
  · refine sp_X10_tapeAt (by omega) hX (fun q' hq eq z2 => br_t rfl (f24 (fun y => z y.1))) (fun z2 => br_t rfl (f24 (fun y => z y.1)))
