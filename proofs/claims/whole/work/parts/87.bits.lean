/-! ===== the answers wait as bits ===== -/
def evF (f : Nat → Int32) (sg v : Int32) : Bool :=
  if sg = 104 then decide (f 0 = v) else if sg = 115 then decide (f 1 = v) else if sg = 101 then decide (f 2 = v) else if sg = 107 then decide (f 3 = v)
  else if sg = 60 then decide (f 4 < v) else decide (v < f 4)
theorem evT_F (S : SS) : evT S = evF (S 139) := rfl
def okT (c : Int32) : Prop := c = 104 ∨ c = 115 ∨ c = 101 ∨ c = 107 ∨ c = 60 ∨ c = 62
def okG (c : Int32) : Prop := c = 33 ∨ c = 38 ∨ c = 124 ∨ okT c
theorem gT_ok {ch : Nat → Int32} {n a : Nat} (h : (gT ch n a).1 = true) : okT (gT ch n a).2.2.1 := by
  have key : ∀ (c : Int32) (m : Nat) , okT c → (gTn ch n m (a + 2) c).1 = true → okT (gTn ch n m (a + 2) c).2.2.1 := fun c m hc h => by
    unfold gTn at h ⊢
    split at h
    · rename_i z
      rw [if_pos z]
      exact hc
    · exact Bool.noConfusion h
  unfold gT at h ⊢
  split at h
  · rename_i c1
    rw [if_pos c1]
    split at h
    · rename_i c2
      rw [if_pos c2]
      refine key _ 4 ?_ h
      rcases c1 with q | q | q | q
      · exact Or.inl q
      · exact Or.inr (Or.inl q)
      · exact Or.inr (Or.inr (Or.inl q))
      · exact Or.inr (Or.inr (Or.inr (Or.inl q)))
    · exact Bool.noConfusion h
  · rename_i c1
    rw [if_neg c1]
    split at h
    · rename_i c2
      rw [if_pos c2]
      split at h
      · rename_i c3
        rw [if_pos c3]
        refine key _ 6 ?_ h
        rcases c3 with q | q
        · exact Or.inr (Or.inr (Or.inr (Or.inr (Or.inl q))))
        · exact Or.inr (Or.inr (Or.inr (Or.inr (Or.inr q))))
      · exact Bool.noConfusion h
    · exact Bool.noConfusion h
theorem okT_no {c : Int32} (h : okT c) : ¬ c = 33 ∧ ¬ c = 38 ∧ ¬ c = 124 := by
  rcases h with q | q | q | q | q | q <;> subst q <;> decide
/-- the steps of a rule: how many values wait at each, and that the signs are known -/
def hOK : List Sst → Nat → Prop
  | [], _ => True
  | s :: l, h => okG s.1 ∧ (s.1 = 33 → 1 ≤ h ∧ hOK l h) ∧ ((s.1 = 38 ∨ s.1 = 124) → 2 ≤ h ∧ hOK l (h - 1)) ∧ (okT s.1 → h < 64 ∧ hOK l (h + 1))
theorem hOK_33 {v : Int32} {l : List Sst} {h : Nat} (h1 : 1 ≤ h) (k : hOK l h) : hOK ((33, v) :: l) h := ⟨Or.inl rfl, fun _ => ⟨h1, k⟩, fun z => absurd (show (33 : Int32) = 38 ∨ (33 : Int32) = 124 from z) (by decide), fun z => absurd rfl (okT_no z).1⟩
theorem hOK_38 {v : Int32} {l : List Sst} {h : Nat} (h1 : 2 ≤ h) (k : hOK l (h - 1)) : hOK ((38, v) :: l) h := ⟨Or.inr (Or.inl rfl), fun z => absurd (show (38 : Int32) = 33 from z) (by decide), fun _ => ⟨h1, k⟩, fun z => absurd rfl (okT_no z).2.1⟩
theorem hOK_124 {v : Int32} {l : List Sst} {h : Nat} (h1 : 2 ≤ h) (k : hOK l (h - 1)) : hOK ((124, v) :: l) h := ⟨Or.inr (Or.inr (Or.inl rfl)), fun z => absurd (show (124 : Int32) = 33 from z) (by decide), fun _ => ⟨h1, k⟩, fun z => absurd rfl (okT_no z).2.2⟩
theorem hOK_T {c v : Int32} {l : List Sst} {h : Nat} (hc : okT c) (h1 : h < 64) (k : hOK l (h + 1)) : hOK ((c, v) :: l) h :=
  ⟨Or.inr (Or.inr (Or.inr hc)), fun z => absurd z (okT_no hc).1, fun z => z.elim (fun y => absurd y (okT_no hc).2.1) (fun y => absurd y (okT_no hc).2.2), fun _ => ⟨h1, k⟩⟩
/-- how high the values may pile besides -/
def hb (m dep : Nat) : Nat := if m = 0 ∨ m = 1 then 2 * dep + 1 else if m = 2 ∨ m = 3 then 2 * dep + 2 else 2 * dep + 3
theorem gX_h {ch : Nat → Int32} {n : Nat} : ∀ (k m dep a : Nat), m ≤ 4 → (gX ch n k m dep a).1 = true → ∀ (h : Nat) (l : List Sst), h + hb m dep ≤ 64 → ((m = 1 ∨ m = 2) → 1 ≤ h → hOK l h → hOK ((gX ch n k m dep a).2.2 ++ l) h) ∧ (¬ (m = 1 ∨ m = 2) → hOK l (h + 1) → hOK ((gX ch n k m dep a).2.2 ++ l) h)
  | 0, m, dep, a, _, h => Bool.noConfusion h
  | k + 1, m, dep, a, hm, hg => by
    have ih := @gX_h ch n k
    intro h l hh
    match m, hm with
    | 0, _ =>
      have hh' : h + (2 * dep + 1) ≤ 64 := hh
      refine ⟨fun z => by omega, fun _ hl => ?_⟩
      rw [gX0] at hg ⊢
      split at hg
      · rename_i c
        rw [if_pos c]
        split at hg
        · exact Bool.noConfusion hg
        · rename_i c2
          rw [if_neg c2]
          obtain ⟨h1, h2⟩ := thn_ok hg
          rw [thn_t _ _ h1]
          show hOK ((_ ++ ([(33, 0)] ++ [])) ++ l) h
          rw [List.append_nil, List.append_assoc]
          refine (ih 0 _ _ (by omega) h1 h _ (by show h + (2 * (dep - 1) + 1) ≤ 64; omega)).2 (by omega) ?_
          exact hOK_33 (by omega) hl
      · rename_i c
        rw [if_neg c]
        split at hg
        · rename_i c1
          rw [if_pos c1]
          split at hg
          · exact Bool.noConfusion hg
          · rename_i c2
            rw [if_neg c2]
            obtain ⟨h1, h2⟩ := thn_ok hg
            rw [thn_t _ _ h1]
            split at h2
            · rename_i c3
              rw [if_pos c3]
              show hOK ((_ ++ ([] ++ [])) ++ l) h
              rw [List.append_nil, List.append_nil]
              exact (ih 4 _ _ (by omega) h1 h _ (by show h + (2 * (dep - 1) + 3) ≤ 64; omega)).2 (by omega) hl
            · exact Bool.noConfusion h2
        · rename_i c1
          rw [if_neg c1]
          exact hOK_T (gT_ok hg) (by omega) hl
    | 1, _ =>
      have hh' : h + (2 * dep + 1) ≤ 64 := hh
      refine ⟨fun _ h0 hl => ?_, fun z => absurd (Or.inl rfl) z⟩
      rw [gX1] at hg ⊢
      split at hg
      · rename_i c
        rw [if_pos c]
        obtain ⟨h1, h2⟩ := thn_ok hg
        rw [thn_t _ _ h1]
        show hOK ((_ ++ ([(38, 0)] ++ _)) ++ l) h
        rw [List.append_assoc, List.append_assoc]
        refine (ih 0 _ _ (by omega) h1 h _ (by show h + (2 * dep + 1) ≤ 64; omega)).2 (by omega) ?_
        exact hOK_38 (by omega) ((ih 1 _ _ (by omega) h2 h _ (by show h + (2 * dep + 1) ≤ 64; omega)).1 (Or.inl rfl) h0 hl)
      · rename_i c
        rw [if_neg c]
        exact hl
    | 2, _ =>
      have hh' : h + (2 * dep + 2) ≤ 64 := hh
      refine ⟨fun _ h0 hl => ?_, fun z => absurd (Or.inr rfl) z⟩
      rw [gX2] at hg ⊢
      split at hg
      · rename_i c
        rw [if_pos c]
        obtain ⟨h1, h2⟩ := thn_ok hg
        rw [thn_t _ _ h1]
        show hOK ((_ ++ ([(124, 0)] ++ _)) ++ l) h
        rw [List.append_assoc, List.append_assoc]
        refine (ih 3 _ _ (by omega) h1 h _ (by show h + (2 * dep + 2) ≤ 64; omega)).2 (by omega) ?_
        exact hOK_124 (by omega) ((ih 2 _ _ (by omega) h2 h _ (by show h + (2 * dep + 2) ≤ 64; omega)).1 (Or.inr rfl) h0 hl)
      · rename_i c
        rw [if_neg c]
        exact hl
    | 3, _ =>
      have hh' : h + (2 * dep + 2) ≤ 64 := hh
      refine ⟨fun z => by omega, fun _ hl => ?_⟩
      rw [gX3] at hg ⊢
      obtain ⟨h1, h2⟩ := thn_ok hg
      rw [thn_t _ _ h1]
      show hOK ((_ ++ ([] ++ _)) ++ l) h
      rw [List.nil_append, List.append_assoc]
      refine (ih 0 _ _ (by omega) h1 h _ (by show h + (2 * dep + 1) ≤ 64; omega)).2 (by omega) ?_
      exact (ih 1 _ _ (by omega) h2 (h + 1) _ (by show h + 1 + (2 * dep + 1) ≤ 64; omega)).1 (Or.inl rfl) (by omega) hl
    | 4, _ =>
      have hh' : h + (2 * dep + 3) ≤ 64 := hh
      refine ⟨fun z => by omega, fun _ hl => ?_⟩
      rw [gX4] at hg ⊢
      obtain ⟨h1, h2⟩ := thn_ok hg
      rw [thn_t _ _ h1]
      show hOK ((_ ++ ([] ++ _)) ++ l) h
      rw [List.nil_append, List.append_assoc]
      refine (ih 3 _ _ (by omega) h1 h _ (by show h + (2 * dep + 2) ≤ 64; omega)).2 (by omega) ?_
      exact (ih 2 _ _ (by omega) h2 (h + 1) _ (by show h + 1 + (2 * dep + 2) ≤ 64; omega)).1 (Or.inr rfl) (by omega) hl
theorem hOK_mem : ∀ (l : List Sst) (h : Nat), hOK l h → ∀ s, s ∈ l → okG s.1
  | [], _, _, _, hs => by cases hs
  | s :: l, h, k, x, hx => by
    obtain ⟨k1, k2, k3, k4⟩ := k
    rcases List.mem_cons.mp hx with e | e
    · rw [e]; exact k1
    · rcases id k1 with q | q | q | q
      · exact hOK_mem l _ (k2 q).2 x e
      · exact hOK_mem l _ (k3 (Or.inl q)).2 x e
      · exact hOK_mem l _ (k3 (Or.inr q)).2 x e
      · exact hOK_mem l _ (k4 q).2 x e
/-- bit i of a long -/
def bt (w : Int64) (i : Nat) : Bool := w.toBitVec.getLsbD i
def BR (w : Int64) (st : List Bool) : Prop := st.length ≤ 64 ∧ ∀ i, bt w i = st.getD i false
def shr1 (w : Int64) : Int64 := (w.toUInt64 >>> ((1 : Int32).toInt64.toUInt64 &&& Int64.toUInt64 63)).toInt64
def shl1 (w : Int64) : Int64 := w <<< ((1 : Int32).toInt64 &&& 63)
def stB (ev : Int32 → Int32 → Bool) (w : Int64) (s : Sst) : Int64 := if s.1 = 33 then w ^^^ 1 else if s.1 = 38 then shr1 w &&& (w ||| (-2)) else if s.1 = 124 then shr1 w ||| (w &&& 1) else shl1 w ||| (bI (ev s.1 s.2)).toInt64
def rnB (ev : Int32 → Int32 → Bool) : List Sst → Int64 → Int64
  | [], w => w
  | s :: l, w => rnB ev l (stB ev w s)
theorem getD_ge (t : List Bool) {i : Nat} (h : t.length ≤ i) : t.getD i false = false := by
  rw [List.getD_eq_getElem?_getD, List.getElem?_eq_none h]
  rfl
theorem bt_ge (w : Int64) {i : Nat} (h : 64 ≤ i) : bt w i = false := BitVec.getLsbD_of_ge _ _ h
theorem bt_one (i : Nat) : bt 1 i = decide (i = 0) := by
  unfold bt
  show (1#64).getLsbD i = _
  by_cases h : i = 0
  · subst h
    decide
  · rw [decide_eq_false h]
    rcases Nat.lt_or_ge i 64 with q | q
    · have : ∀ j, j < 64 → ¬ j = 0 → (1#64).getLsbD j = false := by decide +kernel
      exact this i q h
    · exact BitVec.getLsbD_of_ge _ _ q
theorem bt_xor1 (w : Int64) (i : Nat) : bt (w ^^^ 1) i = (bt w i ^^ decide (i = 0)) := by
  rw [← bt_one]
  unfold bt
  rw [Int64.toBitVec_xor, BitVec.getLsbD_xor]
theorem bt_and (a b : Int64) (i : Nat) : bt (a &&& b) i = (bt a i && bt b i) := by
  unfold bt
  rw [Int64.toBitVec_and, BitVec.getLsbD_and]
theorem bt_or (a b : Int64) (i : Nat) : bt (a ||| b) i = (bt a i || bt b i) := by
  unfold bt
  rw [Int64.toBitVec_or, BitVec.getLsbD_or]
theorem bt_m2 (i : Nat) (h : i < 64) : bt (-2) i = decide (¬ i = 0) := by
  have : ∀ j, j < 64 → bt (-2) j = decide (¬ j = 0) := by decide +kernel
  exact this i h
theorem bt_shr (w : Int64) (i : Nat) : bt (shr1 w) i = bt w (i + 1) := by
  have e : (1 : Int32).toInt64.toUInt64 &&& Int64.toUInt64 63 = 1 := by decide
  unfold shr1 bt
  rw [e]
  show (w.toUInt64 >>> (1 : UInt64)).toBitVec.getLsbD i = w.toBitVec.getLsbD (i + 1)
  rw [UInt64.toBitVec_shiftRight]
  show (w.toBitVec >>> ((1 : UInt64).toBitVec % 64)).getLsbD i = _
  rw [show (1 : UInt64).toBitVec % 64 = 1#64 by decide, BitVec.ushiftRight_eq', BitVec.getLsbD_ushiftRight, show (1#64).toNat = 1 by decide, Nat.add_comm]
theorem bt_shl (w : Int64) (i : Nat) (h : i < 64) : bt (shl1 w) i = (!decide (i = 0) && bt w (i - 1)) := by
  have e : (1 : Int32).toInt64 &&& 63 = 1 := by decide
  unfold shl1 bt
  rw [e, Int64.toBitVec_shiftLeft]
  rw [show (1 : Int64).toBitVec.smod 64 = 1#64 by decide, BitVec.shiftLeft_eq', BitVec.getLsbD_shiftLeft, show (1#64).toNat = 1 by decide]
  rw [decide_eq_true h, Bool.true_and]
  by_cases c : i = 0
  · subst c
    rfl
  · rw [decide_eq_false c, decide_eq_false (by omega : ¬ i < 1)]
theorem BR_step {ev : Int32 → Int32 → Bool} {w : Int64} {st : List Bool} {s : Sst} (h : BR w st) (hs : okG s.1) (h1 : s.1 = 33 → 1 ≤ st.length) (h2 : s.1 = 38 ∨ s.1 = 124 → 2 ≤ st.length) (h3 : okT s.1 → st.length < 64) : BR (stB ev w s) (ev1 ev s st) := by
  obtain ⟨g1, g2⟩ := h
  unfold stB ev1
  by_cases c1 : s.1 = 33
  · rw [if_pos c1, if_pos c1]
    match st, h1 c1, g1, g2 with
    | x :: t, _, g1, g2 =>
      refine ⟨g1, fun i => ?_⟩
      rw [bt_xor1, g2]
      cases i with
      | zero => cases x <;> rfl
      | succ i =>
        rw [decide_eq_false (Nat.succ_ne_zero i), Bool.xor_false]
        rfl
  · rw [if_neg c1, if_neg c1]
    by_cases c2 : s.1 = 38
    · rw [if_pos c2, if_pos c2]
      match st, h2 (Or.inl c2), g1, g2 with
      | b :: a :: t, _, g1, g2 =>
        have g1' : t.length + 1 + 1 ≤ 64 := g1
        refine ⟨by show t.length + 1 ≤ 64; omega, fun i => ?_⟩
        rw [bt_and, bt_shr, bt_or, g2]
        cases i with
        | zero =>
          rw [g2, bt_m2 0 (by omega)]
          cases a <;> cases b <;> rfl
        | succ i =>
          rcases Nat.lt_or_ge (i + 1) 64 with q | q
          · rw [bt_m2 (i + 1) q, decide_eq_true (Nat.succ_ne_zero i), Bool.or_true, Bool.and_true]
            rfl
          · rw [bt_ge w q, bt_ge (-2) q, Bool.or_false, Bool.and_false]
            show false = t.getD i false
            rw [getD_ge _ (by omega)]
    · rw [if_neg c2, if_neg c2]
      by_cases c3 : s.1 = 124
      · rw [if_pos c3, if_pos c3]
        match st, h2 (Or.inr c3), g1, g2 with
        | b :: a :: t, _, g1, g2 =>
          have g1' : t.length + 1 + 1 ≤ 64 := g1
          refine ⟨by show t.length + 1 ≤ 64; omega, fun i => ?_⟩
          rw [bt_or, bt_shr, bt_and, g2, bt_one]
          cases i with
          | zero =>
            rw [g2]
            cases a <;> cases b <;> rfl
          | succ i =>
            rw [decide_eq_false (Nat.succ_ne_zero i), Bool.and_false, Bool.or_false]
            rfl
      · rw [if_neg c3, if_neg c3]
        have ho : okT s.1 := by
          rcases hs with q | q | q | q
          · exact absurd q c1
          · exact absurd q c2
          · exact absurd q c3
          · exact q
        have hl := h3 ho
        have eb : ∀ i, bt (bI (ev s.1 s.2)).toInt64 i = (decide (i = 0) && ev s.1 s.2) := fun i => by
          cases ev s.1 s.2
          · show bt 0 i = _
            rw [Bool.and_false]
            unfold bt
            show (0#64).getLsbD i = false
            exact BitVec.getLsbD_zero
          · show bt 1 i = _
            rw [bt_one, Bool.and_true]
        refine ⟨hl, fun i => ?_⟩
        rw [bt_or, eb]
        rcases Nat.lt_or_ge i 64 with q | q
        · rw [bt_shl _ _ q]
          cases i with
          | zero =>
            show (false || (true && ev s.1 s.2)) = ev s.1 s.2
            rw [Bool.true_and, Bool.false_or]
          | succ i =>
            rw [decide_eq_false (Nat.succ_ne_zero i), Bool.false_and, Bool.or_false, Bool.not_false, Bool.true_and, g2]
            rfl
        · rw [bt_ge _ q, decide_eq_false (by omega : ¬ i = 0), Bool.false_and, Bool.or_false]
          cases i with
          | zero => omega
          | succ i =>
            show false = st.getD i false
            rw [getD_ge _ (by omega)]
theorem BR_run {ev : Int32 → Int32 → Bool} : ∀ (l : List Sst) (w : Int64) (st : List Bool), BR w st → hOK l st.length → BR (rnB ev l w) (evs ev l st)
  | [], w, st, h, _ => h
  | s :: l, w, st, h, k => by
    obtain ⟨k1, k2, k3, k4⟩ := k
    refine BR_run l _ _ (BR_step h k1 (fun z => (k2 z).1) (fun z => (k3 z).1) (fun z => (k4 z).1)) ?_
    unfold ev1
    by_cases c1 : s.1 = 33
    · rw [if_pos c1]
      match st, (k2 c1).1, (k2 c1).2 with
      | x :: t, _, q => exact q
    · rw [if_neg c1]
      by_cases c2 : s.1 = 38
      · rw [if_pos c2]
        match st, (k3 (Or.inl c2)).1, (k3 (Or.inl c2)).2 with
        | b :: a :: t, _, q => exact q
      · rw [if_neg c2]
        by_cases c3 : s.1 = 124
        · rw [if_pos c3]
          match st, (k3 (Or.inr c3)).1, (k3 (Or.inr c3)).2 with
          | b :: a :: t, _, q => exact q
        · rw [if_neg c3]
          have ho : okT s.1 := by
            rcases k1 with q | q | q | q
            · exact absurd q c1
            · exact absurd q c2
            · exact absurd q c3
            · exact q
          exact (k4 ho).2
theorem bt_low {w : Int64} : lg_cmp (w &&& 1) 1 = 0 ↔ bt w 0 = true := by
  rw [lgc_eq]
  constructor
  · intro h
    have : bt (w &&& 1) 0 = bt 1 0 := by rw [h]
    rw [bt_and, bt_one] at this
    simpa using this
  · intro h
    apply Int64.toBitVec_inj.mp
    apply BitVec.eq_of_getLsbD_eq
    intro i hi
    have e1 : (w &&& 1).toBitVec.getLsbD i = bt (w &&& 1) i := rfl
    have e2 : (1 : Int64).toBitVec.getLsbD i = bt 1 i := rfl
    rw [e1, e2, bt_and, bt_one]
    by_cases c : i = 0
    · subst c
      rw [h]
      rfl
    · rw [decide_eq_false c, Bool.and_false]
