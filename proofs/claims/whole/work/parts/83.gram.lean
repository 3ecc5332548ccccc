/-! ===== the grammar of a strike's E, pure: whether it goes, the place behind it or of the fault, its steps ===== -/
abbrev Sst : Type := Int32 × Int32
abbrev GR : Type := Bool × Nat × List Sst
def thn (r : GR) (s : List Sst) (f : Nat → GR) : GR := if r.1 = true then ((f r.2.1).1, (f r.2.1).2.1, r.2.2 ++ (s ++ (f r.2.1).2.2)) else (false, r.2.1, [])
/-- mode 0: an F; 1: what follows an F in its T; 2: what follows a T in its E; 3: a T; 4: an E. dep: how deep it may nest yet -/
def gX (ch : Nat → Int32) (n : Nat) : Nat → Nat → Nat → Nat → GR
  | 0, _, _, a => (false, a, [])
  | k + 1, 0, dep, a =>
      if gN ch n a = 33 then (if dep = 0 then (false, a, []) else thn (gX ch n k 0 (dep - 1) (a + 1)) [(33, 0)] fun a' => (true, a', []))
      else if gN ch n a = 40 then (if dep = 0 then (false, a, []) else thn (gX ch n k 4 (dep - 1) (a + 1)) [] fun a' => if gN ch n a' = 41 then (true, a' + 1, []) else (false, a', []))
      else ((gT ch n a).1, (gT ch n a).2.1, [((gT ch n a).2.2.1, (gT ch n a).2.2.2)])
  | k + 1, 1, dep, a => if gN ch n a = 38 then thn (gX ch n k 0 dep (a + 1)) [(38, 0)] (gX ch n k 1 dep) else (true, a, [])
  | k + 1, 2, dep, a => if gN ch n a = 124 then thn (gX ch n k 3 dep (a + 1)) [(124, 0)] (gX ch n k 2 dep) else (true, a, [])
  | k + 1, 3, dep, a => thn (gX ch n k 0 dep a) [] (gX ch n k 1 dep)
  | k + 1, _ + 4, dep, a => thn (gX ch n k 3 dep a) [] (gX ch n k 2 dep)
theorem gX0 (ch : Nat → Int32) (n k dep a : Nat) : gX ch n (k + 1) 0 dep a = if gN ch n a = 33 then (if dep = 0 then (false, a, []) else thn (gX ch n k 0 (dep - 1) (a + 1)) [(33, 0)] fun a' => (true, a', []))
      else if gN ch n a = 40 then (if dep = 0 then (false, a, []) else thn (gX ch n k 4 (dep - 1) (a + 1)) [] fun a' => if gN ch n a' = 41 then (true, a' + 1, []) else (false, a', []))
      else ((gT ch n a).1, (gT ch n a).2.1, [((gT ch n a).2.2.1, (gT ch n a).2.2.2)]) := rfl
theorem gX1 (ch : Nat → Int32) (n k dep a : Nat) : gX ch n (k + 1) 1 dep a = if gN ch n a = 38 then thn (gX ch n k 0 dep (a + 1)) [(38, 0)] (gX ch n k 1 dep) else (true, a, []) := rfl
theorem gX2 (ch : Nat → Int32) (n k dep a : Nat) : gX ch n (k + 1) 2 dep a = if gN ch n a = 124 then thn (gX ch n k 3 dep (a + 1)) [(124, 0)] (gX ch n k 2 dep) else (true, a, []) := rfl
theorem gX3 (ch : Nat → Int32) (n k dep a : Nat) : gX ch n (k + 1) 3 dep a = thn (gX ch n k 0 dep a) [] (gX ch n k 1 dep) := rfl
theorem gX4 (ch : Nat → Int32) (n k dep a : Nat) : gX ch n (k + 1) 4 dep a = thn (gX ch n k 3 dep a) [] (gX ch n k 2 dep) := rfl
theorem thn_t {r : GR} (s : List Sst) (f : Nat → GR) (h : r.1 = true) : thn r s f = ((f r.2.1).1, (f r.2.1).2.1, r.2.2 ++ (s ++ (f r.2.1).2.2)) := if_pos h
theorem thn_f {r : GR} (s : List Sst) (f : Nat → GR) (h : r.1 = false) : thn r s f = (false, r.2.1, []) := if_neg (by rw [h]; decide)
theorem thn_ok {r : GR} {s : List Sst} {f : Nat → GR} (h : (thn r s f).1 = true) : r.1 = true ∧ (f r.2.1).1 = true := by
  by_cases c : r.1 = true
  · rw [thn_t s f c] at h
    exact ⟨c, h⟩
  · rw [thn_f s f (by simpa using c)] at h
    exact Bool.noConfusion h
/-- how much fuel a mode wants besides -/
def cm (m : Nat) : Nat := if m = 4 then 3 else if m = 3 then 2 else 1
theorem gT_bd {ch : Nat → Int32} {n a : Nat} (ha : a ≤ n) : a ≤ (gT ch n a).2.1 ∧ (gT ch n a).2.1 ≤ n ∧ ((gT ch n a).1 = true → a + 3 ≤ (gT ch n a).2.1) := by
  have key : ∀ m sg, a + 2 ≤ n → a ≤ (gTn ch n (m + 1) (a + 2) sg).2.1 ∧ (gTn ch n (m + 1) (a + 2) sg).2.1 ≤ n ∧ ((gTn ch n (m + 1) (a + 2) sg).1 = true → a + 3 ≤ (gTn ch n (m + 1) (a + 2) sg).2.1) := fun m sg h2 => by
    unfold gTn
    by_cases z : inP (gN ch n (a + 2)) 48 57
    · rw [if_pos z]
      have e : gD ch n (m + 1) (a + 2) 0 = gD ch n m (a + 3) (10 * 0 + gN ch n (a + 2) - 48) := if_pos z
      have ge : ∀ (j b : Nat) (v : Int32), b ≤ (gD ch n j b v).1 := by
        intro j
        induction j with
        | zero => intro b v; exact Nat.le_refl _
        | succ j ih =>
          intro b v
          unfold gD
          split
          · exact Nat.le_trans (Nat.le_succ b) (ih (b + 1) _)
          · exact Nat.le_refl _
      have g1 := ge m (a + 3) (10 * 0 + gN ch n (a + 2) - 48)
      have g2 := gD_le (ch := ch) (m + 1) (a + 2) 0 h2
      rw [e] at g2
      rw [e]
      exact ⟨by show a ≤ (gD ch n m (a + 3) _).1; omega, g2, fun _ => g1⟩
    · rw [if_neg z]
      exact ⟨by show a ≤ a + 2; omega, h2, fun y => Bool.noConfusion y⟩
  unfold gT
  split
  · rename_i c1
    have hlt : a < n := gN_lt (c := gN ch n a) rfl (fun y => by
      rw [y] at c1
      exact absurd c1 (by decide))
    split
    · rename_i c2
      exact key 3 _ (gN_lt c2 (by decide))
    · exact ⟨by show a ≤ a + 1; omega, hlt, fun y => Bool.noConfusion y⟩
  · split
    · rename_i c1
      have hlt : a < n := gN_lt c1 (by decide)
      split
      · rename_i c2
        have hlt2 : a + 1 < n := gN_lt (c := gN ch n (a + 1)) rfl (fun y => by
          rw [y] at c2
          exact absurd c2 (by decide))
        exact key 5 _ hlt2
      · exact ⟨by show a ≤ a + 1; omega, hlt, fun y => Bool.noConfusion y⟩
    · exact ⟨Nat.le_refl _, ha, fun y => Bool.noConfusion y⟩
theorem gT_sg {ch : Nat → Int32} {n a : Nat} (h : (gT ch n a).1 = true) : ¬ (gT ch n a).2.2.1 = 33 ∧ ¬ (gT ch n a).2.2.1 = 38 ∧ ¬ (gT ch n a).2.2.1 = 124 := by
  have key : ∀ (c : Int32) (m : Nat) , (c = 104 ∨ c = 115 ∨ c = 101 ∨ c = 107 ∨ c = 60 ∨ c = 62) → (gTn ch n m (a + 2) c).1 = true → ¬ (gTn ch n m (a + 2) c).2.2.1 = 33 ∧ ¬ (gTn ch n m (a + 2) c).2.2.1 = 38 ∧ ¬ (gTn ch n m (a + 2) c).2.2.1 = 124 := fun c m hc h => by
    unfold gTn at h ⊢
    split at h
    · rename_i z
      rw [if_pos z]
      show ¬ c = 33 ∧ ¬ c = 38 ∧ ¬ c = 124
      rcases hc with q | q | q | q | q | q <;> subst q <;> decide
    · exact Bool.noConfusion h
  unfold gT at h ⊢
  split at h
  · rename_i c1
    rw [if_pos c1]
    split at h
    · rename_i c2
      rw [if_pos c2]
      exact key _ 4 (by rcases c1 with q | q | q | q <;> simp [q]) h
    · exact Bool.noConfusion h
  · rename_i c1
    rw [if_neg c1]
    split at h
    · rename_i c2
      rw [if_pos c2]
      split at h
      · rename_i c3
        rw [if_pos c3]
        exact key _ 6 (by rcases c3 with q | q <;> simp [q]) h
      · exact Bool.noConfusion h
    · exact Bool.noConfusion h
/-- places and how many steps -/
theorem gX_bd {ch : Nat → Int32} {n : Nat} : ∀ (k m dep a : Nat), a ≤ n → a ≤ (gX ch n k m dep a).2.1 ∧ (gX ch n k m dep a).2.1 ≤ n ∧ ((gX ch n k m dep a).1 = true → a + (gX ch n k m dep a).2.2.length ≤ (gX ch n k m dep a).2.1 ∧ (¬ m = 1 → ¬ m = 2 → 1 ≤ (gX ch n k m dep a).2.2.length))
  | 0, m, dep, a, ha => ⟨Nat.le_refl _, ha, fun h => Bool.noConfusion h⟩
  | k + 1, m, dep, a, ha => by
    have ih := @gX_bd ch n k
    have bad : ∀ a', a ≤ a' → a' ≤ n → ∀ l : List Sst, a ≤ ((false, a', l) : GR).2.1 ∧ ((false, a', l) : GR).2.1 ≤ n ∧ (((false, a', l) : GR).1 = true → a + ((false, a', l) : GR).2.2.length ≤ ((false, a', l) : GR).2.1 ∧ (¬ m = 1 → ¬ m = 2 → 1 ≤ ((false, a', l) : GR).2.2.length)) := fun a' h1 h2 l => ⟨h1, h2, fun h => Bool.noConfusion h⟩
    match m with
    | 0 =>
      rw [gX0]
      split
      · rename_i c
        have hlt : a < n := gN_lt c (by decide)
        split
        · exact bad a (Nat.le_refl _) ha []
        · obtain ⟨i1, i2, i3⟩ := ih 0 (dep - 1) (a + 1) hlt
          by_cases hr : (gX ch n k 0 (dep - 1) (a + 1)).1 = true
          · rw [thn_t _ _ hr]
            obtain ⟨j1, j2⟩ := i3 hr
            refine ⟨by show a ≤ (gX ch n k 0 (dep - 1) (a + 1)).2.1; omega, i2, fun _ => ⟨?_, fun _ _ => ?_⟩⟩
            · simp only [List.length_append, List.length_cons, List.length_nil]
              omega
            · simp only [List.length_append, List.length_cons, List.length_nil]
              omega
          · rw [thn_f _ _ (by simpa using hr)]
            exact bad _ (by omega) i2 []
      · split
        · rename_i c
          have hlt : a < n := gN_lt c (by decide)
          split
          · exact bad a (Nat.le_refl _) ha []
          · obtain ⟨i1, i2, i3⟩ := ih 4 (dep - 1) (a + 1) hlt
            by_cases hr : (gX ch n k 4 (dep - 1) (a + 1)).1 = true
            · rw [thn_t _ _ hr]
              obtain ⟨j1, j2⟩ := i3 hr
              have j3 := j2 (by omega) (by omega)
              split
              · rename_i c2
                have hlt2 := gN_lt c2 (by decide)
                refine ⟨by show a ≤ (gX ch n k 4 (dep - 1) (a + 1)).2.1 + 1; omega, hlt2, fun _ => ⟨?_, fun _ _ => ?_⟩⟩
                · simp only [List.length_append, List.length_cons, List.length_nil]
                  omega
                · simp only [List.length_append, List.length_cons, List.length_nil]
                  omega
              · exact bad _ (by omega) i2 _
            · rw [thn_f _ _ (by simpa using hr)]
              exact bad _ (by omega) i2 []
        · obtain ⟨t1, t2, t3⟩ := gT_bd (ch := ch) ha
          refine ⟨t1, t2, fun h => ⟨?_, fun _ _ => Nat.le_refl _⟩⟩
          have := t3 h
          show a + 1 ≤ (gT ch n a).2.1
          omega
    | 1 =>
      rw [gX1]
      split
      · rename_i c
        have hlt : a < n := gN_lt c (by decide)
        obtain ⟨i1, i2, i3⟩ := ih 0 dep (a + 1) hlt
        by_cases hr : (gX ch n k 0 dep (a + 1)).1 = true
        · rw [thn_t _ _ hr]
          obtain ⟨j1, j2⟩ := i3 hr
          obtain ⟨q1, q2, q3⟩ := ih 1 dep _ i2
          refine ⟨by show a ≤ (gX ch n k 1 dep _).2.1; omega, q2, fun h => ⟨?_, fun h1 _ => absurd rfl h1⟩⟩
          have := (q3 h).1
          simp only [List.length_append, List.length_cons, List.length_nil]
          omega
        · rw [thn_f _ _ (by simpa using hr)]
          exact bad _ (by omega) i2 []
      · exact ⟨Nat.le_refl _, ha, fun _ => ⟨Nat.le_refl _, fun h1 _ => absurd rfl h1⟩⟩
    | 2 =>
      rw [gX2]
      split
      · rename_i c
        have hlt : a < n := gN_lt c (by decide)
        obtain ⟨i1, i2, i3⟩ := ih 3 dep (a + 1) hlt
        by_cases hr : (gX ch n k 3 dep (a + 1)).1 = true
        · rw [thn_t _ _ hr]
          obtain ⟨j1, j2⟩ := i3 hr
          obtain ⟨q1, q2, q3⟩ := ih 2 dep _ i2
          refine ⟨by show a ≤ (gX ch n k 2 dep _).2.1; omega, q2, fun h => ⟨?_, fun _ h2 => absurd rfl h2⟩⟩
          have := (q3 h).1
          simp only [List.length_append, List.length_cons, List.length_nil]
          omega
        · rw [thn_f _ _ (by simpa using hr)]
          exact bad _ (by omega) i2 []
      · exact ⟨Nat.le_refl _, ha, fun _ => ⟨Nat.le_refl _, fun _ h2 => absurd rfl h2⟩⟩
    | 3 =>
      rw [gX3]
      obtain ⟨i1, i2, i3⟩ := ih 0 dep a ha
      by_cases hr : (gX ch n k 0 dep a).1 = true
      · rw [thn_t _ _ hr]
        obtain ⟨j1, j2⟩ := i3 hr
        have j3 := j2 (by omega) (by omega)
        obtain ⟨q1, q2, q3⟩ := ih 1 dep _ i2
        refine ⟨by show a ≤ (gX ch n k 1 dep _).2.1; omega, q2, fun h => ⟨?_, fun _ _ => ?_⟩⟩
        · have := (q3 h).1
          simp only [List.length_append, List.length_cons, List.length_nil]
          omega
        · simp only [List.length_append, List.length_cons, List.length_nil]
          omega
      · rw [thn_f _ _ (by simpa using hr)]
        exact bad _ (by omega) i2 []
    | m' + 4 =>
      show a ≤ (thn (gX ch n k 3 dep a) [] (gX ch n k 2 dep)).2.1 ∧ (thn (gX ch n k 3 dep a) [] (gX ch n k 2 dep)).2.1 ≤ n ∧ ((thn (gX ch n k 3 dep a) [] (gX ch n k 2 dep)).1 = true → a + (thn (gX ch n k 3 dep a) [] (gX ch n k 2 dep)).2.2.length ≤ (thn (gX ch n k 3 dep a) [] (gX ch n k 2 dep)).2.1 ∧ (¬ m' + 4 = 1 → ¬ m' + 4 = 2 → 1 ≤ (thn (gX ch n k 3 dep a) [] (gX ch n k 2 dep)).2.2.length))
      obtain ⟨i1, i2, i3⟩ := ih 3 dep a ha
      by_cases hr : (gX ch n k 3 dep a).1 = true
      · rw [thn_t _ _ hr]
        obtain ⟨j1, j2⟩ := i3 hr
        have j3 := j2 (by omega) (by omega)
        obtain ⟨q1, q2, q3⟩ := ih 2 dep _ i2
        refine ⟨by show a ≤ (gX ch n k 2 dep _).2.1; omega, q2, fun h => ⟨?_, fun _ _ => ?_⟩⟩
        · have := (q3 h).1
          simp only [List.length_append, List.length_cons, List.length_nil]
          omega
        · simp only [List.length_append, List.length_cons, List.length_nil]
          omega
      · rw [thn_f _ _ (by simpa using hr)]
        exact ⟨by show a ≤ (gX ch n k 3 dep a).2.1; omega, i2, fun h => Bool.noConfusion h⟩
/-! ===== steps and their value ===== -/
def ev1 (ev : Int32 → Int32 → Bool) (s : Sst) (st : List Bool) : List Bool :=
  if s.1 = 33 then (match st with | x :: t => (!x) :: t | [] => [])
  else if s.1 = 38 then (match st with | b :: a :: t => (a && b) :: t | t => t)
  else if s.1 = 124 then (match st with | b :: a :: t => (a || b) :: t | t => t)
  else ev s.1 s.2 :: st
def evs (ev : Int32 → Int32 → Bool) : List Sst → List Bool → List Bool
  | [], st => st
  | s :: l, st => evs ev l (ev1 ev s st)
theorem evs_app (ev : Int32 → Int32 → Bool) : ∀ (l l' : List Sst) (st : List Bool), evs ev (l ++ l') st = evs ev l' (evs ev l st)
  | [], _, _ => rfl
  | s :: l, l', st => evs_app ev l l' (ev1 ev s st)
/-- the value of an F, a T, an E -/
def vl0 (ev : Int32 → Int32 → Bool) (l : List Sst) : Bool := (evs ev l []).headD false
/-- what comes of a value by the steps that follow -/
def vl1 (ev : Int32 → Int32 → Bool) (l : List Sst) (x : Bool) : Bool := (evs ev l [x]).headD false
theorem gX_ev {ch : Nat → Int32} {n : Nat} (ev : Int32 → Int32 → Bool) : ∀ (k m dep a : Nat), (gX ch n k m dep a).1 = true → (¬ (m = 1 ∨ m = 2) → ∃ v, ∀ st, evs ev (gX ch n k m dep a).2.2 st = v :: st) ∧ ((m = 1 ∨ m = 2) → ∀ x, ∃ v, ∀ st, evs ev (gX ch n k m dep a).2.2 (x :: st) = v :: st)
  | 0, m, dep, a, h => Bool.noConfusion h
  | k + 1, m, dep, a, h => by
    have ih := @gX_ev ch n ev k
    match m with
    | 0 =>
      refine ⟨fun _ => ?_, fun hm => by rcases hm with hm | hm <;> exact absurd hm (by omega)⟩
      rw [gX0] at h ⊢
      split at h
      · rename_i c
        rw [if_pos c]
        split at h
        · exact Bool.noConfusion h
        · rename_i c2
          rw [if_neg c2]
          obtain ⟨h1, h2⟩ := thn_ok h
          rw [thn_t _ _ h1]
          obtain ⟨v, hv⟩ := (ih 0 _ _ h1).1 (by omega)
          refine ⟨!v, fun st => ?_⟩
          show evs ev (_ ++ ([(33, 0)] ++ [])) st = _
          rw [List.append_nil, evs_app, hv]
          rfl
      · rename_i c
        rw [if_neg c]
        split at h
        · rename_i c1
          rw [if_pos c1]
          split at h
          · exact Bool.noConfusion h
          · rename_i c2
            rw [if_neg c2]
            obtain ⟨h1, h2⟩ := thn_ok h
            rw [thn_t _ _ h1]
            obtain ⟨v, hv⟩ := (ih 4 _ _ h1).1 (by omega)
            refine ⟨v, fun st => ?_⟩
            split at h2
            · rename_i c3
              rw [if_pos c3]
              show evs ev (_ ++ ([] ++ [])) st = _
              rw [List.append_nil, List.append_nil, hv]
            · exact Bool.noConfusion h2
        · rename_i c1
          rw [if_neg c1]
          obtain ⟨s1, s2, s3⟩ := gT_sg h
          refine ⟨ev (gT ch n a).2.2.1 (gT ch n a).2.2.2, fun st => ?_⟩
          show ev1 ev _ st = _
          unfold ev1
          rw [if_neg s1, if_neg s2, if_neg s3]
    | 1 =>
      refine ⟨fun hm => absurd (Or.inl rfl) hm, fun _ x => ?_⟩
      rw [gX1] at h ⊢
      split at h
      · rename_i c
        rw [if_pos c]
        obtain ⟨h1, h2⟩ := thn_ok h
        rw [thn_t _ _ h1]
        obtain ⟨v, hv⟩ := (ih 0 _ _ h1).1 (by omega)
        obtain ⟨v', hv'⟩ := (ih 1 _ _ h2).2 (Or.inl rfl) (x && v)
        refine ⟨v', fun st => ?_⟩
        show evs ev (_ ++ ([(38, 0)] ++ _)) (x :: st) = _
        rw [evs_app, hv, evs_app]
        exact hv' st
      · rename_i c
        rw [if_neg c]
        exact ⟨x, fun st => rfl⟩
    | 2 =>
      refine ⟨fun hm => absurd (Or.inr rfl) hm, fun _ x => ?_⟩
      rw [gX2] at h ⊢
      split at h
      · rename_i c
        rw [if_pos c]
        obtain ⟨h1, h2⟩ := thn_ok h
        rw [thn_t _ _ h1]
        obtain ⟨v, hv⟩ := (ih 3 _ _ h1).1 (by omega)
        obtain ⟨v', hv'⟩ := (ih 2 _ _ h2).2 (Or.inr rfl) (x || v)
        refine ⟨v', fun st => ?_⟩
        show evs ev (_ ++ ([(124, 0)] ++ _)) (x :: st) = _
        rw [evs_app, hv, evs_app]
        exact hv' st
      · rename_i c
        rw [if_neg c]
        exact ⟨x, fun st => rfl⟩
    | 3 =>
      refine ⟨fun _ => ?_, fun hm => by rcases hm with hm | hm <;> exact absurd hm (by omega)⟩
      rw [gX3] at h ⊢
      obtain ⟨h1, h2⟩ := thn_ok h
      rw [thn_t _ _ h1]
      obtain ⟨v, hv⟩ := (ih 0 _ _ h1).1 (by omega)
      obtain ⟨v', hv'⟩ := (ih 1 _ _ h2).2 (Or.inl rfl) v
      refine ⟨v', fun st => ?_⟩
      show evs ev (_ ++ ([] ++ _)) st = _
      rw [List.nil_append, evs_app, hv]
      exact hv' st
    | m' + 4 =>
      have e : gX ch n (k + 1) (m' + 4) dep a = thn (gX ch n k 3 dep a) [] (gX ch n k 2 dep) := rfl
      refine ⟨fun _ => ?_, fun hm => by rcases hm with hm | hm <;> exact absurd hm (by omega)⟩
      rw [e] at h ⊢
      obtain ⟨h1, h2⟩ := thn_ok h
      rw [thn_t _ _ h1]
      obtain ⟨v, hv⟩ := (ih 3 _ _ h1).1 (by omega)
      obtain ⟨v', hv'⟩ := (ih 2 _ _ h2).2 (Or.inr rfl) v
      refine ⟨v', fun st => ?_⟩
      show evs ev (_ ++ ([] ++ _)) st = _
      rw [List.nil_append, evs_app, hv]
      exact hv' st
theorem vl0_of {ev : Int32 → Int32 → Bool} {l : List Sst} (h : ∃ v, ∀ st, evs ev l st = v :: st) (st : List Bool) : evs ev l st = vl0 ev l :: st := by
  obtain ⟨v, hv⟩ := h
  unfold vl0
  rw [hv [], hv st]
  rfl
theorem vl1_of {ev : Int32 → Int32 → Bool} {l : List Sst} {x : Bool} (h : ∃ v, ∀ st, evs ev l (x :: st) = v :: st) (st : List Bool) : evs ev l (x :: st) = vl1 ev l x :: st := by
  obtain ⟨v, hv⟩ := h
  unfold vl1
  rw [hv [], hv st]
  rfl
