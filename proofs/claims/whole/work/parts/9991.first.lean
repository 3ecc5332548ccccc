/-! ===== the first state ===== -/
def S1 (g : XH) : SS := fun s k => hi g s 0 k
theorem up_S1 (g : XH) : up g (S1 g) = g := by
  refine Prod.ext rfl (Prod.ext rfl (Prod.ext (funext fun s => funext fun i => funext fun j => ?_) rfl))
  show (bif rsb s && Nat.beq i 0 then hi g s 0 j else hi g s i j) = hi g s i j
  cases z : rsb s && Nat.beq i 0 with
  | false => rfl
  | true =>
    have z3 := Nat.eq_of_beq_eq_true (Bool.and_eq_true_iff.mp z).2
    subst z3
    rfl
theorem zr_mi : ∀ q ∈ mLk, XB q.2.1 = false ∧ hr zr116 12 0 q.1 = some (q.2.1, 0) ∧ hn zr116 q.2.1 0 = q.2.2 ∧ hn zr116 q.2.1 0 ≠ 0 := by decide +kernel
theorem zr_lk : ∀ q ∈ cLk, XB q.1 = false ∧ hr zr116 q.1 0 q.2.1 = some q.2.2 := by decide +kernel
theorem zr_ln : ∀ q ∈ cLn, (q.1 < 500 ∧ XB q.1 = false ∧ hn zr116 q.1 0 = q.2 ∧ hn zr116 q.1 0 ≠ 0) ∨ q = (500, 8) ∨ q = (501, 24) := by decide +kernel
theorem zr_tp : ∀ t, t < 6 → hr zr116 10 t 0 = some (114, t) ∧ hn zr116 114 t = 60 ∧ hi zr116 10 t 1 = -1 ∧ hi zr116 10 t 2 = 0 ∧ hr zr116 0 t 1 = some (510, 0) ∧ hi zr116 0 t 2 = 0 ∧ hi zr116 151 0 t = -1 ∧ hi zr116 152 0 t = 0 := by decide +kernel
theorem zr_c : hc zr116 10 = 6 ∧ hc zr116 114 = 6 ∧ hc zr116 11 = 1 ∧ hc zr116 7 = 1 ∧ hc zr116 9 = 1 ∧ hc zr116 1 = 1 ∧ hc zr116 8 = 0 ∧ hc zr116 106 = 0 ∧ hc zr116 2 = 0 ∧ hc zr116 101 = 0 ∧ hc zr116 102 = 0 ∧ hc zr116 5 = 0 ∧ hc zr116 3 = 0 ∧ hc zr116 4 = 0 := by decide +kernel
theorem zr_s : ∀ j, j ∈ [0, 1, 2, 3, 8, 20, 25, 26, 59, 63] → hi zr116 12 0 j = 0 := by decide +kernel
theorem zr_x : hi zr116 12 0 19 = -1 ∧ hi zr116 11 0 12 = 0 ∧ hi zr116 11 0 13 = 0 ∧ hi zr116 11 0 14 = -3 ∧ hi zr116 7 0 1 = 0 ∧ hi zr116 1 0 1 = 0 := by decide +kernel
theorem zr_t : ∀ n, n < 45 → hi zr116 145 0 n = 0 ∧ hi zr116 115 0 n = 0 ∧ hi zr116 146 0 n = 0 := by decide +kernel
theorem zr_153 : hi zr116 153 = fun _ _ => 0 := rfl
theorem zr_114 : hi zr116 114 = fun _ _ => 0 := rfl
theorem first_MI {g : XH} (a : AGH XB g zr116) : MI g := fun q hq => by
  obtain ⟨h1, h2, h3, h4⟩ := zr_mi q hq
  exact ⟨(congrFun (congrFun (a.r 12 rfl) 0) q.1).trans h2, (a.n q.2.1 0 h1 h4).trans h3⟩
/-- what the statics hold -/
def STA (σ : XH) : Prop := hn σ 500 0 = 8 ∧ hn σ 501 0 = 24 ∧ hn σ 510 0 = 0 ∧ (∀ (k : Nat) (x : Int32), aboveC[k]? = some x → hi σ 500 0 k = x) ∧ (∀ (k : Nat) (x : Int32), bodiesC[k]? = some x → hi σ 501 0 k = x) ∧ (∀ (t : Nat) (l : List Int32), strC[t]? = some l → hn σ 513 t = l.length ∧ ∀ (k : Nat) (x : Int32), l[k]? = some x → hi σ 513 t k = x)
theorem STA.fr {T : Nat → Bool} {σ σ' : XH} (h : STA σ) (hF : Fr T σ σ') (t : ∀ s, s ∈ [500, 501, 510, 513] → T s = false) : STA σ' := by
  unfold STA at *
  rw [hF.n (t 500 (by decide)), hF.n (t 501 (by decide)), hF.n (t 510 (by decide)), hF.n (t 513 (by decide)), hF.i (t 500 (by decide)), hF.i (t 501 (by decide)), hF.i (t 513 (by decide))]
  exact h
theorem first_CFX {g : XH} (a : AGH XB g zr116) (st : STA g) : CFX g := by
  obtain ⟨s1, s2, s3, s4, s5, s6⟩ := st
  obtain ⟨c1, c2, c3, c4, c5, c6, _⟩ := zr_c
  refine ⟨fun q hq => ?_, fun q hq => ?_, fun t ht => ?_, ⟨(a.c 10 rfl).trans c1, (a.c 114 rfl).trans c2, (a.c 11 rfl).trans c3, (a.c 7 rfl).trans c4, (a.c 9 rfl).trans c5, (a.c 1 rfl).trans c6⟩, s4, s5, s6⟩
  · obtain ⟨h1, h2⟩ := zr_lk q hq
    exact (congrFun (congrFun (a.r q.1 h1) 0) q.2.1).trans h2
  · rcases zr_ln q hq with ⟨_, h1, h2, h3⟩ | h | h
    · exact (a.n q.1 0 h1 h3).trans h2
    · rw [h]; exact s1
    · rw [h]; exact s2
  · obtain ⟨h1, h2, _⟩ := zr_tp t ht
    exact ⟨(congrFun (congrFun (a.r 10 rfl) t) 0).trans h1, (a.n 114 t rfl (by rw [h2]; decide)).trans h2⟩
