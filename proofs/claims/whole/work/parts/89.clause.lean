/-! ===== the clauses of a rule's text, pure ===== -/
/-- what a text says: 31 edges, 32 blur, 33 rest, 34 strikes, 35 copied, 36 withdrawn, 100 and h: weights; and the steps of its strikes -/
abbrev RT : Type := (Nat → Int32) × List Sst
def rset (R : RT) (k : Nat) (x : Int32) : RT := (fun j => if j = k then x else R.1 j, R.2)
def rt0 : RT := (fun j => if j = 31 then 30 else if j = 32 then 1 else if j = 33 then 9999 else if j = 34 ∨ j = 35 ∨ j = 36 then 0 else 1, [])
abbrev CR : Type := Bool × Nat × RT
/-- the figures of edges -/
def gEd (ch : Nat → Int32) (n : Nat) : Nat → Nat → Int32 → Bool × Nat × Int32
  | 0, a, e => (true, a, e)
  | j + 1, a, e => if inP (gN ch n a) 49 52 then (if e &&& (1 <<< ((gN ch n a - 48) &&& 31)) = 0 then gEd ch n j (a + 1) (e ||| (1 <<< ((gN ch n a - 48) &&& 31))) else (false, a, e)) else (true, a, e)
def gEdges (ch : Nat → Int32) (n a : Nat) (R : RT) : CR := ((gEd ch n 4 a 0).1 && decide (¬ (gEd ch n 4 a 0).2.2 = 0), (gEd ch n 4 a 0).2.1, rset R 31 (gEd ch n 4 a 0).2.2)
def gBlur (ch : Nat → Int32) (n a : Nat) (R : RT) : CR := if gN ch n a = 102 then (true, a + 1, rset R 32 0) else if gN ch n a = 109 then (true, a + 1, rset R 32 1) else if gN ch n a = 108 then (true, a + 1, rset R 32 2) else (false, a, R)
def gRest (ch : Nat → Int32) (n a : Nat) (R : RT) : CR := if inP (gN ch n a) 48 57 then (true, (gD ch n 4 a 0).1, rset R 33 (gD ch n 4 a 0).2) else (false, a, R)
def gWeigh (ch : Nat → Int32) (n a : Nat) (R : RT) : CR :=
  if inP (gN ch n a) 48 53 then (if gN ch n (a + 1) = 32 then (if inP (gN ch n (a + 2)) 48 57 then (true, (gD ch n 2 (a + 2) 0).1, rset R (100 + (gN ch n a - 48).toNatClampNeg) (gD ch n 2 (a + 2) 0).2) else (false, a + 2, R)) else (false, a + 1, R)) else (false, a, R)
def gStrike (ch : Nat → Int32) (n a : Nat) (R : RT) : CR := if (gE ch n a).1 = true then (true, (gE ch n a).2.1, ((rset R 34 (R.1 34 + 1)).1, R.2 ++ ((gE ch n a).2.2 ++ [(124, 0)]))) else (false, (gE ch n a).2.1, R)
/-- a word, and what follows it -/
def gAft (ch : Nat → Int32) (n : Nat) (l : List Int32) (a : Nat) (R : RT) (f : Nat → CR) : CR := if (gW ch n l a).1 = true then f (gW ch n l a).2 else (false, (gW ch n l a).2, R)
def gC (ch : Nat → Int32) (n a : Nat) (R : RT) : CR :=
  if gN ch n a = 98 then gAft ch n [98, 108, 117, 114, 32] a R fun a' => gBlur ch n a' R
  else if gN ch n a = 99 then gAft ch n [99, 111, 112, 105, 101, 100] a R fun a' => (true, a', rset R 35 1)
  else if gN ch n a = 101 then gAft ch n [101, 100, 103, 101, 115, 32] a R fun a' => gEdges ch n a' R
  else if gN ch n a = 114 then gAft ch n [114, 101, 115, 116, 32] a R fun a' => gRest ch n a' R
  else if gN ch n a = 115 then gAft ch n [115, 116, 114, 105, 107, 101, 32] a R fun a' => gStrike ch n a' R
  else if gN ch n a = 119 then (if gN ch n (a + 1) = 105 then gAft ch n [105, 116, 104, 100, 114, 97, 119, 110] (a + 1) R fun a' => (true, a', rset R 36 1) else gAft ch n [101, 105, 103, 104, 32] (a + 1) R fun a' => gWeigh ch n a' R)
  else (false, a, R)
/-- clauses, c + 1 at most -/
def gG (ch : Nat → Int32) (n : Nat) : Nat → Nat → RT → CR
  | 0, a, R => if (gC ch n a R).1 = true ∧ (gC ch n a R).2.1 = n then gC ch n a R else (false, (gC ch n a R).2.1, R)
  | c + 1, a, R => if (gC ch n a R).1 = true then (if (gC ch n a R).2.1 = n then gC ch n a R else if gN ch n (gC ch n a R).2.1 = 59 then gG ch n c ((gC ch n a R).2.1 + 1) (gC ch n a R).2.2 else (false, (gC ch n a R).2.1, R)) else (false, (gC ch n a R).2.1, R)
/-- a text, whole -/
def gA (ch : Nat → Int32) (n : Nat) : CR := gG ch n 9 0 rt0
theorem gW_app {ch : Nat → Int32} {n : Nat} {c : Int32} : ∀ (l : List Int32) (a : Nat), gW ch n (l ++ [c]) a = if (gW ch n l a).1 = true then (if gN ch n (gW ch n l a).2 = c then (true, (gW ch n l a).2 + 1) else (false, (gW ch n l a).2)) else (false, (gW ch n l a).2)
  | [], a => rfl
  | x :: l, a => by
    show (if gN ch n a = x then gW ch n (l ++ [c]) (a + 1) else (false, a)) = if (if gN ch n a = x then gW ch n l (a + 1) else (false, a)).1 = true then (if gN ch n (if gN ch n a = x then gW ch n l (a + 1) else (false, a)).2 = c then (true, (if gN ch n a = x then gW ch n l (a + 1) else (false, a)).2 + 1) else (false, (if gN ch n a = x then gW ch n l (a + 1) else (false, a)).2)) else (false, (if gN ch n a = x then gW ch n l (a + 1) else (false, a)).2)
    by_cases h : gN ch n a = x
    · rw [if_pos h, if_pos h]
      exact gW_app l (a + 1)
    · rw [if_neg h, if_neg h]
      rfl
theorem gW_adv {ch : Nat → Int32} {n : Nat} : ∀ (l : List Int32) (a : Nat), a ≤ (gW ch n l a).2 ∧ ((gW ch n l a).1 = true → (gW ch n l a).2 = a + l.length)
  | [], a => ⟨Nat.le_refl _, fun _ => rfl⟩
  | x :: l, a => by
    unfold gW
    split
    · obtain ⟨h1, h2⟩ := gW_adv (ch := ch) (n := n) l (a + 1)
      exact ⟨by omega, fun h => by rw [h2 h, List.length_cons]; omega⟩
    · exact ⟨Nat.le_refl _, fun h => Bool.noConfusion h⟩
theorem gD_ge {ch : Nat → Int32} {n : Nat} : ∀ (j a : Nat) (v : Int32), a ≤ (gD ch n j a v).1
  | 0, a, v => Nat.le_refl _
  | j + 1, a, v => by
    unfold gD
    split
    · exact Nat.le_trans (Nat.le_succ a) (gD_ge j (a + 1) _)
    · exact Nat.le_refl _
theorem gEd_bd {ch : Nat → Int32} {n : Nat} : ∀ (j a : Nat) (e : Int32), a ≤ n → a ≤ (gEd ch n j a e).2.1 ∧ (gEd ch n j a e).2.1 ≤ n
  | 0, a, e, h => ⟨Nat.le_refl _, h⟩
  | j + 1, a, e, h => by
    unfold gEd
    split
    · rename_i z
      have hlt : a < n := gN_lt (c := gN ch n a) rfl (fun y => by
        rw [y] at z
        exact absurd z (by decide))
      split
      · obtain ⟨h1, h2⟩ := gEd_bd (ch := ch) (n := n) j (a + 1) (e ||| (1 <<< ((gN ch n a - 48) &&& 31))) hlt
        exact ⟨by omega, h2⟩
      · exact ⟨Nat.le_refl _, h⟩
    · exact ⟨Nat.le_refl _, h⟩
/-- the steps of a text: they are whole, and fewer than its bytes -/
def LI (L : List Sst) : Prop := (∀ l, hOK l 1 → hOK (L ++ l) 1) ∧ ∀ ev, evs ev L [false] = [struck ev L]
theorem LI.nil : LI [] := ⟨fun _ h => h, fun _ => rfl⟩
theorem LI.ok {L : List Sst} (h : LI L) : hOK L 1 := by
  have := h.1 [] trivial
  rw [List.append_nil] at this
  exact this
theorem LI.strike {ch : Nat → Int32} {n a : Nat} {L : List Sst} (h : LI L) (hg : (gE ch n a).1 = true) : LI (L ++ ((gE ch n a).2.2 ++ [(124, 0)])) ∧ ∀ ev, struck ev (L ++ ((gE ch n a).2.2 ++ [(124, 0)])) = (struck ev L || vl0 ev (gE ch n a).2.2) := by
  have key : ∀ ev, evs ev (L ++ ((gE ch n a).2.2 ++ [(124, 0)])) [false] = [struck ev L || vl0 ev (gE ch n a).2.2] := fun ev => by
    have hv : evs ev (gE ch n a).2.2 [struck ev L] = vl0 ev (gE ch n a).2.2 :: [struck ev L] := vl0_of ((gX_ev ev _ _ _ _ hg).1 (by omega)) _
    rw [evs_app, h.2 ev, evs_app, hv]
    rfl
  have k2 : ∀ ev, struck ev (L ++ ((gE ch n a).2.2 ++ [(124, 0)])) = (struck ev L || vl0 ev (gE ch n a).2.2) := fun ev => by
    show (evs ev (L ++ ((gE ch n a).2.2 ++ [(124, 0)])) [false]).headD false = _
    rw [key ev]
    rfl
  refine ⟨⟨fun l hl => ?_, fun ev => by rw [key ev, k2 ev]⟩, k2⟩
  rw [List.append_assoc, List.append_assoc]
  refine h.1 _ ?_
  refine (gX_h _ 4 5 a (Nat.le_refl 4) hg 1 _ (by decide)).2 (by omega) ?_
  exact hOK_124 (by omega) hl
def GI (n : Nat) (R : RT) (a : Nat) : Prop := LI R.2 ∧ R.2.length ≤ a
/-- a clause: places, and what it keeps -/
theorem gC_bd {ch : Nat → Int32} {n a : Nat} {R : RT} (ha : a ≤ n) (hR : GI n R a) : a ≤ (gC ch n a R).2.1 ∧ (gC ch n a R).2.1 ≤ n ∧ ((gC ch n a R).1 = true → GI n (gC ch n a R).2.2 (gC ch n a R).2.1) := by
  have aft : ∀ (l : List Int32) (b : Nat) (f : Nat → CR), a ≤ b → b ≤ n → (∀ c, c ∈ l → ¬ c = -1) → (∀ b', b + l.length = b' → b' ≤ n → (b' ≤ (f b').2.1 ∧ (f b').2.1 ≤ n ∧ ((f b').1 = true → GI n (f b').2.2 (f b').2.1))) → a ≤ (gAft ch n l b R f).2.1 ∧ (gAft ch n l b R f).2.1 ≤ n ∧ ((gAft ch n l b R f).1 = true → GI n (gAft ch n l b R f).2.2 (gAft ch n l b R f).2.1) := fun l b f hab hbn hl hf => by
    obtain ⟨w1, w2⟩ := gW_adv (ch := ch) (n := n) l b
    have w3 := gW_le (ch := ch) (n := n) l b hbn hl
    unfold gAft
    by_cases c : (gW ch n l b).1 = true
    · rw [if_pos c]
      obtain ⟨f1, f2, f3⟩ := hf _ (w2 c).symm w3
      exact ⟨by omega, f2, f3⟩
    · rw [if_neg c]
      exact ⟨by show a ≤ (gW ch n l b).2; omega, w3, fun h => Bool.noConfusion h⟩
  have same : ∀ {b' a' : Nat} {R' : RT}, R'.2 = R.2 → a ≤ a' → GI n R' a' := fun {b' a' R'} e h => ⟨by rw [e]; exact hR.1, by rw [e]; have := hR.2; omega⟩
  have lt3 : ∀ {b : Nat} {c : Int32}, gN ch n b = c → ¬ c = -1 → b < n := fun h hc => gN_lt h hc
  have ltD : ∀ {b : Nat} {lo hi : Int32}, inP (gN ch n b) lo hi → ¬ inP (-1) lo hi → b < n := fun {b lo hi} h hc => gN_lt (c := gN ch n b) rfl (fun y => by
    rw [y] at h
    exact hc h)
  unfold gC
  split
  · refine aft _ a _ (Nat.le_refl a) ha (by decide) (fun b' hb hn' => ?_)
    have hab : a ≤ b' := by omega
    unfold gBlur
    split
    · rename_i c
      exact ⟨Nat.le_succ _, lt3 c (by decide), fun _ => same (b' := 0) rfl (by show a ≤ b' + 1; omega)⟩
    · split
      · rename_i c
        exact ⟨Nat.le_succ _, lt3 c (by decide), fun _ => same (b' := 0) rfl (by show a ≤ b' + 1; omega)⟩
      · split
        · rename_i c
          exact ⟨Nat.le_succ _, lt3 c (by decide), fun _ => same (b' := 0) rfl (by show a ≤ b' + 1; omega)⟩
        · exact ⟨Nat.le_refl _, hn', fun h => Bool.noConfusion h⟩
  · split
    · refine aft _ a _ (Nat.le_refl a) ha (by decide) (fun b' hb hn' => ?_)
      exact ⟨Nat.le_refl _, hn', fun _ => same (b' := 0) rfl (by show a ≤ b'; omega)⟩
    · split
      · refine aft _ a _ (Nat.le_refl a) ha (by decide) (fun b' hb hn' => ?_)
        obtain ⟨e1, e2⟩ := gEd_bd (ch := ch) (n := n) 4 b' 0 hn'
        exact ⟨e1, e2, fun _ => same (b' := 0) rfl (by show a ≤ (gEd ch n 4 b' 0).2.1; omega)⟩
      · split
        · refine aft _ a _ (Nat.le_refl a) ha (by decide) (fun b' hb hn' => ?_)
          unfold gRest
          split
          · have d1 := gD_ge (ch := ch) (n := n) 4 b' 0
            exact ⟨d1, gD_le 4 b' 0 hn', fun _ => same (b' := 0) rfl (by show a ≤ (gD ch n 4 b' 0).1; omega)⟩
          · exact ⟨Nat.le_refl _, hn', fun h => Bool.noConfusion h⟩
        · split
          · refine aft _ a _ (Nat.le_refl a) ha (by decide) (fun b' hb hn' => ?_)
            have hb7 : a + 7 = b' := hb
            obtain ⟨x1, x2, x3⟩ := gX_bd (ch := ch) (4 * (n - b') + 3) 4 5 b' hn'
            unfold gStrike
            split
            · rename_i c
              have x4 := (x3 c).1
              refine ⟨x1, x2, fun _ => ⟨(hR.1.strike c).1, ?_⟩⟩
              have := hR.2
              have e : (gE ch n b').2.2.length = (gX ch n (4 * (n - b') + 3) 4 5 b').2.2.length := rfl
              have e2 : (gE ch n b').2.1 = (gX ch n (4 * (n - b') + 3) 4 5 b').2.1 := rfl
              show (R.2 ++ ((gE ch n b').2.2 ++ [(124, 0)])).length ≤ (gE ch n b').2.1
              simp only [List.length_append, List.length_cons, List.length_nil]
              omega
            · exact ⟨x1, x2, fun h => Bool.noConfusion h⟩
          · split
            · rename_i c119
              have hlt := lt3 c119 (by decide)
              split
              · refine aft _ (a + 1) _ (Nat.le_succ a) hlt (by decide) (fun b' hb hn' => ?_)
                exact ⟨Nat.le_refl _, hn', fun _ => same (b' := 0) rfl (by show a ≤ b'; omega)⟩
              · refine aft _ (a + 1) _ (Nat.le_succ a) hlt (by decide) (fun b' hb hn' => ?_)
                unfold gWeigh
                split
                · rename_i c1
                  have l1 := ltD c1 (by decide)
                  split
                  · rename_i c2
                    have l2 := lt3 c2 (by decide)
                    split
                    · have d1 := gD_ge (ch := ch) (n := n) 2 (b' + 2) 0
                      exact ⟨by show b' ≤ (gD ch n 2 (b' + 2) 0).1; omega, gD_le 2 (b' + 2) 0 l2, fun _ => same (b' := 0) rfl (by show a ≤ (gD ch n 2 (b' + 2) 0).1; omega)⟩
                    · exact ⟨by show b' ≤ b' + 2; omega, l2, fun h => Bool.noConfusion h⟩
                  · exact ⟨by show b' ≤ b' + 1; omega, l1, fun h => Bool.noConfusion h⟩
                · exact ⟨Nat.le_refl _, hn', fun h => Bool.noConfusion h⟩
            · exact ⟨Nat.le_refl _, ha, fun h => Bool.noConfusion h⟩
theorem gG_ok {ch : Nat → Int32} {n : Nat} : ∀ (c a : Nat) (R : RT), a ≤ n → GI n R a → (gG ch n c a R).1 = true → LI (gG ch n c a R).2.2.2
  | 0, a, R, ha, hR, h => by
    unfold gG at h ⊢
    split at h
    · rename_i z
      rw [if_pos z]
      exact ((gC_bd ha hR).2.2 z.1).1
    · exact Bool.noConfusion h
  | c + 1, a, R, ha, hR, h => by
    obtain ⟨c1, c2, c3⟩ := gC_bd (ch := ch) ha hR
    unfold gG at h ⊢
    split at h
    · rename_i z
      rw [if_pos z]
      split at h
      · rename_i z2
        rw [if_pos z2]
        exact (c3 z).1
      · rename_i z2
        rw [if_neg z2]
        split at h
        · rename_i z3
          rw [if_pos z3]
          have hlt := gN_lt z3 (by decide)
          have := c3 z
          exact gG_ok c _ _ hlt ⟨this.1, by have := this.2; omega⟩ h
        · exact Bool.noConfusion h
    · exact Bool.noConfusion h
theorem gA_ok {ch : Nat → Int32} {n : Nat} (h : (gA ch n).1 = true) : LI (gA ch n).2.2.2 := gG_ok 9 0 rt0 (Nat.zero_le _) ⟨LI.nil, Nat.zero_le _⟩ h
