/-! ===== bytes as they lie, and without their sign: a text says the same ===== -/
def AG (ch ch' : Nat → Int32) (n : Nat) : Prop := ∀ a, gN ch n a = gN ch' n a ∨ (¬ inP (gN ch n a) 0 127 ∧ ¬ inP (gN ch' n a) 0 127)
theorem in127 {x lo hi : Int32} (h : inP x lo hi) (h1 : 0 ≤ lo.toInt) (h2 : hi.toInt ≤ 127) : inP x 0 127 := by
  rw [inP_iff] at *
  have e0 : (0 : Int32).toInt = 0 := by decide
  have e1 : (127 : Int32).toInt = 127 := by decide
  rw [fa_lt, fa_lt] at *
  rw [e0, e1]
  omega
theorem AG.eq {ch ch' : Nat → Int32} {n : Nat} (h : AG ch ch' n) (a : Nat) {c : Int32} (hc : inP c 0 127) : (gN ch n a = c) = (gN ch' n a = c) := by
  rcases h a with e | ⟨o1, o2⟩
  · rw [e]
  · exact propext ⟨fun z => absurd (by rw [z]; exact hc) o1, fun z => absurd (by rw [z]; exact hc) o2⟩
theorem AG.inr {ch ch' : Nat → Int32} {n : Nat} (h : AG ch ch' n) (a : Nat) {lo hi : Int32} (h1 : 0 ≤ lo.toInt) (h2 : hi.toInt ≤ 127) : (inP (gN ch n a) lo hi) = (inP (gN ch' n a) lo hi) := by
  rcases h a with e | ⟨o1, o2⟩
  · rw [e]
  · exact propext ⟨fun z => absurd (in127 z h1 h2) o1, fun z => absurd (in127 z h1 h2) o2⟩
theorem AG.val {ch ch' : Nat → Int32} {n : Nat} (h : AG ch ch' n) {a : Nat} (z : inP (gN ch n a) 0 127) : gN ch n a = gN ch' n a := (h a).resolve_right (fun o => o.1 z)
theorem AG.gW {ch ch' : Nat → Int32} {n : Nat} (h : AG ch ch' n) : ∀ (l : List Int32) (a : Nat), (∀ c, c ∈ l → inP c 0 127) → gW ch n l a = gW ch' n l a
  | [], _, _ => rfl
  | c :: l, a, hl => by
    show (if gN ch n a = c then CSpotTimersLaw_law_r3327_87c8ce.gW ch n l (a + 1) else (false, a)) = (if gN ch' n a = c then CSpotTimersLaw_law_r3327_87c8ce.gW ch' n l (a + 1) else (false, a))
    simp only [h.eq a (hl c List.mem_cons_self), h.gW l (a + 1) (fun c' hc' => hl c' (List.mem_cons_of_mem _ hc'))]
theorem AG.gD {ch ch' : Nat → Int32} {n : Nat} (h : AG ch ch' n) : ∀ (j a : Nat) (v : Int32), gD ch n j a v = gD ch' n j a v
  | 0, _, _ => rfl
  | j + 1, a, v => by
    show (if inP (gN ch n a) 48 57 then CSpotTimersLaw_law_r3327_87c8ce.gD ch n j (a + 1) (10 * v + gN ch n a - 48) else (a, v)) = (if inP (gN ch' n a) 48 57 then CSpotTimersLaw_law_r3327_87c8ce.gD ch' n j (a + 1) (10 * v + gN ch' n a - 48) else (a, v))
    by_cases z : inP (gN ch n a) 48 57
    · have e := h.val (in127 z (by decide) (by decide))
      rw [e, h.gD j (a + 1) _]
    · have z' : ¬ inP (gN ch' n a) 48 57 := by
        rw [← h.inr a (by decide) (by decide)]
        exact z
      rw [if_neg z, if_neg z']
theorem AG.gTn {ch ch' : Nat → Int32} {n : Nat} (h : AG ch ch' n) (m b : Nat) (sg : Int32) : gTn ch n m b sg = gTn ch' n m b sg := by
  unfold CSpotTimersLaw_law_r3327_87c8ce.gTn
  simp only [h.gD, h.inr b (lo := 48) (hi := 57) (by decide) (by decide)]
theorem AG.gT {ch ch' : Nat → Int32} {n : Nat} (h : AG ch ch' n) (a : Nat) : gT ch n a = gT ch' n a := by
  unfold CSpotTimersLaw_law_r3327_87c8ce.gT
  simp only [h.gTn, h.eq (a + 1) (c := 61) (by decide)]
  rcases h a with e | ⟨o1, o2⟩
  · rw [e]
    by_cases c : gN ch' n a = 104 ∨ gN ch' n a = 115 ∨ gN ch' n a = 101 ∨ gN ch' n a = 107
    · rw [if_pos c, if_pos c]
    · rw [if_neg c, if_neg c]
      by_cases c2 : gN ch' n a = 116
      · rw [if_pos c2, if_pos c2]
        rcases h (a + 1) with e | ⟨o1, o2⟩
        · rw [e]
        · have no : ∀ x : Int32, ¬ inP x 0 127 → ¬ (x = 60 ∨ x = 62) := fun x hx z => hx (by rcases z with z | z <;> rw [z] <;> decide)
          rw [if_neg (no _ o1), if_neg (no _ o2)]
      · rw [if_neg c2, if_neg c2]
  · have no1 : ∀ x : Int32, ¬ inP x 0 127 → ¬ (x = 104 ∨ x = 115 ∨ x = 101 ∨ x = 107) := fun x hx z => hx (by rcases z with z | z | z | z <;> rw [z] <;> decide)
    have no2 : ∀ x : Int32, ¬ inP x 0 127 → ¬ x = 116 := fun x hx z => hx (by rw [z]; decide)
    rw [if_neg (no1 _ o1), if_neg (no1 _ o2), if_neg (no2 _ o1), if_neg (no2 _ o2)]
theorem thn_cg {r r' : GR} {s : List Sst} {f f' : Nat → GR} (h1 : r = r') (h2 : ∀ a, f a = f' a) : thn r s f = thn r' s f' := by
  subst h1
  have : f = f' := funext h2
  rw [this]
theorem AG.gX {ch ch' : Nat → Int32} {n : Nat} (h : AG ch ch' n) : ∀ (k m dep a : Nat), gX ch n k m dep a = gX ch' n k m dep a
  | 0, _, _, _ => rfl
  | k + 1, m, dep, a => by
    have ih := h.gX k
    match m with
    | 0 =>
      rw [gX0, gX0]
      simp only [h.eq a (c := 33) (by decide), h.eq a (c := 40) (by decide), h.gT, ih]
      have e41 : ∀ a', (if gN ch n a' = 41 then ((true, a' + 1, []) : GR) else (false, a', [])) = (if gN ch' n a' = 41 then ((true, a' + 1, []) : GR) else (false, a', [])) := fun a' => by
        simp only [h.eq a' (c := 41) (by decide)]
      rw [thn_cg (r := CSpotTimersLaw_law_r3327_87c8ce.gX ch' n k 4 (dep - 1) (a + 1)) (s := []) rfl e41]
    | 1 =>
      rw [gX1, gX1]
      simp only [h.eq a (c := 38) (by decide), ih]
      rw [thn_cg (r := CSpotTimersLaw_law_r3327_87c8ce.gX ch' n k 0 dep (a + 1)) (s := [(38, 0)]) rfl (ih 1 dep)]
    | 2 =>
      rw [gX2, gX2]
      simp only [h.eq a (c := 124) (by decide), ih]
      rw [thn_cg (r := CSpotTimersLaw_law_r3327_87c8ce.gX ch' n k 3 dep (a + 1)) (s := [(124, 0)]) rfl (ih 2 dep)]
    | 3 =>
      rw [gX3, gX3]
      exact thn_cg (ih 0 dep a) (ih 1 dep)
    | m' + 4 => exact thn_cg (ih 3 dep a) (ih 2 dep)
theorem AG.gEd {ch ch' : Nat → Int32} {n : Nat} (h : AG ch ch' n) : ∀ (j a : Nat) (e : Int32), gEd ch n j a e = gEd ch' n j a e
  | 0, _, _ => rfl
  | j + 1, a, e => by
    show (if inP (gN ch n a) 49 52 then (if e &&& (1 <<< ((gN ch n a - 48) &&& 31)) = 0 then CSpotTimersLaw_law_r3327_87c8ce.gEd ch n j (a + 1) (e ||| (1 <<< ((gN ch n a - 48) &&& 31))) else (false, a, e)) else (true, a, e)) = (if inP (gN ch' n a) 49 52 then (if e &&& (1 <<< ((gN ch' n a - 48) &&& 31)) = 0 then CSpotTimersLaw_law_r3327_87c8ce.gEd ch' n j (a + 1) (e ||| (1 <<< ((gN ch' n a - 48) &&& 31))) else (false, a, e)) else (true, a, e))
    by_cases z : inP (gN ch n a) 49 52
    · have e := h.val (in127 z (by decide) (by decide))
      rw [e, h.gEd j (a + 1) _]
    · have z' : ¬ inP (gN ch' n a) 49 52 := by
        rw [← h.inr a (by decide) (by decide)]
        exact z
      rw [if_neg z, if_neg z']
theorem AG.gWeigh {ch ch' : Nat → Int32} {n : Nat} (h : AG ch ch' n) (a : Nat) (R : RT) : gWeigh ch n a R = gWeigh ch' n a R := by
  unfold CSpotTimersLaw_law_r3327_87c8ce.gWeigh
  simp only [h.gD, h.eq (a + 1) (c := 32) (by decide), h.inr (a + 2) (lo := 48) (hi := 57) (by decide) (by decide)]
  by_cases z : inP (gN ch n a) 48 53
  · rw [h.val (in127 z (by decide) (by decide))]
  · have z' : ¬ inP (gN ch' n a) 48 53 := by
      rw [← h.inr a (by decide) (by decide)]
      exact z
    rw [if_neg z, if_neg z']
theorem AG.gAft {ch ch' : Nat → Int32} {n : Nat} (h : AG ch ch' n) (l : List Int32) (a : Nat) (R : RT) {f f' : Nat → CR} (hl : ∀ c, c ∈ l → inP c 0 127) (hf : ∀ a', f a' = f' a') : gAft ch n l a R f = gAft ch' n l a R f' := by
  have : f = f' := funext hf
  subst this
  unfold CSpotTimersLaw_law_r3327_87c8ce.gAft
  rw [h.gW l a hl]
theorem AG.gC {ch ch' : Nat → Int32} {n : Nat} (h : AG ch ch' n) (a : Nat) (R : RT) : gC ch n a R = gC ch' n a R := by
  have b1 : ∀ a', gBlur ch n a' R = gBlur ch' n a' R := fun a' => by
    unfold gBlur
    simp only [h.eq a' (c := 102) (by decide), h.eq a' (c := 109) (by decide), h.eq a' (c := 108) (by decide)]
  have b2 : ∀ a', gEdges ch n a' R = gEdges ch' n a' R := fun a' => by
    unfold gEdges
    rw [h.gEd]
  have b3 : ∀ a', gRest ch n a' R = gRest ch' n a' R := fun a' => by
    unfold gRest
    simp only [h.gD, h.inr a' (lo := 48) (hi := 57) (by decide) (by decide)]
  have b4 : ∀ a', gStrike ch n a' R = gStrike ch' n a' R := fun a' => by
    unfold gStrike gE
    rw [h.gX]
  unfold CSpotTimersLaw_law_r3327_87c8ce.gC
  simp only [h.eq a (c := 98) (by decide), h.eq a (c := 99) (by decide), h.eq a (c := 101) (by decide), h.eq a (c := 114) (by decide), h.eq a (c := 115) (by decide), h.eq a (c := 119) (by decide), h.eq (a + 1) (c := 105) (by decide)]
  rw [h.gAft [98, 108, 117, 114, 32] a R (by decide) b1, h.gAft [99, 111, 112, 105, 101, 100] a R (f := fun a' => (true, a', rset R 35 1)) (by decide) (fun _ => rfl), h.gAft [101, 100, 103, 101, 115, 32] a R (by decide) b2, h.gAft [114, 101, 115, 116, 32] a R (by decide) b3, h.gAft [115, 116, 114, 105, 107, 101, 32] a R (by decide) b4, h.gAft [105, 116, 104, 100, 114, 97, 119, 110] (a + 1) R (f := fun a' => (true, a', rset R 36 1)) (by decide) (fun _ => rfl), h.gAft [101, 105, 103, 104, 32] (a + 1) R (by decide) (fun a' => h.gWeigh a' R)]
theorem AG.gG {ch ch' : Nat → Int32} {n : Nat} (h : AG ch ch' n) : ∀ (c a : Nat) (R : RT), gG ch n c a R = gG ch' n c a R
  | 0, a, R => by
    unfold CSpotTimersLaw_law_r3327_87c8ce.gG
    rw [h.gC]
  | c + 1, a, R => by
    unfold CSpotTimersLaw_law_r3327_87c8ce.gG
    simp only [h.gC, h.gG c, h.eq (CSpotTimersLaw_law_r3327_87c8ce.gC ch' n a R).2.1 (c := 59) (by decide)]
theorem AG.gA {ch ch' : Nat → Int32} {n : Nat} (h : AG ch ch' n) : gA ch n = gA ch' n := h.gG 9 0 rt0
/-- a byte, and the same without its sign -/
theorem byte_ag {x : Int32} (h : inP x (-128) 127) : x = x &&& 255 ∨ (¬ inP x 0 127 ∧ ¬ inP (x &&& 255) 0 127) := by
  have e1 : (-128 : Int32).toInt = -128 := by decide
  have e2 : (127 : Int32).toInt = 127 := by decide
  rw [inP_iff, fa_lt, fa_lt, e1, e2] at h
  have key : ∀ k : Nat, k < 256 → (Int32.ofInt ((k : Int) - 128) = Int32.ofInt ((k : Int) - 128) &&& 255 ∨ (¬ inP (Int32.ofInt ((k : Int) - 128)) 0 127 ∧ ¬ inP (Int32.ofInt ((k : Int) - 128) &&& 255) 0 127)) := by decide +kernel
  have hk := key (x.toInt + 128).toNat (by omega)
  have ex : Int32.ofInt (((x.toInt + 128).toNat : Int) - 128) = x := by
    have : ((x.toInt + 128).toNat : Int) - 128 = x.toInt := by omega
    rw [this]
    exact fb_asI x
  rw [ex] at hk
  exact hk
theorem ag_bytes {ch : Nat → Int32} {n : Nat} (h : ∀ k, k < n → inP (ch k) (-128) 127) : AG ch (fun k => ch k &&& 255) n := fun a => by
  unfold gN
  by_cases c : a < n
  · rw [if_pos c, if_pos c]
    exact byte_ag (h a c)
  · rw [if_neg c, if_neg c]
    exact Or.inl rfl
theorem ag_same {ch ch' : Nat → Int32} {n : Nat} (h : ∀ k, k < n → ch k = ch' k) : AG ch ch' n := fun a => by
  unfold gN
  by_cases c : a < n
  · rw [if_pos c, if_pos c, h a c]
    exact Or.inl rfl
  · rw [if_neg c, if_neg c]
    exact Or.inl rfl
