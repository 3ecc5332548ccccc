/-! ===== the six lists ===== -/
theorem hr_wR' (σ : XH) (s i k : Nat) (x : Option XO) (s' i' k' : Nat) : hr (wR σ s i k x) s' i' k' = if s' = s ∧ i' = i ∧ k' = k then x else hr σ s' i' k' := rfl
theorem hi_wI' (σ : XH) (s i k : Nat) (x : Int32) (s' i' k' : Nat) : hi (wI σ s i k x) s' i' k' = if s' = s ∧ i' = i ∧ k' = k then x else hi σ s' i' k' := rfl
theorem hr_cpR' (σ : XH) (o : XO) (a : Nat) (q : XO) (b n : Nat) (s i k : Nat) : hr (cpR σ o a q b n) s i k = if s = q.1 ∧ i = q.2 ∧ b ≤ k ∧ k < b + n then hr σ o.1 o.2 (a + (k - b)) else hr σ s i k := rfl
def LLf (σ : XH) (E : Nat → List XO) (f : Nat → XO) : Prop :=
  hn σ 510 0 = 0 ∧ (∀ j, j < 6 → hr σ 0 j 1 = some (f j) ∧ hi σ 0 j 2 = nI (E j).length ∧ (E j).length ≤ hn σ (f j).1 (f j).2 ∧ (∀ k, k < (E j).length → hr σ (f j).1 (f j).2 k = (E j)[k]?) ∧ (∀ z, z ∈ E j → z.1 < 13) ∧ (f j = (510, 0) ∨ ((f j).1 = 410 ∨ (f j).1 = 411) ∧ (f j).2 < hc σ (f j).1 ∧ 0 < hn σ (f j).1 (f j).2 ∧ hn σ (f j).1 (f j).2 ≤ 1000)) ∧
  (∀ i j, i < 6 → j < 6 → i ≠ j → f i = (510, 0) ∨ f i ≠ f j)
def LL (σ : XH) (E : Nat → List XO) : Prop := ∃ f, LLf σ E f
theorem LL.fr {T : Nat → Bool} {σ σ' : XH} {E : Nat → List XO} (h : LL σ E) (hF : Fr T σ σ') (h0 : T 0 = false) (h1 : T 410 = false) (h2 : T 411 = false) (h3 : T 510 = false) : LL σ' E := by
  obtain ⟨f, a, b, c⟩ := h
  refine ⟨f, ?_, fun j hj => ?_, c⟩
  · rw [hF.n h3]; exact a
  · obtain ⟨b1, b2, b3, b4, b5, b6⟩ := b j hj
    rcases b6 with b6 | ⟨b6, b7, b8, b9⟩
    · refine ⟨by rw [hF.r h0]; exact b1, by rw [hF.i h0]; exact b2, ?_, ?_, b5, Or.inl b6⟩
      · rw [b6] at b3 ⊢
        show _ ≤ hn σ' 510 0
        rw [hF.n h3]
        exact b3
      · intro k hk
        rw [b6] at b3
        have : (E j).length ≤ hn σ 510 0 := b3
        omega
    · have hs : T (f j).1 = false := by
        rcases b6 with b6 | b6 <;> rw [b6]
        · exact h1
        · exact h2
      exact ⟨by rw [hF.r h0]; exact b1, by rw [hF.i h0]; exact b2, by rw [hF.n hs]; exact b3, by rw [hF.r hs]; exact b4, b5, Or.inr ⟨b6, by rw [hF.c hs]; exact b7, by rw [hF.n hs]; exact b8, by rw [hF.n hs]; exact b9⟩⟩
theorem sp_size {d j : Nat} {E : Nat → List XO} {σ : XH} {Q : XV → XH → Prop} (hj : j < 6) (hL : LL σ E) (h : Q (vI (nI (E j).length)) σ) : Ec d 0 0 m_Jx4a65c_size_8abf5 [vR (some (0, j))] σ Q := by
  obtain ⟨f, a, b, c⟩ := hL
  refine Ec_of mo_Jx4a65c_size_8abf5.1 (Nat.le_of_ble_eq_true rfl) ?_
  refine sJx4a65c_size_8abf5_0 ?_
  unfold bJx4a65c_size_8abf5_0
  rw [(b j hj).2.1]
  exact h
theorem sp_get {d j k : Nat} {x : Int32} {z : XO} {E : Nat → List XO} {σ : XH} {Q : XV → XH → Prop} (hd : 2 ≤ d) (hj : j < 6) (hL : LL σ E) (hx : x = nI k) (hk : (E j)[k]? = some z) (hlen : (E j).length < 1000) (h : Q (vR (some z)) σ) : Ec d 0 0 m_Jx4a65c_get_915e3 [vR (some (0, j)), vI x] σ Q := by
  obtain ⟨f, a, b, c⟩ := hL
  obtain ⟨b1, b2, b3, b4, b5, b6⟩ := b j hj
  have hlt : k < (E j).length := (List.getElem?_eq_some_iff.mp hk).1
  subst hx
  refine Ec_of mo_Jx4a65c_get_915e3.1 (Nat.le_of_ble_eq_true rfl) ?_
  refine sJx4a65c_get_915e3_0 ?_
  unfold bJx4a65c_get_915e3_0
  refine ⟨by omega, ?_⟩
  refine sp_oCheck (by omega) (nI_pos (by omega)) (by rw [b2]; exact nI_lt hlt (by omega)) ?_
  refine ⟨by omega, ?_⟩
  refine Ec_of mo_Jx4a65c_elementData_915e3.1 (Nat.le_of_ble_eq_true rfl) ?_
  refine sJx4a65c_elementData_915e3_0 ?_
  unfold bJx4a65c_elementData_915e3_0
  rw [b1]
  have hg : (Nat.ble 400 (f j).1 && Nat.blt (f j).1 500) = true := by
    rcases b6 with b6 | ⟨b6, b7⟩
    · rw [b6] at b3
      have : (E j).length ≤ hn σ 510 0 := b3
      omega
    · rcases b6 with b6 | b6 <;> rw [b6] <;> rfl
  show (bif (Nat.ble 400 (f j).1 && Nat.blt (f j).1 500) then _ else _)
  rw [hg]
  show (vp_in (nI k) (hn σ (f j).1 (f j).2) ∧ Q (vR (hr σ (f j).1 (f j).2 (nI k).toNatClampNeg)) σ)
  rw [nI_clamp (by omega), b4 k hlt, hk]
  exact ⟨by
    unfold vp_in
    rw [nI_clamp (by omega)]
    intro z
    rcases z with z | z
    · exact nI_pos (by omega) z
    · omega, h⟩
/-- the list after an adding, whatever row holds it then -/
theorem LL.added {σ σ1 : XH} {E : Nat → List XO} {f : Nat → XO} (hL : LLf σ E f) {j : Nat} (hj : j < 6) {o q : XO} (ho : o.1 < 13)
    (e510 : hn σ1 510 0 = hn σ 510 0) (eo : ∀ i, i < 6 → i ≠ j → hr σ1 0 i 1 = hr σ 0 i 1 ∧ hi σ1 0 i 2 = hi σ 0 i 2)
    (ea : ∀ i, i < 6 → i ≠ j → f i ≠ (510, 0) → hn σ1 (f i).1 (f i).2 = hn σ (f i).1 (f i).2 ∧ hr σ1 (f i).1 (f i).2 = hr σ (f i).1 (f i).2 ∧ hc σ (f i).1 ≤ hc σ1 (f i).1 ∧ f i ≠ q)
    (ej : hr σ1 0 j 1 = some q) (es : hi σ1 0 j 2 = nI ((E j).length + 1)) (el : (E j).length + 1 ≤ hn σ1 q.1 q.2)
    (ec : ∀ k, k < (E j).length → hr σ1 q.1 q.2 k = (E j)[k]?) (en : hr σ1 q.1 q.2 (E j).length = some o) (eq : (q.1 = 410 ∨ q.1 = 411) ∧ q.2 < hc σ1 q.1 ∧ hn σ1 q.1 q.2 ≤ 1000) :
    LL σ1 (fun i => if i = j then E j ++ [o] else E i) := by
  obtain ⟨a, b, c⟩ := hL
  refine ⟨fun i => if i = j then q else f i, e510.trans a, fun i hi => ?_, fun i k hi hk hik => ?_⟩
  · by_cases e : i = j
    · subst e
      simp only [if_true]
      refine ⟨ej, by rw [List.length_append]; exact es, by rw [List.length_append]; exact el, fun k hk => ?_, fun z hz => ?_, Or.inr ⟨eq.1, eq.2.1, by omega, eq.2.2⟩⟩
      · rw [List.length_append] at hk
        rcases Nat.lt_or_ge k (E i).length with h | h
        · rw [List.getElem?_append_left h]
          exact ec k h
        · have hk2 : k < (E i).length + 1 := hk
          have : k = (E i).length := by omega
          subst this
          rw [List.getElem?_append_right (Nat.le_refl _), Nat.sub_self]
          exact en
      · rcases List.mem_append.mp hz with h | h
        · exact (b i hi).2.2.2.2.1 z h
        · rw [List.mem_singleton] at h
          rw [h]
          exact ho
    · simp only [e, if_false]
      obtain ⟨b1, b2, b3, b4, b5, b6⟩ := b i hi
      obtain ⟨z1, z2⟩ := eo i hi e
      by_cases hf : f i = (510, 0)
      · refine ⟨by rw [z1]; exact b1, by rw [z2]; exact b2, ?_, ?_, b5, Or.inl hf⟩
        · rw [hf] at b3 ⊢
          show _ ≤ hn σ1 510 0
          rw [e510]
          exact b3
        · intro k hk
          rw [hf] at b3
          have : (E i).length ≤ hn σ 510 0 := b3
          omega
      · obtain ⟨y1, y2, y3, y4⟩ := ea i hi e hf
        refine ⟨by rw [z1]; exact b1, by rw [z2]; exact b2, by rw [y1]; exact b3, by rw [y2]; exact b4, b5, ?_⟩
        rcases b6 with b6 | b6
        · exact Or.inl b6
        · exact Or.inr ⟨b6.1, Nat.lt_of_lt_of_le b6.2.1 y3, by rw [y1]; exact b6.2.2.1, by rw [y1]; exact b6.2.2.2⟩
  · by_cases e : i = j
    · subst e
      by_cases e2 : k = i
      · exact absurd e2.symm hik
      · simp only [e2, if_true, if_false]
        right
        by_cases hf : f k = (510, 0)
        · intro z
          rw [z, hf] at eq
          simp at eq
        · exact fun z => (ea k hk e2 hf).2.2.2 z.symm
    · simp only [e, if_false]
      by_cases hf : f i = (510, 0)
      · exact Or.inl hf
      · right
        by_cases e2 : k = j
        · simp only [e2, if_true]
          exact (ea i hi e hf).2.2.2
        · simp only [e2, if_false]
          exact (c i k hi hk hik).resolve_left hf
/-- the last step of an adding: the element and the size -/
theorem sp_add11 {d rc rs j : Nat} {E : Nat → List XO} {f : Nat → XO} {σ σ1 : XH} {o q : XO} {Q : XV → XH → Prop} (hL : LLf σ E f) (hj : j < 6) (ho : o.1 < 13) (hlen : (E j).length < 100)
    (hF : Fr (tl [0, 410, 411]) σ σ1)
    (eo : ∀ i, i < 6 → i ≠ j → hr σ1 0 i 1 = hr σ 0 i 1 ∧ hi σ1 0 i 2 = hi σ 0 i 2)
    (ea : ∀ i, i < 6 → i ≠ j → f i ≠ (510, 0) → hn σ1 (f i).1 (f i).2 = hn σ (f i).1 (f i).2 ∧ hr σ1 (f i).1 (f i).2 = hr σ (f i).1 (f i).2 ∧ hc σ (f i).1 ≤ hc σ1 (f i).1 ∧ f i ≠ q)
    (ej : hr σ1 0 j 1 = some q) (el : (E j).length + 1 ≤ hn σ1 q.1 q.2)
    (ec : ∀ k, k < (E j).length → hr σ1 q.1 q.2 k = (E j)[k]?) (eq : (q.1 = 410 ∨ q.1 = 411) ∧ q.2 < hc σ1 q.1 ∧ hn σ1 q.1 q.2 ≤ 1000)
    (h : ∀ σ', LL σ' (fun i => if i = j then E j ++ [o] else E i) → Fr (tl [0, 410, 411]) σ σ' → Q vU σ') : Ex d rc rs m_Jx4a65c_add_72be8 11 [vR (some (0, j)), vR (some o), vR (some q), vI (nI (E j).length)] [] σ1 Q := by
  refine sJx4a65c_add_72be8_11 ?_
  unfold bJx4a65c_add_72be8_11
  have hg : (Nat.blt o.1 13 && ((Nat.ble 410 q.1 && Nat.blt q.1 500) || (Nat.ble 400 q.1 && (Nat.blt q.1 410 && Nat.beq o.1 10)))) = true := by
    rw [show Nat.blt o.1 13 = true from Nat.ble_eq_true_of_le ho]
    rcases eq.1 with e | e <;> rw [e] <;> rfl
  show (bif (Nat.blt o.1 13 && ((Nat.ble 410 q.1 && Nat.blt q.1 500) || (Nat.ble 400 q.1 && (Nat.blt q.1 410 && Nat.beq o.1 10)))) then _ else _)
  rw [hg]
  refine ⟨?_, ?_⟩
  · unfold vp_in
    rw [nI_clamp (by omega)]
    intro z
    rcases z with z | z
    · exact nI_pos (by omega) z
    · omega
  · intro h3 e3 h4 e4
    rw [nI_clamp (by omega)] at e3
    subst e3 e4
    have q0 : q.1 ≠ 0 := by rcases eq.1 with e | e <;> omega
    have q510 : q.1 ≠ 510 := by rcases eq.1 with e | e <;> omega
    refine h _ (LL.added hL hj ho (q := q) ?_ ?_ ?_ ?_ ?_ ?_ ?_ ?_ ?_) ?_
    · exact congrFun (hF.n (s := 510) (by decide)) 0
    · intro i hi6 hij
      refine ⟨?_, ?_⟩
      · show hr (wR σ1 q.1 q.2 (E j).length (some o)) 0 i 1 = _
        rw [hr_wR', if_neg (fun z => q0 z.1.symm)]
        exact (eo i hi6 hij).1
      · show hi (wI (wR σ1 q.1 q.2 (E j).length (some o)) 0 j 2 (nI (E j).length + 1)) 0 i 2 = _
        rw [hi_wI', if_neg (fun z => hij z.2.1)]
        exact (eo i hi6 hij).2
    · intro i hi6 hij hf
      obtain ⟨y1, y2, y3, y4⟩ := ea i hi6 hij hf
      refine ⟨y1, ?_, y3, y4⟩
      refine Eq.trans ?_ y2
      funext k
      show hr (wR σ1 q.1 q.2 (E j).length (some o)) (f i).1 (f i).2 k = _
      rw [hr_wR', if_neg (fun z => y4 (Prod.ext z.1 z.2.1))]
    · show hr (wR σ1 q.1 q.2 (E j).length (some o)) 0 j 1 = _
      rw [hr_wR', if_neg (fun z => q0 z.1.symm)]
      exact ej
    · show hi (wI (wR σ1 q.1 q.2 (E j).length (some o)) 0 j 2 (nI (E j).length + 1)) 0 j 2 = _
      rw [hi_wI', if_pos ⟨rfl, rfl, rfl⟩, nI_1]
    · exact el
    · intro k hk
      show hr (wR σ1 q.1 q.2 (E j).length (some o)) q.1 q.2 k = _
      rw [hr_wR', if_neg (fun z => by omega)]
      exact ec k hk
    · show hr (wR σ1 q.1 q.2 (E j).length (some o)) q.1 q.2 (E j).length = _
      rw [hr_wR', if_pos ⟨rfl, rfl, rfl⟩]
    · exact eq
    · refine Fr.wI (Fr.wR hF ?_ _ _ _) (by decide) _ _ _
      rcases eq.1 with e | e <;> rw [e] <;> decide

def capI (n : Nat) : Int32 := Int32.ofNat n + mxI (nI (n + 1) - Int32.ofNat n) (Int32.ofNat n >>> ((1 : Int32) &&& 31))
theorem capI_ok : ∀ n, n < 100 → 0 < n → (0 < capI n ∧ ¬ 2147483639 < capI n ∧ ¬ capI n < 0 ∧ (capI n).toNatClampNeg ≤ 200 ∧ n + 1 ≤ (capI n).toNatClampNeg ∧ mnI (Int32.ofNat n) (capI n) = Int32.ofNat n ∧ ¬ Int32.ofNat n < 0 ∧ (Int32.ofNat n).toNatClampNeg = n ∧ 0 < Int32.ofNat n) := by decide +kernel
theorem sp_grow0 {d j : Nat} {σ : XH} {Q : XV → XH → Prop} (hd : 3 ≤ d) (e1 : hr σ 0 j 1 = some (510, 0)) (e2 : hn σ 510 0 = 0) (h : Q (vR (some (410, hc σ 410))) (wR (nwA σ 410 10) 0 j 1 (some (410, hc σ 410)))) : Ec d 1 200 m_Jx4a65c_grow_92f84 [vR (some (0, j)), vI (nI 1)] σ Q := by
  refine Ec_of mo_Jx4a65c_grow_92f84.1 (Nat.le_of_ble_eq_true rfl) ?_
  refine sJx4a65c_grow_92f84_0 ?_
  unfold bJx4a65c_grow_92f84_0
  rw [e1]
  show (hn σ 510 0 = 0 ∧ _)
  refine ⟨e2, ?_⟩
  rw [e2]
  refine br_f (by decide) ⟨Or.inl rfl, br_t rfl ⟨by omega, ?_⟩⟩
  refine sp_maxI ?_
  rw [show mxI 10 (nI 1) = 10 by decide]
  refine ⟨by decide, by decide, by decide, by decide, ?_⟩
  intro h4 e4 h5 e5
  rw [show (10 : Int32).toNatClampNeg = 10 by decide] at e4
  subst e4 e5
  exact h
theorem sp_grow1 {d j n : Nat} {q : XO} {σ : XH} {Q : XV → XH → Prop} (hd : 3 ≤ d) (e1 : hr σ 0 j 1 = some q) (hq : q.1 = 410 ∨ q.1 = 411) (hq2 : q.2 < hc σ q.1) (en : hn σ q.1 q.2 = n) (h0 : 0 < n) (h1 : n < 100)
    (hz : ∀ i, i < n → ∀ z, hr σ q.1 q.2 i = some z → z.1 < 13)
    (h : Q (vR (some (411, hc σ 411))) (wR (cpR (nwA σ 411 (capI n).toNatClampNeg) q 0 (411, hc σ 411) 0 n) 0 j 1 (some (411, hc σ 411)))) : Ec d 1 200 m_Jx4a65c_grow_92f84 [vR (some (0, j)), vI (nI (n + 1))] σ Q := by
  obtain ⟨c1, c2, c3, c4, c5, c6, c7, c8, c9⟩ := capI_ok n h1 h0
  have hal : alOk q = true := by
    unfold alOk
    rcases hq with e | e <;> rw [e] <;> rfl
  have hg : (Nat.ble 410 q.1 && (Nat.blt q.1 500 && true)) = true := by rcases hq with e | e <;> rw [e] <;> rfl
  refine Ec_of mo_Jx4a65c_grow_92f84.1 (Nat.le_of_ble_eq_true rfl) ?_
  refine sJx4a65c_grow_92f84_0 ?_
  unfold bJx4a65c_grow_92f84_0
  rw [e1]
  show (bif alOk q then _ else _)
  rw [hal, en]
  refine br_t c9 ?_
  refine sJx4a65c_grow_92f84_20 ?_
  unfold bJx4a65c_grow_92f84_20
  refine ⟨by omega, ?_⟩
  refine Ec_of mo_J8_newLength_cabcc.1 (Nat.le_of_ble_eq_true rfl) ?_
  refine sJ8_newLength_cabcc_0 ?_
  unfold bJ8_newLength_cabcc_0
  refine ⟨by omega, ?_⟩
  refine sp_maxI ?_
  refine br_t c1 (br_f c2 ?_)
  refine ⟨by omega, by omega, by omega, ?_⟩
  rw [e1]
  refine Ec_of mo_J7_copyOf_1904c.1 (Nat.le_of_ble_eq_true rfl) ?_
  refine sJ7_copyOf_1904c_0 ?_
  unfold bJ7_copyOf_1904c_0
  show (bif (Nat.ble 410 q.1 && (Nat.blt q.1 500 && true)) then _ else _)
  rw [hg]
  refine ⟨by omega, by omega, by omega, by omega, ?_⟩
  refine Ec_of mo_J7_copyOf_6403c.1 (Nat.le_of_ble_eq_true rfl) ?_
  refine sJ7_copyOf_6403c_0 ?_
  unfold bJ7_copyOf_6403c_0
  refine ⟨Or.inl rfl, br_t rfl ⟨c3, Nat.le_trans c4 (by decide), by omega, c4, ?_⟩⟩
  intro g1 eg1
  have eg : g1 = nwA σ 411 (capI n).toNatClampNeg := eg1
  have hnq : hn g1 q.1 q.2 = n := by
    rw [eg, hn_nwA, if_neg (fun z => by
      have z2 : q.2 < hc σ 411 := z.1 ▸ hq2
      omega)]
    exact en
  have hnn : hn g1 411 (hc σ 411) = (capI n).toNatClampNeg := by rw [eg, hn_nwA, if_pos ⟨rfl, rfl⟩]
  show (bif alOk q then _ else _)
  rw [hal]
  refine ⟨by omega, ?_⟩
  rw [hnq]
  refine sp_minI ?_
  show (arf (some q) fun o5 => _)
  rw [show Int32.ofNat n + mxI (nI (n + 1) - Int32.ofNat n) (Int32.ofNat n >>> ((1 : Int32) &&& 31)) = capI n from rfl, c6, c8]
  refine ⟨by omega, by decide, by decide, c7, ?_, ?_, ?_, ?_⟩
  · rw [show (0 : Int32).toNatClampNeg = 0 by decide, hnq]
    omega
  · rw [show (0 : Int32).toNatClampNeg = 0 by decide, hnn]
    omega
  · rw [show (0 : Int32).toNatClampNeg = 0 by decide, eg]
    intro i hi z
    rw [Nat.zero_add]
    exact hz i hi z
  · show (bif (Nat.ble 410 q.1 && (Nat.blt q.1 500 && true)) then _ else _)
    rw [hg]
    intro h6 e6 h7 e7
    rw [show (0 : Int32).toNatClampNeg = 0 by decide, eg] at e6
    subst e6 e7
    exact h
theorem nI_inj {a b : Nat} (ha : a < 1000000) (hb : b < 1000000) (h : nI a = nI b) : a = b := (nI_eq (by omega) (by omega)).mp h
theorem sp_add {d j : Nat} {o : XO} {E : Nat → List XO} {σ : XH} {Q : XV → XH → Prop} (hd : 6 ≤ d) (hj : j < 6) (ho : o.1 < 13) (hL : LL σ E) (hlen : (E j).length < 100)
    (h : ∀ σ', LL σ' (fun i => if i = j then E j ++ [o] else E i) → Fr (tl [0, 410, 411]) σ σ' → Q (vI 1) σ') : Ec d 1 200 m_Jx4a65c_add_9ea2d [vR (some (0, j)), vR (some o)] σ Q := by
  refine Ec_of mo_Jx4a65c_add_9ea2d.1 (Nat.le_of_ble_eq_true rfl) ?_
  refine sJx4a65c_add_9ea2d_0 ?_
  unfold bJx4a65c_add_9ea2d_0
  intro σ1 e1
  have hL1 : LL σ1 E := by
    obtain ⟨f, a, b, c⟩ := hL
    refine ⟨f, ?_, fun i hi => ?_, c⟩
    · rw [e1]; exact a
    · obtain ⟨b1, b2, b3, b4, b5, b6⟩ := b i hi
      refine ⟨by rw [e1]; exact b1, ?_, by rw [e1]; exact b3, by rw [e1]; exact b4, b5, by rw [e1]; exact b6⟩
      rw [e1, hi_wI', if_neg (fun z => by omega)]
      exact b2
  have hF1 : Fr (tl [0, 410, 411]) σ σ1 := by
    rw [e1]
    exact Fr.wI (Fr.rf _ _) (by decide) _ _ _
  obtain ⟨f, hf⟩ := hL1
  obtain ⟨b1, b2, b3, b4, b5, b6⟩ := hf.2.1 j hj
  refine ⟨by omega, by omega, by omega, ?_⟩
  rw [b1, b2]
  refine Ec_of mo_Jx4a65c_add_72be8.1 (Nat.le_of_ble_eq_true rfl) ?_
  refine sJx4a65c_add_72be8_0 ?_
  unfold bJx4a65c_add_72be8_0
  have fin : ∀ σ', LL σ' (fun i => if i = j then E j ++ [o] else E i) → Fr (tl [0, 410, 411]) σ1 σ' → ((1 : Int32) = 0 ∨ (1 : Int32) = 1) ∧ Q (vI 1) σ' := fun σ' k1 k2 => ⟨Or.inr rfl, h σ' k1 (hF1.trans k2)⟩
  rcases b6 with b6 | ⟨b6, b7, b8, b9⟩
  · have hl0 : (E j).length = 0 := by
      rw [b6] at b3
      have b3' : (E j).length ≤ hn σ1 510 0 := b3
      have := hf.1
      omega
    rw [b6, hl0]
    show (hn σ1 510 0 = 0 ∧ _)
    refine ⟨hf.1, ?_⟩
    rw [hf.1]
    refine br_t rfl ⟨by omega, by omega, by omega, ?_⟩
    refine Ec_of mo_Jx4a65c_grow_d5877.1 (Nat.le_of_ble_eq_true rfl) ?_
    refine sJx4a65c_grow_d5877_0 ?_
    unfold bJx4a65c_grow_d5877_0
    refine ⟨by omega, by omega, by omega, ?_⟩
    rw [b2, hl0, nI_1]
    refine sp_grow0 (by omega) (by rw [b1, b6]) hf.1 ?_
    show Ex _ _ _ m_Jx4a65c_add_72be8 11 [vR (some (0, j)), vR (some o), vR (some (410, hc σ1 410)), vI (nI 0)] [] (wR (nwA σ1 410 10) 0 j 1 (some (410, hc σ1 410))) _
    rw [show nI 0 = nI (E j).length by rw [hl0]]
    refine sp_add11 hf hj ho hlen (Fr.wR (Fr.nwA (Fr.rf _ _) (by decide) _) (by decide) _ _ _) ?_ ?_ ?_ ?_ ?_ ?_ fin
    · intro i hi hij
      refine ⟨?_, rfl⟩
      rw [hr_wR', if_neg (fun z => hij z.2.1)]
      rfl
    · intro i hi hij hne
      obtain ⟨-, -, -, -, -, d6⟩ := hf.2.1 i hi
      rcases d6 with d6 | ⟨d6, d7, d8, d9⟩
      · exact absurd d6 hne
      · have hn1 : ¬ ((f i).1 = 410 ∧ (f i).2 = hc σ1 410) := fun z => by
          have d7' : (f i).2 < hc σ1 410 := z.1 ▸ d7
          omega
        refine ⟨?_, ?_, ?_, ?_⟩
        · show hn (nwA σ1 410 10) (f i).1 (f i).2 = _
          rw [hn_nwA, if_neg hn1]
        · rw [hr_wR_ne]
          · rfl
          · rcases d6 with z | z <;> omega
        · show hc σ1 (f i).1 ≤ hc (nwA σ1 410 10) (f i).1
          rw [hc_nwA]
          split
          · rename_i z
            rw [z]
            omega
          · exact Nat.le_refl _
        · intro z
          exact hn1 ⟨congrArg Prod.fst z, congrArg Prod.snd z⟩
    · rw [hr_wR', if_pos ⟨rfl, rfl, rfl⟩]
    · show _ ≤ hn (nwA σ1 410 10) 410 (hc σ1 410)
      rw [hn_nwA, if_pos ⟨rfl, rfl⟩, hl0]
      decide
    · intro k hk
      omega
    · refine ⟨Or.inl rfl, ?_, ?_⟩
      · show hc σ1 410 < hc (nwA σ1 410 10) 410
        rw [hc_nwA, if_pos rfl]
        omega
      · show hn (nwA σ1 410 10) 410 (hc σ1 410) ≤ 1000
        rw [hn_nwA, if_pos ⟨rfl, rfl⟩]
        decide
  · have hal : alOk (f j) = true := by
      unfold alOk
      rcases b6 with e | e <;> rw [e] <;> rfl
    show (bif alOk (f j) then _ else _)
    rw [hal]
    refine ⟨fun c => ?_, fun c => ?_⟩
    · have hfull : (E j).length = hn σ1 (f j).1 (f j).2 := nI_inj (by omega) (by omega) c
      refine ⟨by omega, by omega, by omega, ?_⟩
      refine Ec_of mo_Jx4a65c_grow_d5877.1 (Nat.le_of_ble_eq_true rfl) ?_
      refine sJx4a65c_grow_d5877_0 ?_
      unfold bJx4a65c_grow_d5877_0
      refine ⟨by omega, by omega, by omega, ?_⟩
      rw [b2, nI_1]
      obtain ⟨c1, c2, c3, c4, c5, c6, c7, c8, c9⟩ := capI_ok (E j).length hlen (by omega)
      refine sp_grow1 (by omega) b1 b6 b7 hfull.symm (by omega) hlen ?_ ?_
      · intro i hi z hz
        rw [b4 i hi] at hz
        exact b5 z (List.mem_of_getElem? hz)
      show Ex _ _ _ m_Jx4a65c_add_72be8 11 [vR (some (0, j)), vR (some o), vR (some (411, hc σ1 411)), vI (nI (E j).length)] [] (wR (cpR (nwA σ1 411 (capI (E j).length).toNatClampNeg) (f j) 0 (411, hc σ1 411) 0 (E j).length) 0 j 1 (some (411, hc σ1 411))) _
      refine sp_add11 hf hj ho hlen (Fr.wR (Fr.cpR (Fr.nwA (Fr.rf _ _) (by decide) _) _ _ _ _ _ rfl) (by decide) _ _ _) ?_ ?_ ?_ ?_ ?_ ?_ fin
      · intro i hi hij
        refine ⟨?_, rfl⟩
        rw [hr_wR', if_neg (fun z => hij z.2.1), hr_cpR_ne]
        · rfl
        · show 0 ≠ 411
          decide
      · intro i hi hij hne
        obtain ⟨-, -, -, -, -, d6⟩ := hf.2.1 i hi
        rcases d6 with d6 | ⟨d6, d7, d8, d9⟩
        · exact absurd d6 hne
        · have hn1 : ¬ ((f i).1 = 411 ∧ (f i).2 = hc σ1 411) := fun z => by
            have d7' : (f i).2 < hc σ1 411 := z.1 ▸ d7
            omega
          refine ⟨?_, ?_, ?_, ?_⟩
          · show hn (nwA σ1 411 _) (f i).1 (f i).2 = _
            rw [hn_nwA, if_neg hn1]
          · rw [hr_wR_ne]
            · funext k
              rw [hr_cpR', if_neg (fun z => hn1 ⟨z.1, z.2.1⟩)]
              rfl
            · rcases d6 with z | z <;> omega
          · show hc σ1 (f i).1 ≤ hc (nwA σ1 411 0) (f i).1
            rw [hc_nwA]
            split
            · rename_i z
              rw [z]
              omega
            · exact Nat.le_refl _
          · intro z
            exact hn1 ⟨congrArg Prod.fst z, congrArg Prod.snd z⟩
      · rw [hr_wR', if_pos ⟨rfl, rfl, rfl⟩]
      · show _ ≤ hn (nwA σ1 411 _) 411 (hc σ1 411)
        rw [hn_nwA, if_pos ⟨rfl, rfl⟩]
        exact c5
      · intro k hk
        rw [hr_wR', if_neg (fun z => by have := z.1; omega), hr_cpR', if_pos ⟨rfl, rfl, Nat.zero_le _, by omega⟩, Nat.zero_add, Nat.sub_zero]
        show hr σ1 (f j).1 (f j).2 k = _
        exact b4 k hk
      · refine ⟨Or.inr rfl, ?_, ?_⟩
        · show hc σ1 411 < hc (nwA σ1 411 0) 411
          rw [hc_nwA, if_pos rfl]
          omega
        · show hn (nwA σ1 411 _) 411 (hc σ1 411) ≤ 1000
          rw [hn_nwA, if_pos ⟨rfl, rfl⟩]
          omega
    · have hlt : (E j).length < hn σ1 (f j).1 (f j).2 := by
        rcases Nat.lt_or_ge (E j).length (hn σ1 (f j).1 (f j).2) with z | z
        · exact z
        · exfalso
          apply c
          show nI (E j).length = nI (hn σ1 (f j).1 (f j).2)
          rw [show (E j).length = hn σ1 (f j).1 (f j).2 by omega]
      refine sp_add11 hf hj ho hlen (Fr.rf _ _) (fun _ _ _ => ⟨rfl, rfl⟩) ?_ b1 hlt b4 ⟨b6, b7, b9⟩ fin
      intro i hi hij hne
      exact ⟨rfl, rfl, Nat.le_refl _, (hf.2.2 i j hi hj hij).resolve_left hne⟩
/-! ===== filling a row ===== -/
theorem lp_fill {d rc rs s i n : Nat} {x : Int32} {Q : XV → XH → Prop} (hs : 100 ≤ s ∧ s < 200) (hn0 : n < 100000) : ∀ (m k : Nat) (σ : XH), k + m = n → hn σ s i = n → (∀ σ', Fi (tl [s]) σ σ' → (∀ i', i' ≠ i → hi σ' s i' = hi σ s i') → (∀ j, k ≤ j → j < n → hi σ' s i j = x) → (∀ j, j < k → hi σ' s i j = hi σ s i j) → Q vU σ') → Ex d rc rs m_J7_fill_53178 5 [vR (some (s, i)), vI x, vI (nI k), vI (nI n)] [] σ Q := by
  intro m
  induction m with
  | zero =>
    intro k σ hk hl h
    have e : k = n := by omega
    subst e
    refine sJ7_fill_53178_5 ?_
    unfold bJ7_fill_53178_5
    refine br_f (nI_nlt (Nat.le_refl _) (by omega)) ?_
    exact h σ (Fi.rf _ _) (fun _ _ => rfl) (fun j h1 h2 => by omega) (fun _ _ => rfl)
  | succ m ih =>
    intro k σ hk hl h
    refine sJ7_fill_53178_5 ?_
    unfold bJ7_fill_53178_5
    refine br_t (nI_lt (by omega) (by omega)) ?_
    have hg : (isIo (s, i) && Nat.blt s 500) = true := by
      have h1 : Nat.blt s 200 = true := Nat.ble_eq_true_of_le hs.2
      have h2 : Nat.ble 100 s = true := Nat.ble_eq_true_of_le hs.1
      have h3 : Nat.blt s 500 = true := Nat.ble_eq_true_of_le (show s + 1 ≤ 500 by omega)
      show ((bif Nat.blt s 200 then Nat.ble 100 s else _) && Nat.blt s 500) = true
      rw [h1, h2, h3]
      rfl
    show (bif (isIo (s, i) && Nat.blt s 500) then _ else _)
    rw [hg]
    refine ⟨?_, ?_⟩
    · show vp_in (nI k) (hn σ s i)
      rw [hl]
      exact vp_in_nI (by omega) (by omega)
    · intro h2 e2
      rw [nI_clamp (by omega)] at e2
      have e2' : h2 = wI σ s i k x := e2
      subst e2'
      rw [nI_1]
      refine ih (k + 1) _ (by omega) hl ?_
      intro σ' k1 k2 k3 k4
      refine h σ' ((Fi.wI (Fi.rf _ _) (show tl [s] s = true from by simp [tl]) _ _ _).trans k1) (fun i' hi' => ?_) (fun j h1 h2 => ?_) (fun j h1 => ?_)
      · rw [k2 i' hi']
        funext q
        rw [hi_wI_i]
        exact hi'
      · by_cases ej : j = k
        · rw [k4 j (by omega), ej, hi_wI_eq]
        · exact k3 j (by omega) h2
      · rw [k4 j (by omega), hi_wI_k]
        omega
theorem sp_fill {d s i n : Nat} {x : Int32} {σ : XH} {Q : XV → XH → Prop} (hs : 100 ≤ s ∧ s < 200) (hn0 : n < 100000) (hl : hn σ s i = n) (h : ∀ σ', Fi (tl [s]) σ σ' → (∀ i', i' ≠ i → hi σ' s i' = hi σ s i') → (∀ j, j < n → hi σ' s i j = x) → Q vU σ') : Ec d 0 0 m_J7_fill_53178 [vR (some (s, i)), vI x] σ Q := by
  refine Ec_of mo_J7_fill_53178.1 (Nat.le_of_ble_eq_true rfl) ?_
  refine sJ7_fill_53178_0 ?_
  unfold bJ7_fill_53178_0
  have hg : alOk (s, i) = true := by
    have h2 : Nat.ble 100 s = true := Nat.ble_eq_true_of_le hs.1
    have h3 : Nat.blt s 500 = true := Nat.ble_eq_true_of_le (show s + 1 ≤ 500 by omega)
    show ((Nat.ble 100 s && Nat.blt s 500) || _) = true
    rw [h2, h3]
    rfl
  show (bif alOk (s, i) then _ else _)
  rw [hg]
  show Ex d 0 0 m_J7_fill_53178 5 [vR (some (s, i)), vI x, vI 0, vI (nI (hn σ s i))] [] σ Q
  rw [hl, ← nI_0]
  refine lp_fill hs hn0 n 0 σ (by omega) hl ?_
  intro σ' k1 k2 k3 k4
  exact h σ' k1 k2 (fun j hj => k3 j (Nat.zero_le _) hj)
