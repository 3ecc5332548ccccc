/-! ===== the stars of a clock are kept in their order ===== -/
theorem StA.ext {a b a' b' : Nat → Int32} {n : Nat} {S : SS} {c N : Nat} (h : StA a b n S c N) (ha : ∀ i, i < n → a' i = a i) (hb : ∀ i, i < n → b' i = b i) : StA a' b' n S c N := by
  obtain ⟨h1, h2, h3, h4⟩ := h
  refine ⟨h1, fun i j hij hj => ?_, fun i hi_ => ?_, fun r hr_ hs => ?_⟩
  · rw [ha i (by omega), ha j hj]
    exact h2 i j hij hj
  · obtain ⟨r, r1, r2, r3, r4, r5⟩ := h3 i hi_
    exact ⟨r, r1, r2, by rw [ha i hi_]; exact r3, by rw [hb i hi_]; exact r4, by rw [ha i hi_]; exact r5⟩
  · obtain ⟨i, i1, i2⟩ := h4 r hr_ hs
    exact ⟨i, i1, by rw [ha i i1]; exact i2⟩
theorem StA.skip {a b : Nat → Int32} {n : Nat} {S : SS} {c k : Nat} (h : StA a b n S c k) (hk : ¬ isStar S (nI k) (nI c)) : StA a b n S c (k + 1) := by
  obtain ⟨h1, h2, h3, h4⟩ := h
  refine ⟨h1, h2, fun i hi_ => ?_, fun r hr_ hs => ?_⟩
  · obtain ⟨r, r1, r2, r3, r4, r5⟩ := h3 i hi_
    refine ⟨r, by omega, r2, r3, r4, fun r' g1 g2 g3 => ?_⟩
    by_cases e : r' = k
    · rw [e] at g3
      exact absurd g3 hk
    · exact r5 r' g1 (by omega) g3
  · by_cases e : r = k
    · rw [e] at hs
      exact absurd hs hk
    · exact h4 r (by omega) hs
theorem StA.rep {a b : Nat → Int32} {n : Nat} {S : SS} {c k i0 : Nat} {t : Int32} (h : StA a b n S c k) (hk : isStar S (nI k) (nI c)) (hi0 : i0 < n) (ex : S 123 k = a i0) (et : S 124 k = t) : StA a (fun i => if i = i0 then t else b i) n S c (k + 1) := by
  obtain ⟨h1, h2, h3, h4⟩ := h
  refine ⟨h1, h2, fun i hi_ => ?_, fun r hr_ hs => ?_⟩
  · by_cases e : i = i0
    · subst e
      simp only [if_true]
      exact ⟨k, by omega, hk, ex, et, fun r' g1 g2 => by omega⟩
    · simp only [e, if_false]
      obtain ⟨r, r1, r2, r3, r4, r5⟩ := h3 i hi_
      refine ⟨r, by omega, r2, r3, r4, fun r' g1 g2 g3 g4 => ?_⟩
      by_cases e2 : r' = k
      · rw [e2, ex] at g4
        rcases Nat.lt_or_ge i i0 with z | z
        · have := h2 i i0 z hi0
          rw [g4] at this
          omega
        · have := h2 i0 i (by omega) hi_
          rw [g4] at this
          omega
      · exact r5 r' g1 (by omega) g3 g4
  · by_cases e : r = k
    · exact ⟨i0, hi0, by rw [e, ex]⟩
    · exact h4 r (by omega) hs
theorem StA.ins {a b : Nat → Int32} {n : Nat} {S : SS} {c k m : Nat} {x t : Int32} (h : StA a b n S c k) (hn : n < 90) (hk : isStar S (nI k) (nI c)) (hm : m ≤ n) (ex : S 123 k = x) (et : S 124 k = t) (h1 : ∀ i, i < m → (a i).toInt < x.toInt) (h2 : ∀ i, m ≤ i → i < n → x.toInt < (a i).toInt) : StA (fun i => if i < m then a i else if i = m then x else a (i - 1)) (fun i => if i < m then b i else if i = m then t else b (i - 1)) (n + 1) S c (k + 1) := by
  obtain ⟨g1, g2, g3, g4⟩ := h
  -- an old one in its new place
  have old : ∀ i, i < n → ∃ r, r < k + 1 ∧ isStar S (nI r) (nI c) ∧ S 123 r = a i ∧ S 124 r = b i ∧ ∀ r', r < r' → r' < k + 1 → isStar S (nI r') (nI c) → ¬ S 123 r' = a i := fun i hi_ => by
    obtain ⟨r, r1, r2, r3, r4, r5⟩ := g3 i hi_
    refine ⟨r, by omega, r2, r3, r4, fun r' q1 q2 q3 q4 => ?_⟩
    by_cases e2 : r' = k
    · rw [e2, ex] at q4
      rcases Nat.lt_or_ge i m with z | z
      · have := h1 i z
        rw [q4] at this
        omega
      · have := h2 i z hi_
        rw [q4] at this
        omega
    · exact r5 r' q1 (by omega) q3 q4
  refine ⟨by omega, fun i j hij hj => ?_, fun i hi_ => ?_, fun r hr_ hs => ?_⟩
  · show (if i < m then a i else if i = m then x else a (i - 1)).toInt < (if j < m then a j else if j = m then x else a (j - 1)).toInt
    by_cases c1 : j < m
    · rw [if_pos (by omega), if_pos c1]
      exact g2 i j hij (by omega)
    · rw [if_neg c1]
      by_cases c2 : j = m
      · rw [if_pos c2, if_pos (by omega)]
        exact h1 i (by omega)
      · rw [if_neg c2]
        by_cases c3 : i < m
        · rw [if_pos c3]
          exact g2 i (j - 1) (by omega) (by omega)
        · rw [if_neg c3]
          by_cases c4 : i = m
          · rw [if_pos c4]
            exact h2 (j - 1) (by omega) (by omega)
          · rw [if_neg c4]
            exact g2 (i - 1) (j - 1) (by omega) (by omega)
  · by_cases c1 : i < m
    · simp only [c1, if_true]
      exact old i (by omega)
    · by_cases c2 : i = m
      · simp only [c1, c2, if_true, if_false, Nat.lt_irrefl]
        exact ⟨k, by omega, hk, ex, et, fun r' q1 q2 => by omega⟩
      · simp only [c1, c2, if_false]
        exact old (i - 1) (by omega)
  · by_cases e : r = k
    · refine ⟨m, by omega, ?_⟩
      simp only [Nat.lt_irrefl, if_false, if_true]
      rw [e, ex]
    · obtain ⟨i, i1, i2⟩ := g4 r (by omega) hs
      by_cases c1 : i < m
      · refine ⟨i, by omega, ?_⟩
        simp only [c1, if_true]
        exact i2
      · refine ⟨i + 1, by omega, ?_⟩
        simp only [show ¬ i + 1 < m by omega, show ¬ i + 1 = m by omega, if_false, Nat.add_sub_cancel]
        exact i2
/-- one clock's cells change, no other's -/
def F1 (c : Nat) (σ σ' : XH) : Prop := Fi (tl [2, 101, 102]) σ σ' ∧ (∀ c', c' ≠ c → hi σ' 2 c' = hi σ 2 c' ∧ hi σ' 101 c' = hi σ 101 c' ∧ hi σ' 102 c' = hi σ 102 c') ∧ ∀ k, k ≠ 4 → hi σ' 2 c k = hi σ 2 c k
theorem F1.rf (c : Nat) (σ : XH) : F1 c σ σ := ⟨Fi.rf _ _, fun _ _ => ⟨rfl, rfl, rfl⟩, fun _ _ => rfl⟩
theorem F1.trans {c : Nat} {a b d : XH} (h : F1 c a b) (k : F1 c b d) : F1 c a d := ⟨h.1.trans k.1, fun c' hc => ⟨(k.2.1 c' hc).1.trans (h.2.1 c' hc).1, (k.2.1 c' hc).2.1.trans (h.2.1 c' hc).2.1, (k.2.1 c' hc).2.2.trans (h.2.1 c' hc).2.2⟩, fun j hj => (k.2.2 j hj).trans (h.2.2 j hj)⟩
theorem hi_wI_if (σ : XH) (s i k : Nat) (x : Int32) {i' : Nat} (h : i' ≠ i) : hi (wI σ s i k x) s i' = hi σ s i' := funext fun q => hi_wI_i σ s i k x h
theorem F1.w101 (c : Nat) (σ : XH) (k : Nat) (x : Int32) : F1 c σ (wI σ 101 c k x) := ⟨Fi.wI (Fi.rf _ _) (by decide) _ _ _, fun c' hc => ⟨by rw [hi_wI_ne _ _ _ _ (by decide)], hi_wI_if _ _ _ _ _ hc, by rw [hi_wI_ne _ _ _ _ (by decide)]⟩, fun j _ => by rw [hi_wI_ne _ _ _ _ (by decide)]⟩
theorem F1.w102 (c : Nat) (σ : XH) (k : Nat) (x : Int32) : F1 c σ (wI σ 102 c k x) := ⟨Fi.wI (Fi.rf _ _) (by decide) _ _ _, fun c' hc => ⟨by rw [hi_wI_ne _ _ _ _ (by decide)], by rw [hi_wI_ne _ _ _ _ (by decide)], hi_wI_if _ _ _ _ _ hc⟩, fun j _ => by rw [hi_wI_ne _ _ _ _ (by decide)]⟩
theorem F1.w2 (c : Nat) (σ : XH) (x : Int32) : F1 c σ (wI σ 2 c 4 x) := ⟨Fi.wI (Fi.rf _ _) (by decide) _ _ _, fun c' hc => ⟨hi_wI_if _ _ _ _ _ hc, by rw [hi_wI_ne _ _ _ _ (by decide)], by rw [hi_wI_ne _ _ _ _ (by decide)]⟩, fun j hj => hi_wI_k _ _ _ _ _ hj⟩
theorem lp_addStar {d rc rs c n m : Nat} {x t : Int32} {σ : XH} {Q : XV → XH → Prop} (l2 : hr σ 2 c 2 = some (101, c)) (l3 : hr σ 2 c 3 = some (102, c)) (n1 : hn σ 101 c = 90) (n2 : hn σ 102 c = 90) (hn90 : n < 90) (hm : m ≤ n) (e4 : hi σ 2 c 4 = nI n)
    (h : ∀ σ', F1 c σ σ' → hi σ' 2 c 4 = nI (n + 1) → (∀ j, j < n + 1 → hi σ' 101 c j = if j < m then hi σ 101 c j else if j = m then x else hi σ 101 c (j - 1)) → (∀ j, j < n + 1 → hi σ' 102 c j = if j < m then hi σ 102 c j else if j = m then t else hi σ 102 c (j - 1)) → Q vU σ') :
    ∀ (p i : Nat) (σ1 : XH), i = m + p → i ≤ n → F1 c σ σ1 → hi σ1 2 c 4 = nI n → (∀ j, hi σ1 101 c j = if i < j ∧ j ≤ n then hi σ 101 c (j - 1) else hi σ 101 c j) → (∀ j, hi σ1 102 c j = if i < j ∧ j ≤ n then hi σ 102 c (j - 1) else hi σ 102 c j) → Ex d rc rs m_X1_addStar 44 [vR (some (2, c)), vI x, vI t, vI (nI m - 1), vI (nI i)] [] σ1 Q := by
  have em : nI m - 1 + 1 = nI m := by
    rw [Int32.sub_add_cancel]
  intro p
  induction p with
  | zero =>
    intro i σ1 hi_ hin hF h4 ha hb
    have e : i = m := by omega
    subst e
    have k2 : hr σ1 2 c 2 = some (101, c) := by rw [hF.1.r]; exact l2
    have k3 : hr σ1 2 c 3 = some (102, c) := by rw [hF.1.r]; exact l3
    have q1 : hn σ1 101 c = 90 := by rw [hF.1.n]; exact n1
    have q2 : hn σ1 102 c = 90 := by rw [hF.1.n]; exact n2
    have vm : vp_in (nI i) 90 := vp_in_nI (by omega) (by omega)
    refine sX1_addStar_44 ?_
    unfold bX1_addStar_44
    rw [em, nI_clamp (by omega)]
    refine br_f (i_lt_irr _) ⟨k2, vp_at q1 vm, ?_⟩
    intro g1 e1
    subst e1
    refine ⟨k3, vp_at q2 vm, ?_⟩
    intro g2 e2
    subst e2
    intro g3 e3
    rw [hi_wI_ne _ _ _ _ (by decide), hi_wI_ne _ _ _ _ (by decide), h4, nI_1] at e3
    subst e3
    refine h _ (((hF.trans (F1.w101 c _ _ _)).trans (F1.w102 c _ _ _)).trans (F1.w2 c _ _)) (hi_wI_eq _ _ _ _ _) (fun j hj => ?_) (fun j hj => ?_)
    · rw [hi_wI_ne _ _ _ _ (by decide), hi_wI_ne _ _ _ _ (by decide), hi_wI_at]
      by_cases c1 : j < i
      · rw [if_neg (fun z => by omega), if_pos c1, ha, if_neg (fun z => by omega)]
      · by_cases c2 : j = i
        · rw [if_pos ⟨rfl, c2⟩, if_neg c1, if_pos c2]
        · rw [if_neg (fun z => c2 z.2), if_neg c1, if_neg c2, ha, if_pos (by omega)]
    · rw [hi_wI_ne _ _ _ _ (by decide), hi_wI_at]
      have e102 : ∀ q, hi (wI σ1 101 c i x) 102 c q = hi σ1 102 c q := fun q => by rw [hi_wI_ne _ _ _ _ (by decide)]
      by_cases c1 : j < i
      · rw [if_neg (fun z => by omega), if_pos c1, e102, hb, if_neg (fun z => by omega)]
      · by_cases c2 : j = i
        · rw [if_pos ⟨rfl, c2⟩, if_neg c1, if_pos c2]
        · rw [if_neg (fun z => c2 z.2), if_neg c1, if_neg c2, e102, hb, if_pos (by omega)]
  | succ p ih =>
    intro i σ1 hi_ hin hF h4 ha hb
    have k2 : hr σ1 2 c 2 = some (101, c) := by rw [hF.1.r]; exact l2
    have k3 : hr σ1 2 c 3 = some (102, c) := by rw [hF.1.r]; exact l3
    have q1 : hn σ1 101 c = 90 := by rw [hF.1.n]; exact n1
    have q2 : hn σ1 102 c = 90 := by rw [hF.1.n]; exact n2
    obtain ⟨i', rfl⟩ : ∃ i', i = i' + 1 := ⟨i - 1, by omega⟩
    have vi : vp_in (nI (i' + 1)) 90 := vp_in_nI (by omega) (by omega)
    have vj : vp_in (nI i') 90 := vp_in_nI (by omega) (by omega)
    have emn : nI (i' + 1) + (-1) = nI i' := by
      rw [← nI_pred i', Int32.sub_eq_add_neg]
    refine sX1_addStar_44 ?_
    unfold bX1_addStar_44
    rw [em, nI_pred, emn, nI_clamp (by omega), nI_clamp (by omega)]
    refine br_t (nI_lt (by omega) (by omega)) ⟨k2, k2, vp_at q1 vj, vp_at q1 vi, ?_⟩
    intro g1 e1
    subst e1
    refine ⟨k3, k3, vp_at q2 vj, vp_at q2 vi, ?_⟩
    intro g2 e2
    subst e2
    refine ih i' _ (by omega) (by omega) ((hF.trans (F1.w101 c _ _ _)).trans (F1.w102 c _ _ _)) ?_ (fun j => ?_) (fun j => ?_)
    · rw [hi_wI_ne _ _ _ _ (by decide), hi_wI_ne _ _ _ _ (by decide)]
      exact h4
    · rw [hi_wI_ne _ _ _ _ (by decide), hi_wI_at]
      by_cases c1 : j = i' + 1
      · rw [if_pos ⟨rfl, c1⟩, if_pos (by omega), ha, if_neg (fun z => by omega), c1]
        rfl
      · rw [if_neg (fun z => c1 z.2), ha]
        by_cases c2 : i' + 1 < j ∧ j ≤ n
        · rw [if_pos c2, if_pos (by omega)]
        · rw [if_neg c2, if_neg (fun z => c2 (by omega))]
    · rw [hi_wI_at]
      have e102 : ∀ q, hi (wI σ1 101 c (i' + 1) (hi σ1 101 c i')) 102 c q = hi σ1 102 c q := fun q => by rw [hi_wI_ne _ _ _ _ (by decide)]
      by_cases c1 : j = i' + 1
      · rw [if_pos ⟨rfl, c1⟩, if_pos (by omega), e102, hb, if_neg (fun z => by omega), c1]
        rfl
      · rw [if_neg (fun z => c1 z.2), e102, hb]
        by_cases c2 : i' + 1 < j ∧ j ≤ n
        · rw [if_pos c2, if_pos (by omega)]
        · rw [if_neg c2, if_neg (fun z => c2 (by omega))]
/-- the stars of the first k readings -/
def StK (σ : XH) (S : SS) (c k : Nat) : Prop := ∃ n : Nat, n ≤ k ∧ hi σ 2 c 4 = nI n ∧ StA (hi σ 101 c) (hi σ 102 c) n S c k
theorem sp_X1_addStar {d c k : Nat} {x t : Int32} {S : SS} {σ : XH} {Q : XV → XH → Prop} (hd : 1 ≤ d) (l2 : hr σ 2 c 2 = some (101, c)) (l3 : hr σ 2 c 3 = some (102, c)) (n1 : hn σ 101 c = 90) (n2 : hn σ 102 c = 90) (hk90 : k < 90) (hS : StK σ S c k) (hk : isStar S (nI k) (nI c)) (ex : S 123 k = x) (et : S 124 k = t) (h : ∀ σ', F1 c σ σ' → StK σ' S c (k + 1) → Q vU σ') : Ec d 0 0 m_X1_addStar [vR (some (2, c)), vI x, vI t] σ Q := by
  obtain ⟨n, hnk, e4, hA⟩ := hS
  refine Ec_of mo_X1_addStar.1 (Nat.le_of_ble_eq_true rfl) ?_
  refine sX1_addStar_0 ?_
  unfold bX1_addStar_0
  refine ⟨by omega, ?_⟩
  refine sp_last e4 (by omega) l2 n1 (fun m m1 m2 m3 => ?_)
  -- the place is new
  have ins : (∀ i, i < m → (hi σ 101 c i).toInt < x.toInt) → Ex d 0 0 m_X1_addStar 28 [vR (some (2, c)), vI x, vI t, vI (nI m - 1), vU] [] σ Q := fun h1 => by
    have h2 : ∀ i, m ≤ i → i < n → x.toInt < (hi σ 101 c i).toInt := fun i q1 q2 => by
      have := m3 (by omega)
      rw [fa_lt] at this
      by_cases e : m = i
      · rw [← e]; exact this
      · have := hA.2.1 m i (by omega) q2
        omega
    refine sX1_addStar_28 ?_
    unfold bX1_addStar_28
    rw [e4]
    refine br_t (nI_lt (b := 90) (by omega) (by omega)) ?_
    refine lp_addStar (m := m) (n := n) l2 l3 n1 n2 (by omega) m1 e4 ?_ (n - m) n σ (by omega) (Nat.le_refl _) (F1.rf _ _) e4 (fun j => by rw [if_neg (fun z => by omega)]) (fun j => by rw [if_neg (fun z => by omega)])
    intro σ' k1 k2 k3 k4
    exact h σ' k1 ⟨n + 1, by omega, k2, (hA.ins (by omega) hk m1 ex et h1 h2).ext k3 k4⟩
  refine ⟨fun z => ?_, fun z => ?_⟩
  · have e0 : m = 0 := Classical.byContradiction fun q => by
      obtain ⟨m', rfl⟩ : ∃ m', m = m' + 1 := ⟨m - 1, by omega⟩
      rw [nI_pred] at z
      exact nI_pos (by omega) z
    exact ins (fun i q => by omega)
  · have m0 : 0 < m := Nat.pos_of_ne_zero fun q => by
      rw [q] at z
      exact z (by decide)
    obtain ⟨m', rfl⟩ : ∃ m', m = m' + 1 := ⟨m - 1, by omega⟩
    rw [nI_pred] at ins ⊢
    have vm : vp_in (nI m') 90 := vp_in_nI (by omega) (by omega)
    refine ⟨l2, vp_at n1 vm, fun q => ?_, fun q => ?_⟩
    · rw [nI_clamp (by omega)] at q ⊢
      refine ⟨l3, vp_at n2 vm, ?_⟩
      intro g1 e1
      subst e1
      refine h _ (F1.w102 c _ _ _) ⟨n, by omega, by rw [hi_wI_ne _ _ _ _ (by decide)]; exact e4, ?_⟩
      refine (hA.rep (i0 := m') hk (by omega) (by rw [ex]; exact q.symm) et).ext (fun i _ => by rw [hi_wI_ne _ _ _ _ (by decide)]) (fun i _ => ?_)
      rw [hi_wI_at]
      by_cases e : i = m'
      · rw [if_pos ⟨rfl, e⟩, if_pos e]
      · rw [if_neg (fun z => e z.2), if_neg e]
    · rw [nI_clamp (by omega)] at q
      refine ins (fun i q2 => ?_)
      have w1 := m2 m' (by omega)
      rw [fa_lt] at w1
      rw [fa_eq] at q
      by_cases e : i = m'
      · rw [e]
        omega
      · have := hA.2.1 i m' (by omega) (by omega)
        omega
