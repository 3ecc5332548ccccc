/-! ===== the reference: rule, ruleOn, look, ruled ===== -/
def tx (S : SS) (k : Nat) : Nat → Int32 := fun j => S 136 (140 * k + j)
def nTx (S : SS) (k : Nat) : Nat := (S 137 k).toNatClampNeg
/-- the rules that there are: their texts are whole -/
def RuI (S : SS) : Prop := ∀ k, k < nRu S → S 137 k = nI (nTx S k) ∧ nTx S k ≤ 140 ∧ (∀ j, j < nTx S k → inP (tx S k j) (-128) 127) ∧ (gA (tx S k) (nTx S k)).1 = true
def TxI (S : SS) : Prop := ∀ k, k < nFd S → inP (S 136 (1680 + k)) (-128) 127
def rA : Nat → Bool := tl [134, 135, 136, 137, 138, 139, 140, 300]
def rK : Nat → Bool := tl [25, 26, 31, 32, 33, 34, 35, 36, 37, 40, 41, 42, 43, 46, 47, 48]
theorem e140 {w : Nat} (hw : w < 13) : (140 : Int32) * nI w = nI (140 * w) := by
  have : ∀ w, w < 13 → (140 : Int32) * nI w = nI (140 * w) := by decide +kernel
  exact this w hw
theorem lp_rcopy {d rc rs k n : Nat} {h dd : Int32} {σ : XH} {S : SS} {Q : XV → XH → Prop} (hM : MI σ) (hk : k < 12) (hn : n ≤ 140)
    (hQ : ∀ S', SA (tl [134, 135, 136]) (tl [25]) S S' → S' 12 25 = nI (k + 1) → (∀ j, S' 136 j = if 140 * k ≤ j ∧ j < 140 * k + n then S 136 (1680 + (j - 140 * k)) else S 136 j) → (∀ j, S' 134 j = if j = k then h else S 134 j) → (∀ j, S' 135 j = if j = k then dd else S 135 j) → Q (vI (nI k)) (up σ S')) :
    ∀ (m i : Nat) (T : SS), i + m = n → SA (tl [136]) (tl []) S T → T 137 12 = nI n → T 12 25 = nI k → (∀ j, T 136 j = if 140 * k ≤ j ∧ j < 140 * k + i then S 136 (1680 + (j - 140 * k)) else S 136 j) → Ex d rc rs m_X11_rule 104 [vR (some (12, 0)), vI h, vI dd, vI (nI i)] [] (up σ T) Q := by
  intro m
  induction m with
  | zero =>
    intro i T him t hz h25 hc
    refine sX11_rule_104 ?_
    unfold bX11_rule_104
    have e137 : hi (up σ T) 137 0 (12 : Int32).toNatClampNeg = nI n := hz
    have e25 : hi (up σ T) 12 0 25 = nI k := h25
    rw [e137, e25, nI_clamp (by omega)]
    refine ⟨hM.r137, vp_at hM.n137 (vp_in_nI (n := 12) (by omega) (by omega)), fun z => ?_, fun _ => ⟨hM.r134, vp_at hM.n134 (vp_in_nI hk (by omega)), ?_⟩⟩
    · have := (c_lt (by omega) (by omega)).mp z
      omega
    · intro g1 e1
      rw [wI_up _ _ rfl] at e1
      have e25' : hi g1 12 0 25 = nI k := by
        rw [e1, hi_up _ _ rfl, up2_s _ _ _ (by decide)]
        exact h25
      rw [e25', nI_clamp (by omega)]
      refine ⟨by rw [e1]; exact hM.r135, by rw [e1]; exact vp_at hM.n135 (vp_in_nI hk (by omega)), ?_⟩
      intro g2 e2 g3 e3
      rw [e1, wI_up _ _ rfl] at e2
      rw [e2, hi_up _ _ rfl, up2_s _ _ _ (show 12 ≠ 135 by decide), up2_s _ _ _ (show 12 ≠ 134 by decide), h25, nI_1, wI_up _ _ rfl] at e3
      have ef : hi g3 12 0 25 - 1 = nI k := by
        rw [e3, hi_up _ _ rfl, up2_eq, nI_pred]
      rw [ef, e3]
      have t' : SA (tl [134, 135, 136]) (tl [25]) S T := SA.sub t (tl_sub (by decide)) (tl_sub (by decide))
      have a134 : T 134 = S 134 := SA.a t (by decide) rfl
      have a135 : T 135 = S 135 := SA.a t (by decide) rfl
      refine hQ _ (((t'.wa k h (by decide) rfl).wa k dd (by decide) rfl).wk 25 _ rfl) (up2_eq _ _ _ _) (fun j => ?_) (fun j => ?_) (fun j => ?_)
      · rw [up2_s _ _ _ (show 136 ≠ 12 by decide), up2_s _ _ _ (show 136 ≠ 135 by decide), up2_s _ _ _ (show 136 ≠ 134 by decide), hc j]
        have : i = n := by omega
        rw [this]
      · rw [up2_s _ _ _ (show 134 ≠ 12 by decide), up2_s _ _ _ (show 134 ≠ 135 by decide), up2_at, a134]
      · rw [up2_s _ _ _ (show 135 ≠ 12 by decide), up2_at]
        split
        · rfl
        · rw [up2_s _ _ _ (show 135 ≠ 134 by decide), a135]
  | succ m ih =>
    intro i T him t hz h25 hc
    refine sX11_rule_104 ?_
    unfold bX11_rule_104
    have e137 : hi (up σ T) 137 0 (12 : Int32).toNatClampNeg = nI n := hz
    have e25 : hi (up σ T) 12 0 25 = nI k := h25
    have q1 : (1680 : Int32) + nI i = nI (1680 + i) := nI_add 1680 i
    rw [e137, e25, e140 (by omega), q1, nI_add, nI_clamp (n := 1680 + i) (by omega), nI_clamp (n := 140 * k + i) (by omega)]
    refine ⟨hM.r137, vp_at hM.n137 (vp_in_nI (n := 12) (by omega) (by omega)), fun _ => ⟨hM.r136, hM.r136, vp_at hM.n136 (vp_in_nI (by omega) (by omega)), vp_at hM.n136 (vp_in_nI (by omega) (by omega)), ?_⟩, fun z => absurd ((c_lt (n := i) (N := n) (by omega) (by omega)).mpr (by omega)) z⟩
    intro g e
    rw [hi_up _ _ rfl, wI_up _ _ rfl] at e
    rw [e, nI_1]
    refine ih (i + 1) _ (by omega) (t.wa _ _ (by decide) rfl) ?_ ?_ (fun j => ?_)
    · rw [up2_s _ _ _ (show 137 ≠ 136 by decide)]
      exact hz
    · rw [up2_s _ _ _ (show 12 ≠ 136 by decide)]
      exact h25
    · rw [up2_at]
      have e1680 : T 136 (1680 + i) = S 136 (1680 + i) := by
        rw [hc, if_neg (by omega)]
      by_cases c : j = 140 * k + i
      · rw [if_pos c, if_pos (by omega), e1680]
        have : 1680 + (j - 140 * k) = 1680 + i := by omega
        rw [this]
      · rw [if_neg c, hc j]
        by_cases c2 : 140 * k ≤ j ∧ j < 140 * k + i
        · rw [if_pos c2, if_pos (by omega)]
        · rw [if_neg c2, if_neg (by omega)]
theorem sp_X11_rule {d : Nat} {h dd : Int32} {σ : XH} {S : SS} {Q : XV → XH → Prop} (hd : 9 ≤ d) (hM : MI σ) (hI : SInv S)
    (q1 : ¬ inP h 0 2 → Q (vI (-1)) (up σ S)) (q2 : inP h 0 2 → ¬ inP dd 0 9999 → Q (vI (-2)) (up σ S)) (q3 : inP h 0 2 → inP dd 0 9999 → nRu S = 12 → Q (vI (-4)) (up σ S))
    (q4 : inP h 0 2 → inP dd 0 9999 → nRu S < 12 → (gA (tx S 12) (nFd S)).1 = false → ∀ S', SA rA rK S S' → S' 12 25 = S 12 25 → S' 12 26 = 0 → S' 134 = S 134 → S' 135 = S 135 → S' 136 = S 136 → (∀ j, j < 12 → S' 137 j = S 137 j) → Q (vI (-10 - nI (gA (tx S 12) (nFd S)).2.1)) (up σ S'))
    (q5 : inP h 0 2 → inP dd 0 9999 → nRu S < 12 → (gA (tx S 12) (nFd S)).1 = true → ∀ S', SA rA rK S S' → S' 12 25 = nI (nRu S + 1) → S' 12 26 = 0 → (∀ j, S' 136 j = if 140 * nRu S ≤ j ∧ j < 140 * nRu S + nFd S then S 136 (1680 + (j - 140 * nRu S)) else S 136 j) → (∀ j, j < 12 → S' 137 j = if j = nRu S then nI (nFd S) else S 137 j) → (∀ j, S' 134 j = if j = nRu S then h else S 134 j) → (∀ j, S' 135 j = if j = nRu S then dd else S 135 j) → Q (vI (nI (nRu S))) (up σ S')) : Ec d 0 0 m_X11_rule [vR (some (12, 0)), vI h, vI dd] (up σ S) Q := by
  have h25 := hI.n25
  have l25 := hI.l25
  have h26 := hI.n26
  have l26 := hI.l26
  refine Ec_of mo_X11_rule.1 (Nat.le_of_ble_eq_true rfl) ?_
  refine sX11_rule_0 ?_
  unfold bX11_rule_0
  refine ⟨by omega, sp_X11_isHouse (by omega) (fun c1 => br_f (by decide) ⟨by omega, sp_X11_isDay (by omega) (fun c2 => br_f (by decide) ?_) (fun c2 => br_t rfl (q2 c1 c2))⟩) (fun c1 => br_t rfl (q1 c1))⟩
  have e25 : hi (up σ S) 12 0 25 = nI (nRu S) := h25
  have e26 : hi (up σ S) 12 0 26 = nI (nFd S) := h26
  rw [e25, e26]
  refine ⟨fun z => q3 c1 c2 (nI_inj (b := 12) (by omega) (by omega) z), fun z => ⟨hM.r137, vp_at hM.n137 (vp_in_nI (n := 12) (by omega) (by omega)), ?_⟩⟩
  have hlt : nRu S < 12 := by
    rcases Nat.lt_or_ge (nRu S) 12 with q | q
    · exact q
    · exact absurd (by rw [show nRu S = 12 by omega]; rfl) z
  intro g1 e1 g2 e2
  rw [show (12 : Int32).toNatClampNeg = 12 by decide, wI_up _ _ rfl] at e1
  rw [e1, wI_up _ _ rfl] at e2
  rw [e2]
  -- facts are wiped
  have lp : ∀ (m i : Nat) (T : SS), i + m = 5 → SA (tl [139]) (tl []) (up2 (up2 S 137 12 (nI (nFd S))) 12 26 0) T → Ex d 0 0 m_X11_rule 51 [vR (some (12, 0)), vI h, vI dd, vI (nI i)] [] (up σ T) Q := by
    intro m
    induction m with
    | succ m ih =>
      intro i T him t
      refine sX11_rule_51 ⟨fun _ => ⟨hM.r139, vp_at hM.n139 (vp_in_nI (by omega) (by omega)), ?_⟩, fun z => absurd ((c_lt (n := i) (N := 5) (by omega) (by omega)).mpr (by omega)) z⟩
      intro g e
      rw [nI_clamp (by omega), wI_up _ _ rfl] at e
      rw [e, nI_1]
      exact ih (i + 1) _ (by omega) (t.wa i 0 (by decide) rfl)
    | zero =>
      intro i T him t
      have t0 : SA rA rK S (up2 (up2 S 137 12 (nI (nFd S))) 12 26 0) := ((SA.rf _ _ S).wa _ _ (by decide) rfl).wk _ _ rfl
      have tT : SA rA rK S T := SA.trans t0 (SA.sub t (tl_sub (by decide)) (tl_sub (by decide)))
      have z137 : ∀ j, T 137 j = if j = 12 then nI (nFd S) else S 137 j := fun j => by
        rw [SA.a t (s := 137) (by decide) rfl, up2_s _ _ _ (show 137 ≠ 12 by decide), up2_at]
      have z136 : T 136 = S 136 := by
        rw [SA.a t (s := 136) (by decide) rfl, up2_s _ _ _ (show 136 ≠ 12 by decide), up2_s _ _ _ (show 136 ≠ 137 by decide)]
      have z134 : T 134 = S 134 := by
        rw [SA.a t (s := 134) (by decide) rfl, up2_s _ _ _ (show 134 ≠ 12 by decide), up2_s _ _ _ (show 134 ≠ 137 by decide)]
      have z135 : T 135 = S 135 := by
        rw [SA.a t (s := 135) (by decide) rfl, up2_s _ _ _ (show 135 ≠ 12 by decide), up2_s _ _ _ (show 135 ≠ 137 by decide)]
      have z26 : T 12 26 = 0 := by
        rw [SA.k t (j := 26) rfl, up2_eq]
      have z25 : T 12 25 = nI (nRu S) := by
        rw [SA.k t (j := 25) rfl, up2_k _ _ _ (by decide), up2_s _ _ _ (show 12 ≠ 137 by decide)]
        exact h25
      refine sX11_rule_51 ⟨fun z => ?_, fun _ => ⟨by omega, ?_⟩⟩
      · have := (c_lt (n := i) (N := 5) (by omega) (by omega)).mp z
        omega
      refine sp_X11_goes (w := 12) (n := nFd S) (ch := tx S 12) (ev := evT T) (by omega) hM (by omega) (by rw [z137]; rfl) l26 (fun k _ => by rw [z136]; rfl) rfl (fun k S1 t1 e42 m1 => br_f (by decide) ?_) (fun k S1 t1 e42 => br_t rfl ?_)
      · have tS1 : SA rA rK S S1 := SA.trans tT (SA.sub t1 (tl_sub (by decide)) (tl_sub (by decide)))
        have y137 : S1 137 = T 137 := SA.a t1 (by decide) rfl
        have y25 : hi (up σ S1) 12 0 25 = nI (nRu S) := (SA.k t1 (j := 25) rfl).trans z25
        have y12 : hi (up σ S1) 137 0 (12 : Int32).toNatClampNeg = nI (nFd S) := by
          show S1 137 12 = _
          rw [y137, z137]
          rfl
        rw [y25, y12, nI_clamp (by omega)]
        refine ⟨hM.r137, hM.r137, vp_at hM.n137 (vp_in_nI (n := 12) (by omega) (by omega)), vp_at hM.n137 (vp_in_nI (by omega) (by omega)), ?_⟩
        intro g e
        rw [wI_up _ _ rfl] at e
        rw [e]
        have u137 : ∀ j, (up2 S1 137 (nRu S) (nI (nFd S))) 137 j = if j = nRu S then nI (nFd S) else if j = 12 then nI (nFd S) else S 137 j := fun j => by
          rw [up2_at, y137, z137]
        have u136 : (up2 S1 137 (nRu S) (nI (nFd S))) 136 = S 136 := by
          rw [up2_s _ _ _ (show 136 ≠ 137 by decide), SA.a t1 (s := 136) (by decide) rfl, z136]
        have u134 : (up2 S1 137 (nRu S) (nI (nFd S))) 134 = S 134 := by
          rw [up2_s _ _ _ (show 134 ≠ 137 by decide), SA.a t1 (s := 134) (by decide) rfl, z134]
        have u135 : (up2 S1 137 (nRu S) (nI (nFd S))) 135 = S 135 := by
          rw [up2_s _ _ _ (show 135 ≠ 137 by decide), SA.a t1 (s := 135) (by decide) rfl, z135]
        have tU : SA rA rK S (up2 S1 137 (nRu S) (nI (nFd S))) := tS1.wa _ _ (by decide) rfl
        have u26 : (up2 S1 137 (nRu S) (nI (nFd S))) 12 26 = 0 := by
          rw [up2_s _ _ _ (show 12 ≠ 137 by decide), SA.k t1 (j := 26) rfl, z26]
        have u25 : (up2 S1 137 (nRu S) (nI (nFd S))) 12 25 = nI (nRu S) := by
          rw [up2_s _ _ _ (show 12 ≠ 137 by decide)]
          exact y25
        generalize up2 S1 137 (nRu S) (nI (nFd S)) = U at *
        refine lp_rcopy (n := nFd S) hM hlt l26 (fun S' k1 k2 k3 k4 k5 => ?_) (nFd S) 0 U (by omega) (SA.rf _ _ U) ?_ u25 (fun j => by rw [if_neg (by omega)])
        · refine q5 c1 c2 hlt k S' (SA.trans tU (SA.sub k1 (tl_sub (by decide)) (tl_sub (by decide)))) k2 ((SA.k k1 (j := 26) rfl).trans u26) (fun j => ?_) (fun j hj => ?_) (fun j => ?_) (fun j => ?_)
          · rw [k3 j, u136]
          · rw [SA.a k1 (s := 137) (by decide) rfl, u137]
            by_cases c : j = nRu S
            · rw [if_pos c, if_pos c]
            · rw [if_neg c, if_neg c, if_neg (by omega)]
          · rw [k4 j, u134]
          · rw [k5 j, u135]
        · rw [u137]
          split
          · rfl
          · rfl
      · have tS1 : SA rA rK S S1 := SA.trans tT (SA.sub t1 (tl_sub (by decide)) (tl_sub (by decide)))
        have y42 : hi (up σ S1) 12 0 42 = nI (gA (tx S 12) (nFd S)).2.1 := e42
        rw [y42]
        refine q4 c1 c2 hlt k S1 tS1 ?_ ?_ ?_ ?_ ?_ (fun j hj => ?_)
        · rw [SA.k t1 (j := 25) rfl, z25, ← h25]
        · rw [SA.k t1 (j := 26) rfl, z26]
        · rw [SA.a t1 (s := 134) (by decide) rfl, z134]
        · rw [SA.a t1 (s := 135) (by decide) rfl, z135]
        · rw [SA.a t1 (s := 136) (by decide) rfl, z136]
        · rw [SA.a t1 (s := 137) (by decide) rfl, z137, if_neg (by omega)]
  exact lp 5 0 _ rfl (SA.rf _ _ _)
/-- the rule in force: of the first so many the latest of the greatest day -/
def ruF (S : SS) (h d : Int32) : Nat → Int32
  | 0 => -1
  | k + 1 => if S 134 k = h ∧ ¬ d < S 135 k ∧ (ruF S h d k < 0 ∨ ¬ S 135 k < gS S 135 (ruF S h d k)) then nI k else ruF S h d k
theorem ruF_in (S : SS) (h d : Int32) : ∀ k, k < 1000 → ruF S h d k = -1 ∨ ∃ j, j < k ∧ ruF S h d k = nI j
  | 0, _ => Or.inl rfl
  | k + 1, hk => by
    unfold ruF
    split
    · exact Or.inr ⟨k, Nat.lt_succ_self k, rfl⟩
    · rcases ruF_in S h d k (by omega) with e | ⟨j, hj, e⟩
      · exact Or.inl e
      · exact Or.inr ⟨j, by omega, e⟩
theorem sp_X11_ruleOn {d : Nat} {h dd : Int32} {σ : XH} {S : SS} {Q : XV → XH → Prop} (hM : MI σ) (hI : SInv S) (hQ : Q (vI (ruF S h dd (nRu S))) (up σ S)) : Ec d 0 0 m_X11_ruleOn [vR (some (12, 0)), vI h, vI dd] (up σ S) Q := by
  have l25 := hI.l25
  have e25 : hi (up σ S) 12 0 25 = nI (nRu S) := hI.n25
  have lp : ∀ (m i : Nat), i + m = nRu S → Ex d 0 0 m_X11_ruleOn 5 [vR (some (12, 0)), vI h, vI dd, vI (ruF S h dd i), vI (nI i)] [] (up σ S) Q := by
    intro m
    induction m with
    | zero =>
      intro i him
      refine sX11_ruleOn_5 ?_
      unfold bX11_ruleOn_5
      rw [e25]
      refine ⟨fun z => ?_, fun _ => ?_⟩
      · have := (c_lt (by omega) (by omega)).mp z
        omega
      · have : i = nRu S := by omega
        rw [this]
        exact hQ
    | succ m ih =>
      intro i him
      have f59 : ∀ x, x = ruF S h dd (i + 1) → Ex d 0 0 m_X11_ruleOn 59 [vR (some (12, 0)), vI h, vI dd, vI x, vI (nI i)] [] (up σ S) Q := fun x ex => by
        refine sX11_ruleOn_59 ?_
        unfold bX11_ruleOn_59
        rw [nI_1, ex]
        exact ih (i + 1) (by omega)
      have no : ¬ (S 134 i = h ∧ ¬ dd < S 135 i ∧ (ruF S h dd i < 0 ∨ ¬ S 135 i < gS S 135 (ruF S h dd i))) → ruF S h dd i = ruF S h dd (i + 1) := fun z => (if_neg z).symm
      have yes : (S 134 i = h ∧ ¬ dd < S 135 i ∧ (ruF S h dd i < 0 ∨ ¬ S 135 i < gS S 135 (ruF S h dd i))) → Ex d 0 0 m_X11_ruleOn 56 [vR (some (12, 0)), vI h, vI dd, vU, vI (nI i)] [] (up σ S) Q := fun z => by
        refine sX11_ruleOn_56 ?_
        exact f59 (nI i) (if_pos z).symm
      refine sX11_ruleOn_5 ?_
      unfold bX11_ruleOn_5
      rw [e25, nI_clamp (by omega)]
      have v134 : vp_in (nI i) (hn (up σ S) 134 0) := vp_at hM.n134 (vp_in_nI (by omega) (by omega))
      have v135 : vp_in (nI i) (hn (up σ S) 135 0) := vp_at hM.n135 (vp_in_nI (by omega) (by omega))
      have x134 : hi (up σ S) 134 0 i = S 134 i := rfl
      have x135 : ∀ j, hi (up σ S) 135 0 j = S 135 j := fun _ => rfl
      rw [x134, x135, x135]
      refine ⟨fun _ => ⟨hM.r134, v134, fun c1 => ⟨hM.r135, v135, fun c2 => f59 _ (no (fun z => z.2.1 c2)), fun c2 => ⟨fun c3 => yes ⟨c1, c2, Or.inl c3⟩, fun c3 => ⟨hM.r135, v135, hM.r135, ?_, fun c4 => f59 _ (no (fun z => z.2.2.elim c3 (fun y => y c4))), fun c4 => yes ⟨c1, c2, Or.inr c4⟩⟩⟩⟩, fun c1 => f59 _ (no (fun z => c1 z.1))⟩, fun z => absurd ((c_lt (n := i) (N := nRu S) (by omega) (by omega)).mpr (by omega)) z⟩
      rcases ruF_in S h dd i (by omega) with e | ⟨j, hj, e⟩
      · rw [e] at c3
        exact absurd (by decide) c3
      · rw [e]
        exact vp_at hM.n135 (vp_in_nI (by omega) (by omega))
  refine Ec_of mo_X11_ruleOn.1 (Nat.le_of_ble_eq_true rfl) ?_
  refine sX11_ruleOn_0 ?_
  unfold bX11_ruleOn_0
  exact lp (nRu S) 0 (by omega)
/-- what a rule says; -1: none -/
def ruR (S : SS) (x : Int32) : RT := if x < 0 then rt0 else (gA (tx S x.toNatClampNeg) (nTx S x.toNatClampNeg)).2.2
theorem sp_X11_look {d : Nat} {x : Int32} {ev : Int32 → Int32 → Bool} {σ : XH} {S : SS} {Q : XV → XH → Prop} (hd : 9 ≤ d) (hM : MI σ) (hI : SInv S) (hU : RuI S) (hx : x = -1 ∨ ∃ j, j < nRu S ∧ x = nI j) (he : evT S = ev) (h : ∀ S', HS S S' → MR S' (ruR S x) ev → Q vU (up σ S')) : Ec d 0 0 m_X11_look [vR (some (12, 0)), vI x] (up σ S) Q := by
  have l25 := hI.l25
  refine Ec_of mo_X11_look.1 (Nat.le_of_ble_eq_true rfl) ?_
  refine sX11_look_0 ?_
  unfold bX11_look_0
  unfold ruR at h
  rcases hx with e | ⟨j, hj, e⟩
  · subst e
    rw [if_pos (by decide)] at h
    exact ⟨fun _ => ⟨by omega, sp_X11_clean (ev := ev) hM (fun S' t m => h S' (SA.sub t (tl_sub (by decide)) (tl_sub (by decide))) m)⟩, fun z => absurd (by decide) z⟩
  · subst e
    rw [if_neg (neg_nn (by omega)), nI_clamp (by omega)] at h
    obtain ⟨u1, u2, u3, u4⟩ := hU j hj
    refine ⟨fun z => absurd z (neg_nn (by omega)), fun _ => ⟨by omega, sp_X11_goes (w := j) (n := nTx S j) (ch := tx S j) (ev := ev) (by omega) hM (by omega) u1 u2 (fun _ _ => rfl) he (fun k S' t e42 m => h S' t m) (fun k => ?_)⟩⟩
    rw [u4] at k
    exact Bool.noConfusion k
def ruledG (S : SS) (h d w : Int32) : Int32 :=
  if ¬ inP h 0 2 ∨ ¬ inP d 0 9999 then -5
  else if w = 0 then ruF S h d (nRu S)
  else if w = 1 then (ruR S (ruF S h d (nRu S))).1 31
  else if w = 2 then (ruR S (ruF S h d (nRu S))).1 32
  else if w = 3 then (ruR S (ruF S h d (nRu S))).1 33
  else if w = 4 then (ruR S (ruF S h d (nRu S))).1 34
  else if w = 5 then (if (ruR S (ruF S h d (nRu S))).1 35 = 0 then 0 else 1)
  else if w = 6 then (if (ruR S (ruF S h d (nRu S))).1 36 = 0 then 0 else 1)
  else if inP w 10 15 then (ruR S (ruF S h d (nRu S))).1 (100 + (w - 10).toNatClampNeg)
  else -5
theorem w10 {w : Int32} (h : inP w 10 15) : ∃ i, i < 6 ∧ w - 10 = nI i := by
  rw [inP_iff] at h
  have e1 : (10 : Int32).toInt = 10 := by decide
  have e2 : (15 : Int32).toInt = 15 := by decide
  rw [fa_lt, fa_lt, e1, e2] at h
  refine ⟨(w.toInt - 10).toNat, by omega, ?_⟩
  apply Int32.toInt_inj.mp
  rw [nI_toInt (by omega), fb_subI (by rw [e1]; omega) (by rw [e1]; omega), e1]
  omega
theorem sp_X11_ruled {d : Nat} {h dd w : Int32} {σ : XH} {S : SS} {Q : XV → XH → Prop} (hd : 10 ≤ d) (hM : MI σ) (hI : SInv S) (hU : RuI S) (hQ : ∀ S', HS S S' → Q (vI (ruledG S h dd w)) (up σ S')) : Ec d 0 0 m_X11_ruled [vR (some (12, 0)), vI h, vI dd, vI w] (up σ S) Q := by
  have l25 := hI.l25
  unfold ruledG at hQ
  refine Ec_of mo_X11_ruled.1 (Nat.le_of_ble_eq_true rfl) ?_
  refine sX11_ruled_0 ?_
  unfold bX11_ruled_0
  refine ⟨by omega, sp_X11_isHouse (by omega) (fun c1 => br_f (by decide) ⟨by omega, sp_X11_isDay (by omega) (fun c2 => br_f (by decide) ⟨by omega, sp_X11_ruleOn hM hI ⟨by omega, ?_⟩⟩) (fun c2 => br_t rfl (sX11_ruled_16 ?_))⟩) (fun c1 => br_t rfl (sX11_ruled_16 ?_))⟩
  · rw [if_neg (fun z => z.elim (fun y => y c1) (fun y => y c2))] at hQ
    refine sp_X11_look (ev := evT S) (by omega) hM hI hU (ruF_in S h dd (nRu S) (by omega)) rfl (fun S' t m => ?_)
    have hq := hQ S' t
    obtain ⟨m1, m2, m3⟩ := m
    have x31 : hi (up σ S') 12 0 31 = (ruR S (ruF S h dd (nRu S))).1 31 := m1 31 (by decide)
    have x32 : hi (up σ S') 12 0 32 = (ruR S (ruF S h dd (nRu S))).1 32 := m1 32 (by decide)
    have x33 : hi (up σ S') 12 0 33 = (ruR S (ruF S h dd (nRu S))).1 33 := m1 33 (by decide)
    have x34 : hi (up σ S') 12 0 34 = (ruR S (ruF S h dd (nRu S))).1 34 := m1 34 (by decide)
    have x35 : hi (up σ S') 12 0 35 = (ruR S (ruF S h dd (nRu S))).1 35 := m1 35 (by decide)
    have x36 : hi (up σ S') 12 0 36 = (ruR S (ruF S h dd (nRu S))).1 36 := m1 36 (by decide)
    dsimp only [kU]
    rw [x31, x32, x33, x34, x35, x36]
    refine ⟨fun k => ?_, fun k0 => ⟨fun k => ?_, fun k1 => ⟨fun k => ?_, fun k2 => ⟨fun k => ?_, fun k3 => ⟨fun k => ?_, fun k4 => ⟨fun k => ?_, fun k5 => ⟨fun k => ?_, fun k6 => ⟨by omega, ?_⟩⟩⟩⟩⟩⟩⟩⟩
    · rw [if_pos k] at hq; exact hq
    · rw [if_neg k0, if_pos k] at hq; exact hq
    · rw [if_neg k0, if_neg k1, if_pos k] at hq; exact hq
    · rw [if_neg k0, if_neg k1, if_neg k2, if_pos k] at hq; exact hq
    · rw [if_neg k0, if_neg k1, if_neg k2, if_neg k3, if_pos k] at hq; exact hq
    · rw [if_neg k0, if_neg k1, if_neg k2, if_neg k3, if_neg k4, if_pos k] at hq
      refine ⟨fun z => sX11_ruled_111 ?_, fun z => sX11_ruled_111 ?_⟩
      · rw [if_pos z] at hq; exact hq
      · rw [if_neg z] at hq; exact hq
    · rw [if_neg k0, if_neg k1, if_neg k2, if_neg k3, if_neg k4, if_neg k5, if_pos k] at hq
      refine ⟨fun z => sX11_ruled_124 ?_, fun z => sX11_ruled_124 ?_⟩
      · rw [if_pos z] at hq; exact hq
      · rw [if_neg z] at hq; exact hq
    · rw [if_neg k0, if_neg k1, if_neg k2, if_neg k3, if_neg k4, if_neg k5, if_neg k6] at hq
      refine sp_X11_in (by omega) (fun z => br_f (by decide) ?_) (fun z => br_t rfl (sX11_ruled_151 ?_))
      · rw [if_pos z] at hq
        obtain ⟨i, hi6, ei⟩ := w10 z
        rw [ei] at hq ⊢
        refine ⟨hM.r138, vp_at hM.n138 (vp_in_nI hi6 (by omega)), sX11_ruled_151 ?_⟩
        rw [nI_clamp (by omega)] at hq ⊢
        have xw : hi (up σ S') 138 0 i = (ruR S (ruF S h dd (nRu S))).1 (100 + i) := m2 i hi6
        show Q (vI (hi (up σ S') 138 0 i)) (up σ S')
        rw [xw]
        exact hq
      · rw [if_neg z] at hq
        exact hq
  · rw [if_pos (Or.inr c2)] at hQ
    exact hQ S (SA.rf _ _ S)
  · rw [if_pos (Or.inl c1)] at hQ
    exact hQ S (SA.rf _ _ S)
