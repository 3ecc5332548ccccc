/-! ===== acts ===== -/
abbrev AL : Type := Int32 × List Int32
def tmA (n k x : Int32) : AL := if k = 1 then ((x + n) ^^^ 1, [20, 10]) else if k = 4 then (x + 3 + n, [50, 10]) else if k = 6 then ((x + n) * 3, [70, 10]) else (x + n, [10])
def pwA (n k x : Int32) : AL := ((tmA n k x).1 * 2, 11 :: (tmA n k x).2)
def weA (n k x : Int32) : AL := if k = 2 then ((pwA n k x).1 + (tmA n k 2).1, 30 :: (pwA n k x).2 ++ (tmA n k 2).2) else if k = 5 then ((pwA n k x).1 ^^^ x, 60 :: (pwA n k x).2) else pwA n k x
def ptA (n g k x : Int32) : AL := ((weA n k x).1 - g, 12 :: (weA n k x).2)
def etA (n g k x : Int32) : AL := (-(ptA n g k x).1, 40 :: (ptA n g k x).2)
def teA (n g k x : Int32) : AL := if k = 3 then etA n g k x else if k = 4 then ((etA n g k x).1 + 5, 51 :: (etA n g k x).2) else if k = 7 then ((tmA n k x).1 - (ptA n g k x).1, 80 :: (tmA n k x).2 ++ (ptA n g k x).2) else ptA n g k x
theorem tmA_l (n k x : Int32) : (tmA n k x).2.length ≤ 2 := by
  unfold tmA
  split
  · exact Nat.le_refl _
  · split
    · exact Nat.le_refl _
    · split
      · exact Nat.le_refl _
      · exact Nat.le_succ _
theorem pwA_l (n k x : Int32) : (pwA n k x).2.length ≤ 3 := by
  have := tmA_l n k x
  show (tmA n k x).2.length + 1 ≤ 3
  omega
theorem weA_l (n k x : Int32) : (weA n k x).2.length ≤ 6 := by
  have h1 := tmA_l n k 2
  have h2 := pwA_l n k x
  unfold weA
  split
  · rw [List.length_append, List.length_cons]
    omega
  · split
    · rw [List.length_cons]
      omega
    · omega
theorem ptA_l (n g k x : Int32) : (ptA n g k x).2.length ≤ 7 := by
  have := weA_l n k x
  show (weA n k x).2.length + 1 ≤ 7
  omega
/-! the reference -/
def bS (S : SS) (b : Int32) : SS := up2 (if S 12 63 < 20 then up2 S 150 (S 12 63).toNatClampNeg b else S) 12 63 (S 12 63 + 1)
def pL (S : SS) (l : List Int32) : SS := l.foldl bS S
theorem pL_app (S : SS) (l l' : List Int32) : pL (pL S l) l' = pL S (l ++ l') := (List.foldl_append).symm
theorem pL_cons (S : SS) (b : Int32) (l : List Int32) : pL (bS S b) l = pL S (b :: l) := rfl
def AOK (S : SS) (b : Nat) : Prop := ∃ t, S 12 63 = nI t ∧ t ≤ b
theorem AOK.bS {S : SS} {b : Nat} (h : AOK S b) (x : Int32) : AOK (bS S x) (b + 1) := by
  obtain ⟨t, h1, h2⟩ := h
  refine ⟨t + 1, ?_, by omega⟩
  unfold CSpotTimersLaw_law_r3327_87c8ce.bS
  rw [up2_eq, h1, nI_1]
theorem AOK.pL {l : List Int32} : ∀ {S : SS} {b : Nat}, AOK S b → AOK (pL S l) (b + l.length) := by
  induction l with
  | nil => exact fun h => h
  | cons x l ih =>
    intro S b h
    have := ih (h.bS x)
    rw [show b + 1 + l.length = b + (x :: l).length by rw [List.length_cons]; omega] at this
    exact this
theorem AOK.le {S : SS} {b c : Nat} (h : AOK S b) (hbc : b ≤ c) : AOK S c := by
  obtain ⟨t, h1, h2⟩ := h
  exact ⟨t, h1, by omega⟩
theorem bS_s (S : SS) (x : Int32) {s : Nat} (h : s ≠ 150) (h2 : s ≠ 12) : bS S x s = S s := by
  unfold bS
  rw [up2_s _ _ _ h2]
  split
  · rw [up2_s _ _ _ h]
  · rfl
theorem pL_s {s : Nat} (h : s ≠ 150) (h2 : s ≠ 12) : ∀ (l : List Int32) (S : SS), pL S l s = S s
  | [], S => rfl
  | x :: l, S => (pL_s h h2 l (bS S x)).trans (bS_s S x h h2)
theorem bS_k (S : SS) (x : Int32) {k : Nat} (h : k ≠ 63) : bS S x 12 k = S 12 k := by
  unfold bS
  rw [up2_k _ _ _ h]
  split
  · rw [up2_s _ _ _ (by decide)]
  · rfl
theorem pL_k {k : Nat} (h : k ≠ 63) : ∀ (l : List Int32) (S : SS), pL S l 12 k = S 12 k
  | [], S => rfl
  | x :: l, S => (pL_k h l (bS S x)).trans (bS_k S x h)
theorem sp_X11_body {d : Nat} {b : Int32} {σ : XH} {S : SS} {Q : XV → XH → Prop} (hM : MI σ) (hA : AOK S 100) (h : Q vU (up σ (bS S b))) : Ec d 0 0 m_X11_body [vR (some (12, 0)), vI b] (up σ S) Q := by
  obtain ⟨t, h1, h2⟩ := hA
  have e20 : (20 : Int32) = nI 20 := by decide
  unfold bS at h
  refine Ec_of mo_X11_body.1 (Nat.le_of_ble_eq_true rfl) ?_
  refine sX11_body_0 ?_
  unfold bX11_body_0
  rw [hu_12]
  refine ⟨fun c => ⟨hM.r150, vp_at hM.n150 ?_, ?_⟩, fun c => ?_⟩
  · rw [h1] at c ⊢
    rw [e20] at c
    exact vp_in_nI ((nI_ltI (by omega) (by omega)).mp c) (by omega)
  · intro g1 e1
    rw [wu_150] at e1
    subst e1
    refine sX11_body_19 ?_
    intro g2 e2
    rw [wu_12, hu_12] at e2
    subst e2
    rw [if_pos c] at h
    exact h
  · refine sX11_body_19 ?_
    intro g2 e2
    rw [wu_12, hu_12] at e2
    subst e2
    rw [if_neg c] at h
    exact h
theorem sp_X11_plainTimes {d : Nat} {r x : Int32} {σ : XH} {S : SS} {Q : XV → XH → Prop} (hd : 1 ≤ d) (hM : MI σ) (hA : AOK S 100) (h : Q (vI (x + r)) (up σ (bS S 10))) : Ec d 0 0 m_X11_plainTimes [vR (some (12, 0)), vI r, vI x] (up σ S) Q := by
  refine Ec_of mo_X11_plainTimes.1 (Nat.le_of_ble_eq_true rfl) ?_
  refine sX11_plainTimes_0 ?_
  refine ⟨by omega, ?_⟩
  exact sp_X11_body hM hA h
theorem sp_X11_timesOf {d : Nat} {r k x : Int32} {σ : XH} {S : SS} {Q : XV → XH → Prop} (hd : 2 ≤ d) (hM : MI σ) (hA : AOK S 90) (h : Q (vI (tmA r k x).1) (up σ (pL S (tmA r k x).2))) : Ec d 0 0 m_X11_timesOf [vR (some (12, 0)), vI r, vI k, vI x] (up σ S) Q := by
  have hA2 : ∀ b, AOK (bS S b) 100 := fun b => (hA.bS b).le (by omega)
  unfold tmA at h
  refine Ec_of mo_X11_timesOf.1 (Nat.le_of_ble_eq_true rfl) ?_
  refine sX11_timesOf_0 ?_
  unfold bX11_timesOf_0
  refine ⟨fun c => ⟨by omega, ?_⟩, fun c => ⟨fun c2 => ⟨by omega, ?_⟩, fun c2 => ?_⟩⟩
  · rw [if_pos c] at h
    refine sp_X11_body hM (hA.le (by omega)) ⟨by omega, ?_⟩
    exact sp_X11_plainTimes (by omega) hM (hA2 20) h
  · rw [if_neg c, if_pos c2] at h
    refine sp_X11_body hM (hA.le (by omega)) ⟨by omega, ?_⟩
    exact sp_X11_plainTimes (by omega) hM (hA2 50) h
  · refine sX11_timesOf_40 ?_
    unfold bX11_timesOf_40
    rw [if_neg c, if_neg c2] at h
    refine ⟨fun c3 => ⟨by omega, ?_⟩, fun c3 => ⟨by omega, ?_⟩⟩
    · rw [if_pos c3] at h
      refine sp_X11_body hM (hA.le (by omega)) ⟨by omega, ?_⟩
      exact sp_X11_plainTimes (by omega) hM (hA2 70) h
    · rw [if_neg c3] at h
      exact sp_X11_plainTimes (by omega) hM (hA.le (by omega)) h
theorem sp_X11_plainWeighs {d : Nat} {r k x : Int32} {σ : XH} {S : SS} {Q : XV → XH → Prop} (hd : 3 ≤ d) (hM : MI σ) (hA : AOK S 80) (h : Q (vI (pwA r k x).1) (up σ (pL S (pwA r k x).2))) : Ec d 0 0 m_X11_plainWeighs [vR (some (12, 0)), vI r, vI k, vI x] (up σ S) Q := by
  refine Ec_of mo_X11_plainWeighs.1 (Nat.le_of_ble_eq_true rfl) ?_
  refine sX11_plainWeighs_0 ?_
  refine ⟨by omega, ?_⟩
  refine sp_X11_body hM (hA.le (by omega)) ⟨by omega, ?_⟩
  exact sp_X11_timesOf (by omega) hM ((hA.bS 11).le (by omega)) h
theorem sp_X11_weighsOf {d : Nat} {r k x : Int32} {σ : XH} {S : SS} {Q : XV → XH → Prop} (hd : 4 ≤ d) (hM : MI σ) (hA : AOK S 70) (h : Q (vI (weA r k x).1) (up σ (pL S (weA r k x).2))) : Ec d 0 0 m_X11_weighsOf [vR (some (12, 0)), vI r, vI k, vI x] (up σ S) Q := by
  unfold weA at h
  refine Ec_of mo_X11_weighsOf.1 (Nat.le_of_ble_eq_true rfl) ?_
  refine sX11_weighsOf_0 ?_
  unfold bX11_weighsOf_0
  refine ⟨fun c => ⟨by omega, ?_⟩, fun c => ⟨fun c2 => ⟨by omega, ?_⟩, fun c2 => ⟨by omega, ?_⟩⟩⟩
  · rw [if_pos c] at h
    refine sp_X11_body hM (hA.le (by omega)) ⟨by omega, ?_⟩
    refine sp_X11_plainWeighs (by omega) hM ((hA.bS 30).le (by omega)) ⟨by omega, ?_⟩
    have hl := pwA_l r k x
    refine sp_X11_timesOf (by omega) hM (((hA.bS 30).pL (l := (pwA r k x).2)).le (by omega)) ?_
    rw [pL_app, pL_cons]
    exact h
  · rw [if_neg c, if_pos c2] at h
    refine sp_X11_body hM (hA.le (by omega)) ?_
    refine sX11_weighsOf_42 ?_
    refine ⟨by omega, ?_⟩
    exact sp_X11_plainWeighs (by omega) hM ((hA.bS 60).le (by omega)) h
  · rw [if_neg c, if_neg c2] at h
    exact sp_X11_plainWeighs (by omega) hM (hA.le (by omega)) h
theorem sp_X11_plainTells {d : Nat} {r k x : Int32} {σ : XH} {S : SS} {Q : XV → XH → Prop} (hd : 5 ≤ d) (hM : MI σ) (v : vp_in r 90) (hA : AOK S 60) (h : Q (vI (ptA r (gS S 122 r) k x).1) (up σ (pL S (ptA r (gS S 122 r) k x).2))) : Ec d 0 0 m_X11_plainTells [vR (some (12, 0)), vI r, vI k, vI x] (up σ S) Q := by
  refine Ec_of mo_X11_plainTells.1 (Nat.le_of_ble_eq_true rfl) ?_
  refine sX11_plainTells_0 ?_
  refine ⟨by omega, ?_⟩
  refine sp_X11_body hM (hA.le (by omega)) ⟨by omega, ?_⟩
  refine sp_X11_weighsOf (by omega) hM ((hA.bS 12).le (by omega)) ?_
  refine ⟨hM.r122, vp_at hM.n122 v, ?_⟩
  rw [hu_122, pL_s (by decide) (by decide), bS_s _ _ (by decide) (by decide)]
  exact h
theorem sp_X11_edgeTells {d : Nat} {r k x : Int32} {σ : XH} {S : SS} {Q : XV → XH → Prop} (hd : 6 ≤ d) (hM : MI σ) (v : vp_in r 90) (hA : AOK S 50) (h : Q (vI (etA r (gS S 122 r) k x).1) (up σ (pL S (etA r (gS S 122 r) k x).2))) : Ec d 0 0 m_X11_edgeTells [vR (some (12, 0)), vI r, vI k, vI x] (up σ S) Q := by
  refine Ec_of mo_X11_edgeTells.1 (Nat.le_of_ble_eq_true rfl) ?_
  refine sX11_edgeTells_0 ?_
  refine ⟨by omega, ?_⟩
  refine sp_X11_body hM (hA.le (by omega)) ⟨by omega, ?_⟩
  have e : gS (bS S 40) 122 r = gS S 122 r := by
    show bS S 40 122 _ = _
    rw [bS_s _ _ (by decide) (by decide)]
  refine sp_X11_plainTells (by omega) hM v ((hA.bS 40).le (by omega)) ?_
  rw [e]
  exact h
theorem sp_X11_tellsOf {d : Nat} {r k x : Int32} {σ : XH} {S : SS} {Q : XV → XH → Prop} (hd : 7 ≤ d) (hM : MI σ) (v : vp_in r 90) (hA : AOK S 40) (h : Q (vI (teA r (gS S 122 r) k x).1) (up σ (pL S (teA r (gS S 122 r) k x).2))) : Ec d 0 0 m_X11_tellsOf [vR (some (12, 0)), vI r, vI k, vI x] (up σ S) Q := by
  unfold teA at h
  have e : ∀ b, gS (bS S b) 122 r = gS S 122 r := fun b => by
    show bS S b 122 _ = _
    rw [bS_s _ _ (by decide) (by decide)]
  refine Ec_of mo_X11_tellsOf.1 (Nat.le_of_ble_eq_true rfl) ?_
  refine sX11_tellsOf_0 ?_
  unfold bX11_tellsOf_0
  refine ⟨fun c => ⟨by omega, ?_⟩, fun c => ⟨fun c2 => ⟨by omega, ?_⟩, fun c2 => ⟨fun c3 => ⟨by omega, ?_⟩, fun c3 => ⟨by omega, ?_⟩⟩⟩⟩
  · rw [if_pos c] at h
    exact sp_X11_edgeTells (by omega) hM v (hA.le (by omega)) h
  · rw [if_neg c, if_pos c2] at h
    refine sp_X11_body hM (hA.le (by omega)) ⟨by omega, ?_⟩
    refine sp_X11_edgeTells (by omega) hM v ((hA.bS 51).le (by omega)) ?_
    rw [e]
    exact h
  · rw [if_neg c, if_neg c2, if_pos c3] at h
    refine sp_X11_body hM (hA.le (by omega)) ?_
    refine sX11_tellsOf_46 ?_
    refine ⟨by omega, ?_⟩
    have hl := tmA_l r k x
    refine sp_X11_timesOf (by omega) hM ((hA.bS 80).le (by omega)) ⟨by omega, ?_⟩
    refine sp_X11_plainTells (by omega) hM v (((hA.bS 80).pL (l := (tmA r k x).2)).le (by omega)) ?_
    have e2 : gS (pL (bS S 80) (tmA r k x).2) 122 r = gS S 122 r := by
      show pL (bS S 80) (tmA r k x).2 122 _ = _
      rw [pL_s (by decide) (by decide), bS_s _ _ (by decide) (by decide)]
    rw [e2, pL_app, pL_cons]
    exact h
  · rw [if_neg c, if_neg c2, if_neg c3] at h
    exact sp_X11_plainTells (by omega) hM v (hA.le (by omega)) h
/-- the value and the trace of an act -/
def acA (n g k a x : Int32) : AL := if a = 0 then tmA n k x else if a = 1 then weA n k x else teA n g k x
def actF (S : SS) (r a x : Int32) : RS := if isRd S r ∧ inP a 0 2 then ((acA r (gS S 122 r) (kNow S r) a x).1, pL (up2 S 12 63 0) (acA r (gS S 122 r) (kNow S r) a x).2) else (0, up2 S 12 63 0)
theorem sp_X11_act {d : Nat} {r a x : Int32} {σ : XH} {S : SS} {Q : XV → XH → Prop} (hd : 8 ≤ d) (hM : MI σ) (hI : SInv S) (h : Q (vI (actF S r a x).1) (up σ (actF S r a x).2)) : Ec d 0 0 m_X11_act [vR (some (12, 0)), vI r, vI a, vI x] (up σ S) Q := by
  unfold actF at h
  have hs : ∀ s, s ≠ 12 → up2 S 12 63 0 s = S s := fun s hs => up2_s _ _ _ hs
  have h8 : up2 S 12 63 0 12 8 = S 12 8 := up2_k _ _ _ (by decide) _
  have hA : AOK (up2 S 12 63 0) 0 := ⟨0, by rw [up2_eq, nI_0], Nat.le_refl _⟩
  have none_ : ¬ (isRd S r ∧ inP a 0 2) → Ex d 0 0 m_X11_act 23 [vU, vU, vU, vU, vU] [] (up σ (up2 S 12 63 0)) Q := fun z => by
    rw [if_neg z] at h
    refine sX11_act_23 ?_
    exact h
  refine Ec_of mo_X11_act.1 (Nat.le_of_ble_eq_true rfl) ?_
  refine sX11_act_0 ?_
  unfold bX11_act_0
  intro g1 e1
  rw [wu_12] at e1
  subst e1
  refine ⟨by omega, ?_⟩
  have er : isRd (up2 S 12 63 0) r ↔ isRd S r := by
    unfold isRd
    rw [h8]
  have ek : kNow (up2 S 12 63 0) r = kNow S r := by
    simp only [kNow, gS, hs 129 (by decide), hs 120 (by decide)]
  have eg : gS (up2 S 12 63 0) 122 r = gS S 122 r := by
    simp only [gS, hs 122 (by decide)]
  refine sp_X11_isReading (by omega) (fun z => br_f (by decide) ⟨by omega, ?_⟩) (fun z => br_t rfl (none_ (fun y => z (er.mpr y.1))))
  have z' := er.mp z
  have v := hI.r90 (hI.isRd z')
  refine sp_X11_in (by omega) (fun z2 => br_f (by decide) ⟨by omega, ?_⟩) (fun z2 => br_t rfl (none_ (fun y => z2 y.2)))
  rw [if_pos ⟨z', z2⟩] at h
  refine sp_X11_nowKind (by omega) hM v ?_
  rw [ek]
  unfold acA at h
  refine ⟨fun c => ⟨by omega, ?_⟩, fun c => ⟨fun c2 => ⟨by omega, ?_⟩, fun c2 => ⟨by omega, ?_⟩⟩⟩
  · rw [if_pos c] at h
    refine sp_X11_timesOf (by omega) hM (hA.le (by omega)) ?_
    refine sX11_act_71 ?_
    exact h
  · rw [if_neg c, if_pos c2] at h
    refine sp_X11_weighsOf (by omega) hM (hA.le (by omega)) ?_
    refine sX11_act_71 ?_
    exact h
  · rw [if_neg c, if_neg c2] at h
    refine sp_X11_tellsOf (by omega) hM v (hA.le (by omega)) ?_
    refine sX11_act_71 ?_
    rw [eg]
    exact h
/-! the class -/
def bH (σ : XH) (b : Int32) : XH := wI (if hi σ 1 0 1 < 20 then wI σ 100 0 (hi σ 1 0 1).toNatClampNeg b else σ) 1 0 1 (hi σ 1 0 1 + 1)
def pH (σ : XH) (l : List Int32) : XH := l.foldl bH σ
theorem pH_app (σ : XH) (l l' : List Int32) : pH (pH σ l) l' = pH σ (l ++ l') := (List.foldl_append).symm
/-- what acts keep besides the trace: kind, number, hand; and how many bodies ran -/
def HOK (σ : XH) (k n g : Int32) (b : Nat) : Prop := CFX σ ∧ hi σ 1 0 2 = k ∧ hi σ 1 0 3 = n ∧ hi σ 1 0 4 = g ∧ ∃ t, hi σ 1 0 1 = nI t ∧ t ≤ b
theorem bH_fi (σ : XH) (b : Int32) : Fi (tl [1, 100]) σ (bH σ b) := by
  unfold bH
  refine Fi.wI ?_ (by decide) _ _ _
  split
  · exact Fi.wI (Fi.rf _ _) (by decide) _ _ _
  · exact Fi.rf _ _
theorem bH_1 (σ : XH) (b : Int32) {k : Nat} (h : k ≠ 1) : hi (bH σ b) 1 0 k = hi σ 1 0 k := by
  unfold bH
  rw [hi_wI_k _ _ _ _ _ h]
  split
  · rw [hi_wI_ne _ _ _ _ (by decide)]
  · rfl
theorem HOK.bH {σ : XH} {k n g : Int32} {b : Nat} (h : HOK σ k n g b) (x : Int32) : HOK (bH σ x) k n g (b + 1) := by
  obtain ⟨hX, h2, h3, h4, t, h5, h6⟩ := h
  refine ⟨hX.fi (bH_fi σ x) rfl rfl rfl, by rw [bH_1 _ _ (by decide)]; exact h2, by rw [bH_1 _ _ (by decide)]; exact h3, by rw [bH_1 _ _ (by decide)]; exact h4, t + 1, ?_, by omega⟩
  unfold CSpotTimersLaw_law_r3327_87c8ce.bH
  rw [hi_wI_eq, h5, nI_1]
theorem HOK.pH {l : List Int32} {k n g : Int32} : ∀ {σ : XH} {b : Nat}, HOK σ k n g b → HOK (pH σ l) k n g (b + l.length) := by
  induction l with
  | nil => exact fun h => h
  | cons x l ih =>
    intro σ b h
    have := ih (h.bH x)
    rw [show b + 1 + l.length = b + (x :: l).length by rw [List.length_cons]; omega] at this
    exact this
theorem HOK.le {σ : XH} {k n g : Int32} {b c : Nat} (h : HOK σ k n g b) (hbc : b ≤ c) : HOK σ k n g c := by
  obtain ⟨h1, h2, h3, h4, t, h5, h6⟩ := h
  exact ⟨h1, h2, h3, h4, t, h5, by omega⟩
/-- the body that stands for an act at a kind, going up -/
def bfR (a : Nat) : Nat → Nat → Int32
  | 0, _ => 0
  | f + 1, k => if bodiesC.getD (a * 8 + k) 0 = 0 then (if aboveC.getD k (-1) < 0 then 0 else bfR a f (aboveC.getD k (-1)).toNatClampNeg) else bodiesC.getD (a * 8 + k) 0
theorem lp_bf0 {d rc rs : Nat} {a i : Int32} {σ : XH} {Q : XV → XH → Prop} (h : Q (vI 0) σ) : Ex d rc rs m_X0_bodyFrom 4 [vI a, vU, vI (-1), vI i, vU, vU] [] σ Q := by
  have e : Ex d rc rs m_X0_bodyFrom 74 [vU, vU, vU, vU, vU, vU] [] σ Q := by
    refine sX0_bodyFrom_74 ?_
    exact h
  refine sX0_bodyFrom_4 ?_
  unfold bX0_bodyFrom_4
  exact ⟨fun _ => br_t (by decide) e, fun _ => e⟩
theorem above_sh : ∀ k, k < 8 → (aboveC.getD k (-1) = -1 ∨ ∃ j, j < 8 ∧ aboveC.getD k (-1) = nI j) ∧ aboveC[k]? = some (aboveC.getD k (-1)) := by
  intro k hk
  match k, hk with
  | 0, _ => exact ⟨Or.inl rfl, rfl⟩
  | 1, _ => exact ⟨Or.inr ⟨0, by omega, by decide⟩, rfl⟩
  | 2, _ => exact ⟨Or.inr ⟨0, by omega, by decide⟩, rfl⟩
  | 3, _ => exact ⟨Or.inr ⟨0, by omega, by decide⟩, rfl⟩
  | 4, _ => exact ⟨Or.inr ⟨3, by omega, by decide⟩, rfl⟩
  | 5, _ => exact ⟨Or.inr ⟨0, by omega, by decide⟩, rfl⟩
  | 6, _ => exact ⟨Or.inr ⟨0, by omega, by decide⟩, rfl⟩
  | 7, _ => exact ⟨Or.inr ⟨0, by omega, by decide⟩, rfl⟩
theorem bf_ix : ∀ a, a < 3 → ∀ k, k < 8 → nI a * 8 + nI k = nI (a * 8 + k) ∧ bodiesC[a * 8 + k]? = some (bodiesC.getD (a * 8 + k) 0) := by decide +kernel
theorem lp_bf {d rc rs a : Nat} {σ : XH} {Q : XV → XH → Prop} (hX : CFX σ) (ha : a < 3) : ∀ (f i k : Nat), i + f = 8 → k < 8 → Q (vI (bfR a f k)) σ → Ex d rc rs m_X0_bodyFrom 4 [vI (nI a), vU, vI (nI k), vI (nI i), vU, vU] [] σ Q := by
  intro f
  induction f with
  | zero =>
    intro i k hi_ hk h
    refine sX0_bodyFrom_4 ?_
    unfold bX0_bodyFrom_4
    refine br_f ?_ ?_
    · have e : i = 8 := by omega
      rw [e]
      decide
    · refine sX0_bodyFrom_74 ?_
      exact h
  | succ f ih =>
    intro i k hi_ hk h
    obtain ⟨x1, x2⟩ := bf_ix a ha k hk
    obtain ⟨a1, a2⟩ := above_sh k hk
    have hlt : a * 8 + k < 24 := by omega
    unfold bfR at h
    refine sX0_bodyFrom_4 ?_
    unfold bX0_bodyFrom_4
    rw [x1, hX.n501]
    refine br_t (nI_lt (b := 8) (by omega) (by omega)) (br_f (nI_pos (by omega)) (br_t (nI_lt (b := 8) (by omega) (by omega)) (br_f (nI_pos (by omega)) (br_t (nI_lt (b := 24) hlt (by omega)) ⟨vp_in_nI hlt (by omega), ?_⟩))))
    rw [nI_clamp (by omega), hX.2.2.2.2.2.1 _ _ x2]
    refine sX0_bodyFrom_52 ?_
    refine ⟨fun c => ⟨vp_at hX.n500 (vp_in_nI hk (by omega)), ?_⟩, fun c => ?_⟩
    · rw [if_pos c] at h
      rw [nI_clamp (by omega), hX.2.2.2.2.1 _ _ a2]
      rcases a1 with a1 | ⟨j, j1, j2⟩
      · rw [a1] at h ⊢
        rw [if_pos nI_neg1] at h
        exact lp_bf0 h
      · rw [j2] at h ⊢
        rw [if_neg (nI_pos (by omega)), nI_clamp (by omega)] at h
        rw [nI_1]
        exact ih (i + 1) j (by omega) j1 h
    · rw [if_neg c] at h
      exact h
theorem sp_X0_bodyFrom {d a k : Nat} {σ : XH} {Q : XV → XH → Prop} (hX : CFX σ) (ha : a < 3) (hk : k < 8) (h : Q (vI (bfR a 8 k)) σ) : Ec d 0 0 m_X0_bodyFrom [vI (nI a), vI (nI k)] σ Q := by
  refine Ec_of mo_X0_bodyFrom.1 (Nat.le_of_ble_eq_true rfl) ?_
  refine sX0_bodyFrom_0 ?_
  unfold bX0_bodyFrom_0
  have g := lp_bf (d := d) (rc := 0) (rs := 0) hX ha 8 0 k (by omega) hk h
  rw [nI_0] at g
  exact g
/-- the run of a body: the trace grows, then what the body does -/
theorem sp_X0_run {d dp : Nat} {b x k n g : Int32} {σ : XH} {Q : XV → XH → Prop} (hH : HOK σ k n g 100) (hb : ¬ b = 0) (hdp : dp ≤ 20) (h : Ex d 0 0 m_X0_run 34 [vR (some (1, 0)), vI b, vI x, vI (nI dp), vU] [] (if hi σ 1 0 1 < 20 then wI σ 100 0 (hi σ 1 0 1).toNatClampNeg b else σ) Q) : Ec d 0 0 m_X0_run [vR (some (1, 0)), vI b, vI x, vI (nI dp)] σ Q := by
  obtain ⟨hX, h2, h3, h4, t, h5, h6⟩ := hH
  have e20 : (20 : Int32) = nI 20 := by decide
  refine Ec_of mo_X0_run.1 (Nat.le_of_ble_eq_true rfl) ?_
  refine sX0_run_0 ?_
  unfold bX0_run_0
  refine br_f hb (br_f (nI_nlt (a := 40) (by omega) (by omega)) ⟨hX.k1_0, ?_⟩)
  rw [hX.n100]
  refine ⟨fun c => ⟨hX.k1_0, ?_, ?_⟩, fun c => ?_⟩
  · rw [h5] at c ⊢
    exact vp_in_nI ((nI_ltI (b := 20) (by omega) (by omega)).mp c) (by omega)
  · intro g1 e1
    subst e1
    rw [if_pos (show hi σ 1 0 1 < 20 from c)] at h
    exact h
  · rw [if_neg (show ¬ hi σ 1 0 1 < 20 from c)] at h
    exact h
theorem run_bh (σ : XH) (b : Int32) : wI (if hi σ 1 0 1 < 20 then wI σ 100 0 (hi σ 1 0 1).toNatClampNeg b else σ) 1 0 1 (hi (if hi σ 1 0 1 < 20 then wI σ 100 0 (hi σ 1 0 1).toNatClampNeg b else σ) 1 0 1 + 1) = bH σ b := by
  unfold bH
  by_cases c : hi σ 1 0 1 < 20
  · rw [if_pos c, hi_wI_ne _ _ _ _ (by decide)]
  · rw [if_neg c]
theorem rn_10 {d dp kk : Nat} {x n g : Int32} {σ : XH} {Q : XV → XH → Prop} (hd : 5 ≤ d) (hk : kk < 8) (hH : HOK σ (nI kk) n g 99) (hdp : dp ≤ 20) (h : Q (vI (x + n)) (pH σ ([10]))) : Ec d 0 0 m_X0_run [vR (some (1, 0)), vI 10, vI x, vI (nI dp)] σ Q := by
  refine sp_X0_run (hH.le (by omega)) (by decide) (by omega) ?_
  refine sX0_run_34 ?_
  unfold bX0_run_34
  intro g1 e1
  rw [run_bh] at e1
  subst e1
  have hH2 := hH.bH 10
  rw [nI_1]
  refine br_t rfl ?_
  rw [hH2.2.2.1]
  exact h
theorem ab_1_0 {d dp kk : Nat} {x n g : Int32} {σ : XH} {Q : XV → XH → Prop} (hd : 8 ≤ d) (hk : kk < 8) (hH : HOK σ (nI kk) n g 99) (hdp : dp ≤ 20) (h : Q (vI (x + n)) (pH σ ([10]))) : Ec d 0 0 m_X0_above [vR (some (1, 0)), vI 1, vI 0, vI x, vI (nI dp)] σ Q := by
  refine Ec_of mo_X0_above.1 (Nat.le_of_ble_eq_true rfl) ?_
  refine sX0_above_0 ?_
  unfold bX0_above_0
  refine br_f (by decide) (br_t (by decide) ⟨vp_at hH.1.n500 (vp_in_nI (n := 1) (by omega) (by omega)), ?_⟩)
  rw [show (1 : Int32).toNatClampNeg = 1 by decide, hH.1.2.2.2.2.1 1 _ rfl]
  refine sX0_above_21 ?_
  refine ⟨by omega, ?_⟩
  refine sp_X0_bodyFrom (a := 0) (k := 0) hH.1 (by omega) (by omega) ?_
  rw [show bfR 0 8 0 = 10 by decide]
  refine ⟨by omega, ?_⟩
  exact rn_10 (by omega) hk hH (by omega) h
theorem ab_6_0 {d dp kk : Nat} {x n g : Int32} {σ : XH} {Q : XV → XH → Prop} (hd : 8 ≤ d) (hk : kk < 8) (hH : HOK σ (nI kk) n g 99) (hdp : dp ≤ 20) (h : Q (vI (x + n)) (pH σ ([10]))) : Ec d 0 0 m_X0_above [vR (some (1, 0)), vI 6, vI 0, vI x, vI (nI dp)] σ Q := by
  refine Ec_of mo_X0_above.1 (Nat.le_of_ble_eq_true rfl) ?_
  refine sX0_above_0 ?_
  unfold bX0_above_0
  refine br_f (by decide) (br_t (by decide) ⟨vp_at hH.1.n500 (vp_in_nI (n := 6) (by omega) (by omega)), ?_⟩)
  rw [show (6 : Int32).toNatClampNeg = 6 by decide, hH.1.2.2.2.2.1 6 _ rfl]
  refine sX0_above_21 ?_
  refine ⟨by omega, ?_⟩
  refine sp_X0_bodyFrom (a := 0) (k := 0) hH.1 (by omega) (by omega) ?_
  rw [show bfR 0 8 0 = 10 by decide]
  refine ⟨by omega, ?_⟩
  exact rn_10 (by omega) hk hH (by omega) h
theorem ab_4_0 {d dp kk : Nat} {x n g : Int32} {σ : XH} {Q : XV → XH → Prop} (hd : 8 ≤ d) (hk : kk < 8) (hH : HOK σ (nI kk) n g 99) (hdp : dp ≤ 20) (h : Q (vI (x + n)) (pH σ ([10]))) : Ec d 0 0 m_X0_above [vR (some (1, 0)), vI 4, vI 0, vI x, vI (nI dp)] σ Q := by
  refine Ec_of mo_X0_above.1 (Nat.le_of_ble_eq_true rfl) ?_
  refine sX0_above_0 ?_
  unfold bX0_above_0
  refine br_f (by decide) (br_t (by decide) ⟨vp_at hH.1.n500 (vp_in_nI (n := 4) (by omega) (by omega)), ?_⟩)
  rw [show (4 : Int32).toNatClampNeg = 4 by decide, hH.1.2.2.2.2.1 4 _ rfl]
  refine sX0_above_21 ?_
  refine ⟨by omega, ?_⟩
  refine sp_X0_bodyFrom (a := 0) (k := 3) hH.1 (by omega) (by omega) ?_
  rw [show bfR 0 8 3 = 10 by decide]
  refine ⟨by omega, ?_⟩
  exact rn_10 (by omega) hk hH (by omega) h
theorem rn_20 {d dp kk : Nat} {x n g : Int32} {σ : XH} {Q : XV → XH → Prop} (hd : 10 ≤ d) (hk : kk < 8) (hH : HOK σ (nI kk) n g 98) (hdp : dp ≤ 19) (h : Q (vI ((x + n) ^^^ 1)) (pH σ ([20, 10]))) : Ec d 0 0 m_X0_run [vR (some (1, 0)), vI 20, vI x, vI (nI dp)] σ Q := by
  refine sp_X0_run (hH.le (by omega)) (by decide) (by omega) ?_
  refine sX0_run_34 ?_
  unfold bX0_run_34
  intro g1 e1
  rw [run_bh] at e1
  subst e1
  have hH2 := hH.bH 20
  rw [nI_1]
  refine br_f (by decide) (br_f (by decide) (br_f (by decide) (br_t rfl ?_)))
  refine ⟨by omega, ?_⟩
  exact ab_1_0 (by omega) hk hH2 (by omega) h
theorem rn_50 {d dp kk : Nat} {x n g : Int32} {σ : XH} {Q : XV → XH → Prop} (hd : 10 ≤ d) (hk : kk < 8) (hH : HOK σ (nI kk) n g 98) (hdp : dp ≤ 19) (h : Q (vI (x + 3 + n)) (pH σ ([50, 10]))) : Ec d 0 0 m_X0_run [vR (some (1, 0)), vI 50, vI x, vI (nI dp)] σ Q := by
  refine sp_X0_run (hH.le (by omega)) (by decide) (by omega) ?_
  refine sX0_run_34 ?_
  unfold bX0_run_34
  intro g1 e1
  rw [run_bh] at e1
  subst e1
  have hH2 := hH.bH 50
  rw [nI_1]
  refine br_f (by decide) (br_f (by decide) (br_f (by decide) (br_f (by decide) (br_f (by decide) (br_f (by decide) (br_t rfl ?_))))))
  refine ⟨by omega, ?_⟩
  exact ab_4_0 (by omega) hk hH2 (by omega) h
theorem rn_70 {d dp kk : Nat} {x n g : Int32} {σ : XH} {Q : XV → XH → Prop} (hd : 10 ≤ d) (hk : kk < 8) (hH : HOK σ (nI kk) n g 98) (hdp : dp ≤ 19) (h : Q (vI ((x + n) * 3)) (pH σ ([70, 10]))) : Ec d 0 0 m_X0_run [vR (some (1, 0)), vI 70, vI x, vI (nI dp)] σ Q := by
  refine sp_X0_run (hH.le (by omega)) (by decide) (by omega) ?_
  refine sX0_run_34 ?_
  unfold bX0_run_34
  intro g1 e1
  rw [run_bh] at e1
  subst e1
  have hH2 := hH.bH 70
  rw [nI_1]
  refine br_f (by decide) (br_f (by decide) (br_f (by decide) (br_f (by decide) (br_f (by decide) (br_f (by decide) (br_f (by decide) (br_f (by decide) (br_f (by decide) (br_t rfl ?_)))))))))
  refine sX0_run_258 ?_
  refine ⟨by omega, ?_⟩
  exact ab_6_0 (by omega) hk hH2 (by omega) h
theorem ow_0 {d dp kk : Nat} {x n g : Int32} {σ : XH} {Q : XV → XH → Prop} (hd : 13 ≤ d) (hk : kk < 8) (hH : HOK σ (nI kk) n g 98) (hdp : dp ≤ 19) (h : Q (vI (tmA n (nI kk) x).1) (pH σ (tmA n (nI kk) x).2)) : Ec d 0 0 m_X0_own [vR (some (1, 0)), vI 0, vI x, vI (nI dp)] σ Q := by
  refine Ec_of mo_X0_own.1 (Nat.le_of_ble_eq_true rfl) ?_
  refine sX0_own_0 ?_
  unfold bX0_own_0
  rw [hH.2.1]
  refine ⟨by omega, ?_⟩
  refine sp_X0_bodyFrom (a := 0) hH.1 (by omega) hk ?_
  refine ⟨by omega, ?_⟩
  unfold tmA at h
  match kk, hk with
  | 0, hk =>
    rw [if_neg (show ¬ nI 0 = 1 by decide), if_neg (show ¬ nI 0 = 4 by decide), if_neg (show ¬ nI 0 = 6 by decide)] at h
    rw [show bfR 0 8 0 = 10 by decide]
    exact rn_10 (by omega) hk (hH.le (by omega)) (by omega) h
  | 1, hk =>
    rw [if_pos (show nI 1 = 1 by decide)] at h
    rw [show bfR 0 8 1 = 20 by decide]
    exact rn_20 (by omega) hk (hH.le (by omega)) (by omega) h
  | 2, hk =>
    rw [if_neg (show ¬ nI 2 = 1 by decide), if_neg (show ¬ nI 2 = 4 by decide), if_neg (show ¬ nI 2 = 6 by decide)] at h
    rw [show bfR 0 8 2 = 10 by decide]
    exact rn_10 (by omega) hk (hH.le (by omega)) (by omega) h
  | 3, hk =>
    rw [if_neg (show ¬ nI 3 = 1 by decide), if_neg (show ¬ nI 3 = 4 by decide), if_neg (show ¬ nI 3 = 6 by decide)] at h
    rw [show bfR 0 8 3 = 10 by decide]
    exact rn_10 (by omega) hk (hH.le (by omega)) (by omega) h
  | 4, hk =>
    rw [if_neg (show ¬ nI 4 = 1 by decide), if_pos (show nI 4 = 4 by decide)] at h
    rw [show bfR 0 8 4 = 50 by decide]
    exact rn_50 (by omega) hk (hH.le (by omega)) (by omega) h
  | 5, hk =>
    rw [if_neg (show ¬ nI 5 = 1 by decide), if_neg (show ¬ nI 5 = 4 by decide), if_neg (show ¬ nI 5 = 6 by decide)] at h
    rw [show bfR 0 8 5 = 10 by decide]
    exact rn_10 (by omega) hk (hH.le (by omega)) (by omega) h
  | 6, hk =>
    rw [if_neg (show ¬ nI 6 = 1 by decide), if_neg (show ¬ nI 6 = 4 by decide), if_pos (show nI 6 = 6 by decide)] at h
    rw [show bfR 0 8 6 = 70 by decide]
    exact rn_70 (by omega) hk (hH.le (by omega)) (by omega) h
  | 7, hk =>
    rw [if_neg (show ¬ nI 7 = 1 by decide), if_neg (show ¬ nI 7 = 4 by decide), if_neg (show ¬ nI 7 = 6 by decide)] at h
    rw [show bfR 0 8 7 = 10 by decide]
    exact rn_10 (by omega) hk (hH.le (by omega)) (by omega) h
theorem rn_11 {d dp kk : Nat} {x n g : Int32} {σ : XH} {Q : XV → XH → Prop} (hd : 15 ≤ d) (hk : kk < 8) (hH : HOK σ (nI kk) n g 97) (hdp : dp ≤ 18) (h : Q (vI ((pwA n (nI kk) x).1)) (pH σ ((pwA n (nI kk) x).2))) : Ec d 0 0 m_X0_run [vR (some (1, 0)), vI 11, vI x, vI (nI dp)] σ Q := by
  refine sp_X0_run (hH.le (by omega)) (by decide) (by omega) ?_
  refine sX0_run_34 ?_
  unfold bX0_run_34
  intro g1 e1
  rw [run_bh] at e1
  subst e1
  have hH2 := hH.bH 11
  rw [nI_1]
  refine br_f (by decide) (br_t rfl ?_)
  refine ⟨by omega, ?_⟩
  exact ow_0 (by omega) hk hH2 (by omega) h
theorem ab_2_1 {d dp kk : Nat} {x n g : Int32} {σ : XH} {Q : XV → XH → Prop} (hd : 18 ≤ d) (hk : kk < 8) (hH : HOK σ (nI kk) n g 97) (hdp : dp ≤ 18) (h : Q (vI ((pwA n (nI kk) x).1)) (pH σ ((pwA n (nI kk) x).2))) : Ec d 0 0 m_X0_above [vR (some (1, 0)), vI 2, vI 1, vI x, vI (nI dp)] σ Q := by
  refine Ec_of mo_X0_above.1 (Nat.le_of_ble_eq_true rfl) ?_
  refine sX0_above_0 ?_
  unfold bX0_above_0
  refine br_f (by decide) (br_t (by decide) ⟨vp_at hH.1.n500 (vp_in_nI (n := 2) (by omega) (by omega)), ?_⟩)
  rw [show (2 : Int32).toNatClampNeg = 2 by decide, hH.1.2.2.2.2.1 2 _ rfl]
  refine sX0_above_21 ?_
  refine ⟨by omega, ?_⟩
  refine sp_X0_bodyFrom (a := 1) (k := 0) hH.1 (by omega) (by omega) ?_
  rw [show bfR 1 8 0 = 11 by decide]
  refine ⟨by omega, ?_⟩
  exact rn_11 (by omega) hk hH (by omega) h
theorem ab_5_1 {d dp kk : Nat} {x n g : Int32} {σ : XH} {Q : XV → XH → Prop} (hd : 18 ≤ d) (hk : kk < 8) (hH : HOK σ (nI kk) n g 97) (hdp : dp ≤ 18) (h : Q (vI ((pwA n (nI kk) x).1)) (pH σ ((pwA n (nI kk) x).2))) : Ec d 0 0 m_X0_above [vR (some (1, 0)), vI 5, vI 1, vI x, vI (nI dp)] σ Q := by
  refine Ec_of mo_X0_above.1 (Nat.le_of_ble_eq_true rfl) ?_
  refine sX0_above_0 ?_
  unfold bX0_above_0
  refine br_f (by decide) (br_t (by decide) ⟨vp_at hH.1.n500 (vp_in_nI (n := 5) (by omega) (by omega)), ?_⟩)
  rw [show (5 : Int32).toNatClampNeg = 5 by decide, hH.1.2.2.2.2.1 5 _ rfl]
  refine sX0_above_21 ?_
  refine ⟨by omega, ?_⟩
  refine sp_X0_bodyFrom (a := 1) (k := 0) hH.1 (by omega) (by omega) ?_
  rw [show bfR 1 8 0 = 11 by decide]
  refine ⟨by omega, ?_⟩
  exact rn_11 (by omega) hk hH (by omega) h
theorem rn_30 {d dp kk : Nat} {x n g : Int32} {σ : XH} {Q : XV → XH → Prop} (hd : 20 ≤ d) (hk : kk < 8) (hH : HOK σ (nI kk) n g 80) (hdp : dp ≤ 17) (h : Q (vI ((pwA n (nI kk) x).1 + (tmA n (nI kk) 2).1)) (pH σ (30 :: (pwA n (nI kk) x).2 ++ (tmA n (nI kk) 2).2))) : Ec d 0 0 m_X0_run [vR (some (1, 0)), vI 30, vI x, vI (nI dp)] σ Q := by
  refine sp_X0_run (hH.le (by omega)) (by decide) (by omega) ?_
  refine sX0_run_34 ?_
  unfold bX0_run_34
  intro g1 e1
  rw [run_bh] at e1
  subst e1
  have hH2 := hH.bH 30
  rw [nI_1]
  refine br_f (by decide) (br_f (by decide) (br_f (by decide) (br_f (by decide) (br_t rfl ?_))))
  refine ⟨by omega, ?_⟩
  refine ab_2_1 (by omega) hk (hH2.le (by omega)) (by omega) ⟨by omega, ?_⟩
  have hl := pwA_l n (nI kk) x
  refine ow_0 (by omega) hk ((hH2.pH (l := (pwA n (nI kk) x).2)).le (by omega)) (by omega) ?_
  rw [pH_app]
  exact h
theorem rn_60 {d dp kk : Nat} {x n g : Int32} {σ : XH} {Q : XV → XH → Prop} (hd : 20 ≤ d) (hk : kk < 8) (hH : HOK σ (nI kk) n g 80) (hdp : dp ≤ 17) (h : Q (vI ((pwA n (nI kk) x).1 ^^^ x)) (pH σ (60 :: (pwA n (nI kk) x).2))) : Ec d 0 0 m_X0_run [vR (some (1, 0)), vI 60, vI x, vI (nI dp)] σ Q := by
  refine sp_X0_run (hH.le (by omega)) (by decide) (by omega) ?_
  refine sX0_run_34 ?_
  unfold bX0_run_34
  intro g1 e1
  rw [run_bh] at e1
  subst e1
  have hH2 := hH.bH 60
  rw [nI_1]
  refine br_f (by decide) (br_f (by decide) (br_f (by decide) (br_f (by decide) (br_f (by decide) (br_f (by decide) (br_f (by decide) (br_f (by decide) (br_t rfl ?_))))))))
  refine ⟨by omega, ?_⟩
  exact ab_5_1 (by omega) hk (hH2.le (by omega)) (by omega) h
theorem ow_1 {d dp kk : Nat} {x n g : Int32} {σ : XH} {Q : XV → XH → Prop} (hd : 23 ≤ d) (hk : kk < 8) (hH : HOK σ (nI kk) n g 80) (hdp : dp ≤ 17) (h : Q (vI (weA n (nI kk) x).1) (pH σ (weA n (nI kk) x).2)) : Ec d 0 0 m_X0_own [vR (some (1, 0)), vI 1, vI x, vI (nI dp)] σ Q := by
  refine Ec_of mo_X0_own.1 (Nat.le_of_ble_eq_true rfl) ?_
  refine sX0_own_0 ?_
  unfold bX0_own_0
  rw [hH.2.1]
  refine ⟨by omega, ?_⟩
  refine sp_X0_bodyFrom (a := 1) hH.1 (by omega) hk ?_
  refine ⟨by omega, ?_⟩
  unfold weA at h
  match kk, hk with
  | 0, hk =>
    rw [if_neg (show ¬ nI 0 = 2 by decide), if_neg (show ¬ nI 0 = 5 by decide)] at h
    rw [show bfR 1 8 0 = 11 by decide]
    exact rn_11 (by omega) hk (hH.le (by omega)) (by omega) h
  | 1, hk =>
    rw [if_neg (show ¬ nI 1 = 2 by decide), if_neg (show ¬ nI 1 = 5 by decide)] at h
    rw [show bfR 1 8 1 = 11 by decide]
    exact rn_11 (by omega) hk (hH.le (by omega)) (by omega) h
  | 2, hk =>
    rw [if_pos (show nI 2 = 2 by decide)] at h
    rw [show bfR 1 8 2 = 30 by decide]
    exact rn_30 (by omega) hk (hH.le (by omega)) (by omega) h
  | 3, hk =>
    rw [if_neg (show ¬ nI 3 = 2 by decide), if_neg (show ¬ nI 3 = 5 by decide)] at h
    rw [show bfR 1 8 3 = 11 by decide]
    exact rn_11 (by omega) hk (hH.le (by omega)) (by omega) h
  | 4, hk =>
    rw [if_neg (show ¬ nI 4 = 2 by decide), if_neg (show ¬ nI 4 = 5 by decide)] at h
    rw [show bfR 1 8 4 = 11 by decide]
    exact rn_11 (by omega) hk (hH.le (by omega)) (by omega) h
  | 5, hk =>
    rw [if_neg (show ¬ nI 5 = 2 by decide), if_pos (show nI 5 = 5 by decide)] at h
    rw [show bfR 1 8 5 = 60 by decide]
    exact rn_60 (by omega) hk (hH.le (by omega)) (by omega) h
  | 6, hk =>
    rw [if_neg (show ¬ nI 6 = 2 by decide), if_neg (show ¬ nI 6 = 5 by decide)] at h
    rw [show bfR 1 8 6 = 11 by decide]
    exact rn_11 (by omega) hk (hH.le (by omega)) (by omega) h
  | 7, hk =>
    rw [if_neg (show ¬ nI 7 = 2 by decide), if_neg (show ¬ nI 7 = 5 by decide)] at h
    rw [show bfR 1 8 7 = 11 by decide]
    exact rn_11 (by omega) hk (hH.le (by omega)) (by omega) h
theorem rn_12 {d dp kk : Nat} {x n g : Int32} {σ : XH} {Q : XV → XH → Prop} (hd : 25 ≤ d) (hk : kk < 8) (hH : HOK σ (nI kk) n g 70) (hdp : dp ≤ 16) (h : Q (vI ((ptA n g (nI kk) x).1)) (pH σ ((ptA n g (nI kk) x).2))) : Ec d 0 0 m_X0_run [vR (some (1, 0)), vI 12, vI x, vI (nI dp)] σ Q := by
  refine sp_X0_run (hH.le (by omega)) (by decide) (by omega) ?_
  refine sX0_run_34 ?_
  unfold bX0_run_34
  intro g1 e1
  rw [run_bh] at e1
  subst e1
  have hH2 := hH.bH 12
  rw [nI_1]
  refine br_f (by decide) (br_f (by decide) (br_t rfl ?_))
  refine ⟨by omega, ?_⟩
  refine ow_1 (by omega) hk (hH2.le (by omega)) (by omega) ?_
  dsimp only [kI]
  rw [(hH2.pH (l := (weA n (nI kk) x).2)).2.2.2.1]
  exact h
theorem ab_3_2 {d dp kk : Nat} {x n g : Int32} {σ : XH} {Q : XV → XH → Prop} (hd : 28 ≤ d) (hk : kk < 8) (hH : HOK σ (nI kk) n g 70) (hdp : dp ≤ 16) (h : Q (vI ((ptA n g (nI kk) x).1)) (pH σ ((ptA n g (nI kk) x).2))) : Ec d 0 0 m_X0_above [vR (some (1, 0)), vI 3, vI 2, vI x, vI (nI dp)] σ Q := by
  refine Ec_of mo_X0_above.1 (Nat.le_of_ble_eq_true rfl) ?_
  refine sX0_above_0 ?_
  unfold bX0_above_0
  refine br_f (by decide) (br_t (by decide) ⟨vp_at hH.1.n500 (vp_in_nI (n := 3) (by omega) (by omega)), ?_⟩)
  rw [show (3 : Int32).toNatClampNeg = 3 by decide, hH.1.2.2.2.2.1 3 _ rfl]
  refine sX0_above_21 ?_
  refine ⟨by omega, ?_⟩
  refine sp_X0_bodyFrom (a := 2) (k := 0) hH.1 (by omega) (by omega) ?_
  rw [show bfR 2 8 0 = 12 by decide]
  refine ⟨by omega, ?_⟩
  exact rn_12 (by omega) hk hH (by omega) h
theorem ab_7_2 {d dp kk : Nat} {x n g : Int32} {σ : XH} {Q : XV → XH → Prop} (hd : 28 ≤ d) (hk : kk < 8) (hH : HOK σ (nI kk) n g 70) (hdp : dp ≤ 16) (h : Q (vI ((ptA n g (nI kk) x).1)) (pH σ ((ptA n g (nI kk) x).2))) : Ec d 0 0 m_X0_above [vR (some (1, 0)), vI 7, vI 2, vI x, vI (nI dp)] σ Q := by
  refine Ec_of mo_X0_above.1 (Nat.le_of_ble_eq_true rfl) ?_
  refine sX0_above_0 ?_
  unfold bX0_above_0
  refine br_f (by decide) (br_t (by decide) ⟨vp_at hH.1.n500 (vp_in_nI (n := 7) (by omega) (by omega)), ?_⟩)
  rw [show (7 : Int32).toNatClampNeg = 7 by decide, hH.1.2.2.2.2.1 7 _ rfl]
  refine sX0_above_21 ?_
  refine ⟨by omega, ?_⟩
  refine sp_X0_bodyFrom (a := 2) (k := 0) hH.1 (by omega) (by omega) ?_
  rw [show bfR 2 8 0 = 12 by decide]
  refine ⟨by omega, ?_⟩
  exact rn_12 (by omega) hk hH (by omega) h
theorem rn_40 {d dp kk : Nat} {x n g : Int32} {σ : XH} {Q : XV → XH → Prop} (hd : 30 ≤ d) (hk : kk < 8) (hH : HOK σ (nI kk) n g 60) (hdp : dp ≤ 15) (h : Q (vI ((etA n g (nI kk) x).1)) (pH σ ((etA n g (nI kk) x).2))) : Ec d 0 0 m_X0_run [vR (some (1, 0)), vI 40, vI x, vI (nI dp)] σ Q := by
  refine sp_X0_run (hH.le (by omega)) (by decide) (by omega) ?_
  refine sX0_run_34 ?_
  unfold bX0_run_34
  intro g1 e1
  rw [run_bh] at e1
  subst e1
  have hH2 := hH.bH 40
  rw [nI_1]
  refine br_f (by decide) (br_f (by decide) (br_f (by decide) (br_f (by decide) (br_f (by decide) (br_t rfl ?_)))))
  refine sX0_run_211 ?_
  refine ⟨by omega, ?_⟩
  exact ab_3_2 (by omega) hk (hH2.le (by omega)) (by omega) h
theorem ab_4_2 {d dp kk : Nat} {x n g : Int32} {σ : XH} {Q : XV → XH → Prop} (hd : 33 ≤ d) (hk : kk < 8) (hH : HOK σ (nI kk) n g 60) (hdp : dp ≤ 15) (h : Q (vI ((etA n g (nI kk) x).1)) (pH σ ((etA n g (nI kk) x).2))) : Ec d 0 0 m_X0_above [vR (some (1, 0)), vI 4, vI 2, vI x, vI (nI dp)] σ Q := by
  refine Ec_of mo_X0_above.1 (Nat.le_of_ble_eq_true rfl) ?_
  refine sX0_above_0 ?_
  unfold bX0_above_0
  refine br_f (by decide) (br_t (by decide) ⟨vp_at hH.1.n500 (vp_in_nI (n := 4) (by omega) (by omega)), ?_⟩)
  rw [show (4 : Int32).toNatClampNeg = 4 by decide, hH.1.2.2.2.2.1 4 _ rfl]
  refine sX0_above_21 ?_
  refine ⟨by omega, ?_⟩
  refine sp_X0_bodyFrom (a := 2) (k := 3) hH.1 (by omega) (by omega) ?_
  rw [show bfR 2 8 3 = 40 by decide]
  refine ⟨by omega, ?_⟩
  exact rn_40 (by omega) hk hH (by omega) h
theorem rn_51 {d dp kk : Nat} {x n g : Int32} {σ : XH} {Q : XV → XH → Prop} (hd : 35 ≤ d) (hk : kk < 8) (hH : HOK σ (nI kk) n g 50) (hdp : dp ≤ 14) (h : Q (vI ((etA n g (nI kk) x).1 + 5)) (pH σ (51 :: (etA n g (nI kk) x).2))) : Ec d 0 0 m_X0_run [vR (some (1, 0)), vI 51, vI x, vI (nI dp)] σ Q := by
  refine sp_X0_run (hH.le (by omega)) (by decide) (by omega) ?_
  refine sX0_run_34 ?_
  unfold bX0_run_34
  intro g1 e1
  rw [run_bh] at e1
  subst e1
  have hH2 := hH.bH 51
  rw [nI_1]
  refine br_f (by decide) (br_f (by decide) (br_f (by decide) (br_f (by decide) (br_f (by decide) (br_f (by decide) (br_f (by decide) (br_t rfl ?_)))))))
  refine ⟨by omega, ?_⟩
  exact ab_4_2 (by omega) hk (hH2.le (by omega)) (by omega) h
theorem rn_80 {d dp kk : Nat} {x n g : Int32} {σ : XH} {Q : XV → XH → Prop} (hd : 35 ≤ d) (hk : kk < 8) (hH : HOK σ (nI kk) n g 50) (hdp : dp ≤ 14) (h : Q (vI ((tmA n (nI kk) x).1 - (ptA n g (nI kk) x).1)) (pH σ (80 :: (tmA n (nI kk) x).2 ++ (ptA n g (nI kk) x).2))) : Ec d 0 0 m_X0_run [vR (some (1, 0)), vI 80, vI x, vI (nI dp)] σ Q := by
  refine sp_X0_run (hH.le (by omega)) (by decide) (by omega) ?_
  refine sX0_run_34 ?_
  unfold bX0_run_34
  intro g1 e1
  rw [run_bh] at e1
  subst e1
  have hH2 := hH.bH 80
  rw [nI_1]
  refine br_f (by decide) (br_f (by decide) (br_f (by decide) (br_f (by decide) (br_f (by decide) (br_f (by decide) (br_f (by decide) (br_f (by decide) (br_f (by decide) (br_f (by decide) (br_t rfl ?_))))))))))
  refine ⟨by omega, ?_⟩
  refine ow_0 (by omega) hk (hH2.le (by omega)) (by omega) ⟨by omega, ?_⟩
  have hl := tmA_l n (nI kk) x
  refine ab_7_2 (by omega) hk ((hH2.pH (l := (tmA n (nI kk) x).2)).le (by omega)) (by omega) ?_
  rw [pH_app]
  exact h
theorem ow_2 {d dp kk : Nat} {x n g : Int32} {σ : XH} {Q : XV → XH → Prop} (hd : 38 ≤ d) (hk : kk < 8) (hH : HOK σ (nI kk) n g 50) (hdp : dp ≤ 14) (h : Q (vI (teA n g (nI kk) x).1) (pH σ (teA n g (nI kk) x).2)) : Ec d 0 0 m_X0_own [vR (some (1, 0)), vI 2, vI x, vI (nI dp)] σ Q := by
  refine Ec_of mo_X0_own.1 (Nat.le_of_ble_eq_true rfl) ?_
  refine sX0_own_0 ?_
  unfold bX0_own_0
  rw [hH.2.1]
  refine ⟨by omega, ?_⟩
  refine sp_X0_bodyFrom (a := 2) hH.1 (by omega) hk ?_
  refine ⟨by omega, ?_⟩
  unfold teA at h
  match kk, hk with
  | 0, hk =>
    rw [if_neg (show ¬ nI 0 = 3 by decide), if_neg (show ¬ nI 0 = 4 by decide), if_neg (show ¬ nI 0 = 7 by decide)] at h
    rw [show bfR 2 8 0 = 12 by decide]
    exact rn_12 (by omega) hk (hH.le (by omega)) (by omega) h
  | 1, hk =>
    rw [if_neg (show ¬ nI 1 = 3 by decide), if_neg (show ¬ nI 1 = 4 by decide), if_neg (show ¬ nI 1 = 7 by decide)] at h
    rw [show bfR 2 8 1 = 12 by decide]
    exact rn_12 (by omega) hk (hH.le (by omega)) (by omega) h
  | 2, hk =>
    rw [if_neg (show ¬ nI 2 = 3 by decide), if_neg (show ¬ nI 2 = 4 by decide), if_neg (show ¬ nI 2 = 7 by decide)] at h
    rw [show bfR 2 8 2 = 12 by decide]
    exact rn_12 (by omega) hk (hH.le (by omega)) (by omega) h
  | 3, hk =>
    rw [if_pos (show nI 3 = 3 by decide)] at h
    rw [show bfR 2 8 3 = 40 by decide]
    exact rn_40 (by omega) hk (hH.le (by omega)) (by omega) h
  | 4, hk =>
    rw [if_neg (show ¬ nI 4 = 3 by decide), if_pos (show nI 4 = 4 by decide)] at h
    rw [show bfR 2 8 4 = 51 by decide]
    exact rn_51 (by omega) hk (hH.le (by omega)) (by omega) h
  | 5, hk =>
    rw [if_neg (show ¬ nI 5 = 3 by decide), if_neg (show ¬ nI 5 = 4 by decide), if_neg (show ¬ nI 5 = 7 by decide)] at h
    rw [show bfR 2 8 5 = 12 by decide]
    exact rn_12 (by omega) hk (hH.le (by omega)) (by omega) h
  | 6, hk =>
    rw [if_neg (show ¬ nI 6 = 3 by decide), if_neg (show ¬ nI 6 = 4 by decide), if_neg (show ¬ nI 6 = 7 by decide)] at h
    rw [show bfR 2 8 6 = 12 by decide]
    exact rn_12 (by omega) hk (hH.le (by omega)) (by omega) h
  | 7, hk =>
    rw [if_neg (show ¬ nI 7 = 3 by decide), if_neg (show ¬ nI 7 = 4 by decide), if_pos (show nI 7 = 7 by decide)] at h
    rw [show bfR 2 8 7 = 80 by decide]
    exact rn_80 (by omega) hk (hH.le (by omega)) (by omega) h
theorem ow_all {d a kk : Nat} {x n g : Int32} {σ : XH} {Q : XV → XH → Prop} (hd : 38 ≤ d) (hk : kk < 8) (ha : a < 3) (hH : HOK σ (nI kk) n g 50) (h : Q (vI (acA n g (nI kk) (nI a) x).1) (pH σ (acA n g (nI kk) (nI a) x).2)) : Ec d 0 0 m_X0_own [vR (some (1, 0)), vI (nI a), vI x, vI 0] σ Q := by
  unfold acA at h
  match a, ha with
  | 0, _ =>
    rw [if_pos (show nI 0 = 0 by decide)] at h
    exact ow_0 (dp := 0) (by omega) hk (hH.le (by omega)) (by omega) h
  | 1, _ =>
    rw [if_neg (show ¬ nI 1 = 0 by decide), if_pos (show nI 1 = 1 by decide)] at h
    exact ow_1 (dp := 0) (by omega) hk (hH.le (by omega)) (by omega) h
  | 2, _ =>
    rw [if_neg (show ¬ nI 2 = 0 by decide), if_neg (show ¬ nI 2 = 1 by decide)] at h
    exact ow_2 (dp := 0) (by omega) hk (hH.le (by omega)) (by omega) h
/-- the trace of the one is that of the other -/
def CAr (σ : XH) (S : SS) : Prop := hi σ 1 0 1 = S 12 63 ∧ ∃ t, S 12 63 = nI t ∧ t ≤ 100 ∧ ∀ k, k < 20 → k < t → hi σ 100 0 k = S 150 k
theorem CAr.b {σ : XH} {S : SS} (h : CAr σ S) (b : Int32) (hb : AOK S 99) : CAr (bH σ b) (bS S b) := by
  obtain ⟨h1, t, h2, h3, h4⟩ := h
  obtain ⟨t2, h5, h6⟩ := hb
  have et : t = t2 := nI_inj (by omega) (by omega) (h2.symm.trans h5)
  have e20 : ∀ {t : Nat}, t ≤ 100 → (nI t < 20 ↔ t < 20) := fun {t} ht => nI_ltI (b := 20) (by omega) (by omega)
  refine ⟨?_, t + 1, ?_, by omega, fun k hk hk2 => ?_⟩
  · unfold bH bS
    rw [hi_wI_eq, up2_eq, h1]
  · unfold bS
    rw [up2_eq, h2, nI_1]
  · unfold bH bS
    rw [hi_wI_ne _ _ _ _ (by decide), up2_s _ _ _ (by decide), h1, h2]
    by_cases c : nI t < 20
    · rw [if_pos c, if_pos c, nI_clamp (by omega), hi_wI_at, up2_at]
      by_cases ek : k = t
      · rw [if_pos ⟨rfl, ek⟩, if_pos ek]
      · rw [if_neg (fun z => ek z.2), if_neg ek]
        exact h4 k hk (by omega)
    · rw [if_neg c, if_neg c]
      have := mt (e20 h3).mpr c
      exact h4 k hk (by omega)
theorem CAr.p : ∀ (l : List Int32) {σ : XH} {S : SS} {b : Nat}, CAr σ S → AOK S b → b + l.length ≤ 100 → CAr (pH σ l) (pL S l)
  | [], _, _, _, h, _, _ => h
  | x :: l, σ, S, b, h, hb, hl => CAr.p l (h.b x (hb.le (by rw [List.length_cons] at hl; omega))) (hb.bS x) (by rw [List.length_cons] at hl; omega)
theorem pH_fi : ∀ (l : List Int32) (σ : XH), Fi (tl [1, 100]) σ (pH σ l)
  | [], σ => Fi.rf _ _
  | x :: l, σ => (bH_fi σ x).trans (pH_fi l (bH σ x))
theorem acA_l (n g k a x : Int32) : (acA n g k a x).2.length ≤ 50 := by
  have h1 := tmA_l n k x
  have h2 := weA_l n k x
  have h3 := ptA_l n g k x
  have h4 : (etA n g k x).2.length ≤ 8 := by
    show (ptA n g k x).2.length + 1 ≤ 8
    omega
  unfold acA
  split
  · omega
  · split
    · omega
    · unfold teA
      split
      · omega
      · split
        · rw [List.length_cons]
          omega
        · split
          · rw [List.length_append, List.length_cons]
            omega
          · omega
theorem sp_X10_act {d : Nat} {r a x : Int32} {S : SS} {ρ : List Nat} {σ : XH} {Q : XV → XH → Prop} (hd : 45 ≤ d) (hB : CBase σ S ρ) (hI : SInv S) (h : ∀ σ', Fi (tl [1, 100]) σ σ' → CAr σ' (actF S r a x).2 → Q (vI (actF S r a x).1) σ') : Ec d 0 0 m_X10_act [vR (some (11, 0)), vI r, vI a, vI x] σ Q := by
  obtain ⟨hX, hL, hS, hC, hR⟩ := hB
  have h90 := hI.l8
  unfold actF at h
  have none_ : ¬ (isRd S r ∧ inP a 0 2) → Ex d 0 0 m_X10_act 21 [vR (some (11, 0)), vU, vU, vU, vU] [] σ Q := fun z => by
    rw [if_neg z] at h
    refine sX10_act_21 ?_
    refine ⟨hX.k11_11, ?_⟩
    intro g1 e1
    subst e1
    refine h _ (Fi.wI (Fi.rf _ _) (by decide) _ _ _) ⟨?_, 0, ?_, by omega, fun k hk hk2 => absurd hk2 (Nat.not_lt_zero k)⟩
    · rw [hi_wI_eq]
      exact (up2_eq S 12 63 0).symm
    · rw [nI_0]
      exact up2_eq S 12 63 0
  refine Ec_of mo_X10_act.1 (Nat.le_of_ble_eq_true rfl) ?_
  refine sX10_act_0 ?_
  unfold bX10_act_0
  refine ⟨by omega, ?_⟩
  refine sp_X10_readingAt (by omega) hX hL hI.n8 hI.l8 (fun q hlq eq z => br_f some_ne ⟨by omega, ?_⟩) (fun z => br_t rfl (none_ (fun y => z y.1)))
  refine sp_X10_within (fun z2 => br_f (by decide) ⟨hX.k11_11, by omega, ?_⟩) (fun z2 => br_t rfl (none_ (fun y => z2 y.2)))
  subst eq
  rw [if_pos ⟨z, z2⟩, gS_nI S 122 (by omega), kN_eq S (by omega)] at h
  obtain ⟨g0, g1, g2, g3, g4, g5, g6, g7, g8, g9, g10⟩ := hR.2 q hlq
  have hkr := kN_rng hI hlq
  have vk : vp_in (kN S q) 8 := inP_c hkr (by decide) (by decide)
  have ek : kN S q = nI (kN S q).toNatClampNeg := nI_of_nn (vp_nn vk)
  have va : vp_in a 3 := inP_c z2 (by decide) (by decide)
  have ea : a = nI a.toNatClampNeg := nI_of_nn (vp_nn va)
  refine Ec_of mo_X0_begin.1 (Nat.le_of_ble_eq_true rfl) ?_
  refine sX0_begin_0 ?_
  unfold bX0_begin_0
  intro s1 e1
  subst e1
  have hR1 : CRd (wI σ 1 0 1 0) S := hR.tr (T := tl [1, 100]) (A := fun _ => false) (K := fun _ => false) (Fr.wI (Fr.rf _ _) (by decide) _ _ _) (SA.rf _ _ _) (by decide) (by decide) (by decide)
  refine drf_of rfl ⟨by omega, ?_⟩
  refine sp_X4_kindNow (by omega) hR1 hlq ?_
  intro s2 e2
  refine drf_of rfl ?_
  intro s3 e3
  refine drf_of rfl ?_
  intro s4 e4
  refine ⟨by omega, ?_⟩
  have f5 : ∀ k, hi s3 5 q k = hi σ 5 q k ∧ hi s2 5 q k = hi σ 5 q k := fun k => by
    rw [e3, hi_wI_ne _ _ _ _ (by decide), e2, hi_wI_ne _ _ _ _ (by decide), hi_wI_ne _ _ _ _ (by decide)]
    exact ⟨rfl, rfl⟩
  have hF : Fi (tl [1, 100]) σ s4 := by
    rw [e4, e3, e2]
    exact Fi.wI (Fi.wI (Fi.wI (Fi.wI (Fi.rf _ _) (by decide) _ _ _) (by decide) _ _ _) (by decide) _ _ _) (by decide) _ _ _
  have h11 : hi s4 1 0 1 = 0 := by
    rw [e4, hi_wI_k _ _ _ _ _ (by decide), e3, hi_wI_k _ _ _ _ _ (by decide), e2, hi_wI_k _ _ _ _ _ (by decide), hi_wI_eq]
  have hH : HOK s4 (nI (kN S q).toNatClampNeg) (nI q) (S 122 q) 50 := by
    refine ⟨hX.fi hF rfl rfl rfl, ?_, ?_, ?_, 0, by rw [h11, nI_0], by omega⟩
    · rw [e4, hi_wI_k _ _ _ _ _ (by decide), e3, hi_wI_k _ _ _ _ _ (by decide), e2, hi_wI_eq]
      exact ek
    · rw [e4, hi_wI_k _ _ _ _ _ (by decide), e3, hi_wI_eq, (f5 0).2, g0]
    · rw [e4, hi_wI_eq, (f5 3).1, g3]
  rw [ea]
  refine ow_all (by omega) (vp_lt vk) (vp_lt va) hH ?_
  rw [← ea, ← ek]
  refine h _ (hF.trans (pH_fi _ _)) ?_
  refine CAr.p _ (b := 0) ⟨?_, 0, ?_, by omega, fun k hk hk2 => absurd hk2 (Nat.not_lt_zero k)⟩ ⟨0, by rw [up2_eq, nI_0], Nat.le_refl _⟩ ?_
  · rw [h11, up2_eq]
  · rw [up2_eq, nI_0]
  · have := acA_l (nI q) (S 122 q) (kN S q) a x
    omega
