/-! ===== the class takes a clause; a text, whole ===== -/
def RR (σ : XH) (t n : Nat) (R : RT) : Prop := RU σ t n R.2 ∧ (∀ j, j ∈ [31, 32, 33, 34, 35, 36] → hi σ 6 t (j - 24) = R.1 j) ∧ hr σ 6 t 3 = some (103, t) ∧ hn σ 103 t = 6 ∧ ∀ h, h < 6 → hi σ 103 t h = R.1 (100 + h)
def CF (σ σ' : XH) (t : Nat) : Prop := Fi (tl [7, 6, 103, 104, 105]) σ σ' ∧ (∀ s i, s ≠ 7 → i ≠ t → hi σ' s i = hi σ s i) ∧ ∀ j, j < 3 → hi σ' 6 t j = hi σ 6 t j
theorem CF.rf (σ : XH) (t : Nat) : CF σ σ t := ⟨Fi.rf _ _, fun _ _ _ _ => rfl, fun _ _ => rfl⟩
theorem CF.trans {a b c : XH} {t : Nat} (h : CF a b t) (k : CF b c t) : CF a c t := ⟨h.1.trans k.1, fun s i h1 h2 => (k.2.1 s i h1 h2).trans (h.2.1 s i h1 h2), fun j hj => (k.2.2 j hj).trans (h.2.2 j hj)⟩
theorem RF.cf {σ σ' : XH} {t : Nat} (h : RF σ σ' t) : CF σ σ' t := ⟨h.1.sub (tl_sub (by decide)), h.2.1, fun j hj => h.2.2 j (by omega)⟩
theorem CF.cadv {σ σ' : XH} {t : Nat} (h : CF σ σ' t) (a : Nat) : CF σ (CSpotTimersLaw_law_r3327_87c8ce.cadv σ' a) t := h.trans (RF.cadv σ' t a).cf
theorem CF.w6 {σ σ' : XH} {t : Nat} (h : CF σ σ' t) {j : Nat} (hj : 3 ≤ j) (x : Int32) : CF σ (wI σ' 6 t j x) t := by
  refine h.trans ⟨Fi.wI (Fi.rf _ _) (by decide) _ _ _, fun s i h1 h2 => ?_, fun i hi_ => ?_⟩
  · by_cases c : s = 6
    · subst c
      funext k
      rw [hi_wI_i _ _ _ _ _ h2]
    · rw [hi_wI_ne _ _ _ _ c]
  · rw [hi_wI_k _ _ _ _ _ (by omega)]
theorem CF.w103 {σ σ' : XH} {t : Nat} (h : CF σ σ' t) (j : Nat) (x : Int32) : CF σ (wI σ' 103 t j x) t := by
  refine h.trans ⟨Fi.wI (Fi.rf _ _) (by decide) _ _ _, fun s i h1 h2 => ?_, fun i hi_ => ?_⟩
  · by_cases c : s = 103
    · subst c
      funext k
      rw [hi_wI_i _ _ _ _ _ h2]
    · rw [hi_wI_ne _ _ _ _ c]
  · rw [hi_wI_ne _ _ _ _ (show 6 ≠ 103 by decide)]
theorem PC.w {σ : XH} {n a s : Nat} {ch : Nat → Int32} (h : PC σ n a ch) (i k : Nat) (x : Int32) (hs : ∀ s', s' ∈ [7, 200, 500, 501, 513] → s' ≠ s) : PC (wI σ s i k x) n a ch := by
  refine h.fi (T := fun s' => decide (s' = s)) (Fi.wI (Fi.rf _ _) (decide_eq_true rfl) _ _ _) (fun s' hs' => decide_eq_false (hs s' hs'))
theorem RU.w {σ : XH} {t n s : Nat} {L : List Sst} (h : RU σ t n L) (i k : Nat) (x : Int32) (h104 : s ≠ 104) (h105 : s ≠ 105) (h6 : s = 6 → ¬ k = 6) : RU (wI σ s i k x) t n L := by
  obtain ⟨r1, r2, n1, n2, r140, hL, e6, hk⟩ := h
  refine ⟨r1, r2, n1, n2, r140, hL, ?_, fun j z hz => ?_⟩
  · by_cases c : s = 6
    · subst c
      rw [hi_wI_k _ _ _ _ _ (fun q => h6 rfl q.symm)]
      exact e6
    · rw [hi_wI_ne _ _ _ _ (fun q => c q.symm)]
      exact e6
  · rw [hi_wI_ne _ _ _ _ h104.symm, hi_wI_ne _ _ _ _ h105.symm]
    exact hk j z hz
theorem RR.set {σ : XH} {t n : Nat} {R : RT} (h : RR σ t n R) {j : Nat} (hj : j ∈ [31, 32, 33, 34, 35, 36]) (x : Int32) : RR (wI σ 6 t (j - 24) x) t n (rset R j x) := by
  obtain ⟨h1, h2, h3, h4, h5⟩ := h
  have hj' : 31 ≤ j ∧ j ≤ 36 := by revert hj; revert j; decide
  refine ⟨h1.w t (j - 24) x (by decide) (by decide) (fun _ => by omega), fun i hi_ => ?_, h3, h4, fun i hi_ => ?_⟩
  · have hi' : 31 ≤ i ∧ i ≤ 36 := by revert hi_; revert i; decide
    rw [hi_wI_at]
    show _ = if i = j then x else R.1 i
    by_cases c : i = j
    · rw [if_pos c, if_pos ⟨rfl, by rw [c]⟩]
    · rw [if_neg c, if_neg (fun q => c (by omega))]
      exact h2 i hi_
  · rw [hi_wI_ne _ _ _ _ (show 103 ≠ 6 by decide)]
    show _ = if 100 + i = j then x else R.1 (100 + i)
    rw [if_neg (by omega)]
    exact h5 i hi_
theorem RR.setw {σ : XH} {t n : Nat} {R : RT} (h : RR σ t n R) {i : Nat} (hi6 : i < 6) (x : Int32) : RR (wI σ 103 t i x) t n (rset R (100 + i) x) := by
  obtain ⟨h1, h2, h3, h4, h5⟩ := h
  refine ⟨h1.w t i x (by decide) (by decide) (fun q => absurd q (by decide)), fun j hj => ?_, h3, h4, fun j hj => ?_⟩
  · have hj' : 31 ≤ j ∧ j ≤ 36 := by revert hj; revert j; decide
    rw [hi_wI_ne _ _ _ _ (show 6 ≠ 103 by decide)]
    show _ = if j = 100 + i then x else R.1 j
    rw [if_neg (by omega)]
    exact h2 j hj
  · rw [hi_wI_at]
    show _ = if 100 + j = 100 + i then x else R.1 (100 + j)
    by_cases c : j = i
    · rw [if_pos ⟨rfl, c⟩, if_pos (by omega)]
    · rw [if_neg (fun q => c q.2), if_neg (by omega)]
      exact h5 j hj
theorem RR.cadv {σ : XH} {t n : Nat} {R : RT} (h : RR σ t n R) (a : Nat) : RR (CSpotTimersLaw_law_r3327_87c8ce.cadv σ a) t n R := by
  obtain ⟨h1, h2, h3, h4, h5⟩ := h
  have hF : Fi (tl [7]) σ (CSpotTimersLaw_law_r3327_87c8ce.cadv σ a) := Fi.wI (Fi.rf _ _) (by decide) _ _ _
  exact ⟨h1.cadv, fun j hj => by rw [hF.i (s := 6) rfl]; exact h2 j hj, by rw [hF.r]; exact h3, by rw [hF.n]; exact h4, fun j hj => by rw [hF.i (s := 103) rfl]; exact h5 j hj⟩
theorem RR.rf {σ σ' : XH} {t n : Nat} {R : RT} (h : RR σ t n R) (k : RF σ σ' t) {L : List Sst} (hL : RU σ' t n L) : RR σ' t n (R.1, L) := by
  obtain ⟨h1, h2, h3, h4, h5⟩ := h
  refine ⟨hL, fun j hj => ?_, by rw [k.1.r]; exact h3, by rw [k.1.n]; exact h4, fun j hj => ?_⟩
  · have hj' : 31 ≤ j ∧ j ≤ 36 := by revert hj; revert j; decide
    rw [k.2.2 (j - 24) (by omega)]
    exact h2 j hj
  · rw [k.1.i (s := 103) rfl]
    exact h5 j hj
theorem in48 {x lo hi : Int32} {a b : Int} (h1 : lo.toInt = a) (h2 : hi.toInt = b) (ha : -1000 ≤ a) (hb : b ≤ 1000) (h3 : (lo + 48).toInt = a + 48) (h4 : (hi + 48).toInt = b + 48) : inP (x - 48) lo hi ↔ inP x (lo + 48) (hi + 48) := by
  have r := fb_rng x
  have e48 : (48 : Int32).toInt = 48 := by decide
  rw [inP_iff, inP_iff, fa_lt, fa_lt, fa_lt, fa_lt, h1, h2, h3, h4]
  rcases Decidable.em (x.toInt < -2147483600) with q | q
  · have e : (x - 48).toInt = x.toInt - 48 + 4294967296 := by
      rw [Int32.toInt_sub, e48, Int.bmod_def]
      omega
    rw [e]
    omega
  · rw [fb_subI (by rw [e48]; omega) (by rw [e48]; omega), e48]
    omega
theorem inEd (x : Int32) : inP (x - 48) 1 4 ↔ inP x 49 52 := in48 (a := 1) (b := 4) (by decide) (by decide) (by omega) (by omega) (by decide) (by decide)
theorem inHd (x : Int32) : inP (x - 48) 0 5 ↔ inP x 48 53 := in48 (a := 0) (b := 5) (by decide) (by decide) (by omega) (by omega) (by decide) (by decide)
theorem lp_cedges {d rc rs n t : Nat} {ch : Nat → Int32} {R : RT} {Q : XV → XH → Prop} (hd : 2 ≤ d) : ∀ (j i a : Nat) (e : Int32) (σ : XH), i + j = 4 → PC σ n a ch → RR σ t n R →
    ((gEd ch n j a e).1 = true ∧ ¬ (gEd ch n j a e).2.2 = 0 → ∀ σ', CF σ σ' t → PC σ' n (gEd ch n j a e).2.1 ch → RR σ' t n (rset R 31 (gEd ch n j a e).2.2) → Q (vI 1) σ') →
    (¬ ((gEd ch n j a e).1 = true ∧ ¬ (gEd ch n j a e).2.2 = 0) → ∀ σ', CF σ σ' t → PC σ' n (gEd ch n j a e).2.1 ch → Q (vI 0) σ') → Ex d rc rs m_X6_takesEdges 4 [vR (some (7, 0)), vR (some (6, t)), vI e, vI (nI i), vU] [] σ Q := by
  intro j
  have f63 : ∀ (j a : Nat) (e : Int32) (σ : XH), gEd ch n j a e = (true, a, e) → PC σ n a ch → RR σ t n R →
      ((gEd ch n j a e).1 = true ∧ ¬ (gEd ch n j a e).2.2 = 0 → ∀ σ', CF σ σ' t → PC σ' n (gEd ch n j a e).2.1 ch → RR σ' t n (rset R 31 (gEd ch n j a e).2.2) → Q (vI 1) σ') →
      (¬ ((gEd ch n j a e).1 = true ∧ ¬ (gEd ch n j a e).2.2 = 0) → ∀ σ', CF σ σ' t → PC σ' n (gEd ch n j a e).2.1 ch → Q (vI 0) σ') → Ex d rc rs m_X6_takesEdges 63 [vU, vR (some (6, t)), vI e, vU, vU] [] σ Q := fun j a e σ eg hP hR hs hf => by
    rw [eg] at hs hf
    refine sX6_takesEdges_63 (drf_of rfl ?_)
    intro g eg2
    rw [eg2]
    have p := hP.w (s := 6) t 7 e (by decide)
    have r : RR (wI σ 6 t 7 e) t n (rset R 31 e) := hR.set (j := 31) (by decide) e
    have c := (CF.rf σ t).w6 (j := 7) (by omega) e
    exact ⟨fun z => sX6_takesEdges_77 ⟨Or.inl rfl, hf (fun y => y.2 z) _ c p⟩, fun z => sX6_takesEdges_77 ⟨Or.inr rfl, hs ⟨rfl, z⟩ _ c p r⟩⟩
  induction j with
  | zero =>
    intro i a e σ hij hP hR hs hf
    refine sX6_takesEdges_4 ⟨fun z => ?_, fun _ => f63 0 a e σ rfl hP hR hs hf⟩
    have := (c_lt (n := i) (N := 4) (by omega) (by omega)).mp z
    omega
  | succ j ih =>
    intro i a e σ hij hP hR hs hf
    refine sX6_takesEdges_4 ⟨fun _ => ⟨by omega, sp_X6_next hP ⟨by omega, sp_X10_isEdgeNumber (by omega) (fun c => br_f (by decide) ⟨by omega, sp_X6_next hP ?_⟩) (fun c => br_t rfl ?_)⟩⟩, fun z => absurd ((c_lt (n := i) (N := 4) (by omega) (by omega)).mpr (by omega)) z⟩
    · rw [inEd] at c
      have hlt : a < n := gN_lt (c := gN ch n a) rfl (fun y => by
        rw [y] at c
        exact absurd c (by decide))
      dsimp only [kI]
      refine ⟨fun z => ?_, fun z => ⟨Or.inl rfl, ?_⟩⟩
      · have eg : gEd ch n (j + 1) a e = gEd ch n j (a + 1) (e ||| (1 <<< ((gN ch n a - 48) &&& 31))) := by
          show (if _ then _ else _) = _
          rw [if_pos c, if_pos z]
        rw [eg] at hs hf
        intro g eg2
        rw [hP.2.2.1, nI_1] at eg2
        have e' : g = cadv σ (a + 1) := eg2
        rw [e', nI_1]
        have c0 := (CF.rf σ t).cadv (a + 1)
        exact ih (i + 1) (a + 1) _ (cadv σ (a + 1)) (by omega) (hP.cadv hlt) (hR.cadv _) (fun h1 σ' k1 k2 k3 => hs h1 σ' (c0.trans k1) k2 k3) (fun h1 σ' k1 k2 => hf h1 σ' (c0.trans k1) k2)
      · have eg : gEd ch n (j + 1) a e = (false, a, e) := by
          show (if _ then _ else _) = _
          rw [if_pos c, if_neg z]
        rw [eg] at hf
        exact hf (fun y => Bool.noConfusion y.1) σ (CF.rf σ t) hP
    · rw [inEd] at c
      have eg : gEd ch n (j + 1) a e = (true, a, e) := if_neg c
      exact f63 (j + 1) a e σ eg hP hR hs hf
theorem sp_X6_takesEdges {d n a t : Nat} {ch : Nat → Int32} {R : RT} {σ : XH} {Q : XV → XH → Prop} (hd : 2 ≤ d) (hP : PC σ n a ch) (hR : RR σ t n R)
    (h1 : (gEdges ch n a R).1 = true → ∀ σ', CF σ σ' t → PC σ' n (gEdges ch n a R).2.1 ch → RR σ' t n (gEdges ch n a R).2.2 → Q (vI 1) σ')
    (h0 : (gEdges ch n a R).1 = false → ∀ σ', CF σ σ' t → PC σ' n (gEdges ch n a R).2.1 ch → Q (vI 0) σ') : Ec d 0 0 m_X6_takesEdges [vR (some (7, 0)), vR (some (6, t))] σ Q := by
  refine Ec_of mo_X6_takesEdges.1 (Nat.le_of_ble_eq_true rfl) ?_
  refine sX6_takesEdges_0 ?_
  unfold bX6_takesEdges_0
  have e1 : (gEdges ch n a R).1 = ((gEd ch n 4 a 0).1 && decide (¬ (gEd ch n 4 a 0).2.2 = 0)) := rfl
  refine lp_cedges hd 4 0 a 0 σ rfl hP hR (fun k σ' k1 k2 k3 => h1 ?_ σ' k1 k2 k3) (fun k σ' k1 k2 => h0 ?_ σ' k1 k2)
  · rw [e1, k.1, decide_eq_true k.2]
    rfl
  · rw [e1]
    by_cases c : (gEd ch n 4 a 0).1 = true
    · rw [c, decide_eq_false (fun y => k ⟨c, y⟩)]
      rfl
    · have : (gEd ch n 4 a 0).1 = false := by simpa using c
      rw [this]
      rfl
theorem sp_X6_takesBlur {d n a t : Nat} {ch : Nat → Int32} {R : RT} {σ : XH} {Q : XV → XH → Prop} (hd : 1 ≤ d) (hP : PC σ n a ch) (hR : RR σ t n R)
    (h1 : (gBlur ch n a R).1 = true → ∀ σ', CF σ σ' t → PC σ' n (gBlur ch n a R).2.1 ch → RR σ' t n (gBlur ch n a R).2.2 → Q (vI 1) σ')
    (h0 : (gBlur ch n a R).1 = false → ∀ σ', CF σ σ' t → PC σ' n (gBlur ch n a R).2.1 ch → Q (vI 0) σ') : Ec d 0 0 m_X6_takesBlur [vR (some (7, 0)), vR (some (6, t))] σ Q := by
  have f66 : ∀ q : Int32, a < n → gBlur ch n a R = (true, a + 1, rset R 32 q) → ∀ g, g = wI σ 6 t 8 q → Ex d 0 0 m_X6_takesBlur 66 [vR (some (7, 0)), vU] [] g Q := fun q hlt eb g e => by
    rw [eb] at h1
    refine sX6_takesBlur_66 ?_
    intro g2 e2
    have p := hP.w (s := 6) t 8 q (by decide)
    have r : RR (wI σ 6 t 8 q) t n (rset R 32 q) := hR.set (j := 32) (by decide) q
    have c := (CF.rf σ t).w6 (j := 8) (by omega) q
    rw [e, p.2.2.1, nI_1] at e2
    have e2' : g2 = cadv (wI σ 6 t 8 q) (a + 1) := e2
    rw [e2']
    exact ⟨Or.inr rfl, h1 rfl _ (c.cadv _) (p.cadv hlt) (r.cadv _)⟩
  refine Ec_of mo_X6_takesBlur.1 (Nat.le_of_ble_eq_true rfl) ?_
  refine sX6_takesBlur_0 ?_
  unfold bX6_takesBlur_0
  refine ⟨hd, sp_X6_next hP ⟨fun c => drf_of rfl (f66 0 (gN_lt c (by decide)) (by unfold gBlur; rw [if_pos c])), fun c1 => ⟨fun c => drf_of rfl (f66 2 (gN_lt c (by decide)) (by unfold gBlur; rw [if_neg c1, if_neg (by rw [c]; decide), if_pos c])), fun c2 => ⟨fun c => drf_of rfl (f66 1 (gN_lt c (by decide)) (by unfold gBlur; rw [if_neg c1, if_pos c])), fun c3 => ⟨Or.inl rfl, ?_⟩⟩⟩⟩⟩
  have eb : gBlur ch n a R = (false, a, R) := by unfold gBlur; rw [if_neg c1, if_neg c3, if_neg c2]
  rw [eb] at h0
  exact h0 rfl σ (CF.rf σ t) hP
theorem sp_X6_takesRest {d n a t : Nat} {ch : Nat → Int32} {R : RT} {σ : XH} {Q : XV → XH → Prop} (hd : 2 ≤ d) (hP : PC σ n a ch) (hR : RR σ t n R)
    (h1 : (gRest ch n a R).1 = true → ∀ σ', CF σ σ' t → PC σ' n (gRest ch n a R).2.1 ch → RR σ' t n (gRest ch n a R).2.2 → Q (vI 1) σ')
    (h0 : (gRest ch n a R).1 = false → ∀ σ', CF σ σ' t → PC σ' n (gRest ch n a R).2.1 ch → Q (vI 0) σ') : Ec d 0 0 m_X6_takesRest [vR (some (7, 0)), vR (some (6, t))] σ Q := by
  refine Ec_of mo_X6_takesRest.1 (Nat.le_of_ble_eq_true rfl) ?_
  refine sX6_takesRest_0 ?_
  unfold bX6_takesRest_0
  have hle := gD_le (ch := ch) 4 a 0 hP.2.2.2.2.1
  refine ⟨by omega, sp_X6_takesDigits (m := 3) (by omega) (by omega) hP (fun z => ?_) (fun z => ?_)⟩
  · have eb : gRest ch n a R = (true, (gD ch n 4 a 0).1, rset R 33 (gD ch n 4 a 0).2) := if_pos z
    rw [eb] at h1
    have hnn := (cD_all (ch := ch) (n := n) (m := 3) (a := a) (by omega)).2 z
    dsimp only [kI]
    refine drf_of rfl ?_
    intro g e
    refine drf_of rfl ?_
    have e9 : hi g 6 t 9 = (gD ch n (3 + 1) a 0).2 := by rw [e, hi_wI_eq]
    rw [e9, e]
    have p := (hP.cadv hle).w (s := 6) t 9 (gD ch n 4 a 0).2 (by decide)
    have r : RR (wI (cadv σ (gD ch n 4 a 0).1) 6 t 9 (gD ch n 4 a 0).2) t n (rset R 33 (gD ch n 4 a 0).2) := (hR.cadv _).set (j := 33) (by decide) _
    have c := ((CF.rf σ t).cadv (gD ch n 4 a 0).1).w6 (j := 9) (by omega) (gD ch n 4 a 0).2
    have e0 : (0 : Int32).toInt = 0 := by decide
    refine ⟨fun y => ?_, fun _ => sX6_takesRest_21 ⟨Or.inr rfl, h1 rfl _ c p r⟩⟩
    rw [fa_lt, e0] at y
    omega
  · have eb : gRest ch n a R = (false, a, R) := if_neg z
    rw [eb] at h0
    dsimp only [kI]
    refine drf_of rfl ?_
    intro g e
    refine drf_of rfl ?_
    have e9 : hi g 6 t 9 = -1 := by rw [e, hi_wI_eq]
    rw [e9, e]
    exact ⟨fun _ => sX6_takesRest_21 ⟨Or.inl rfl, h0 rfl _ ((CF.rf σ t).w6 (j := 9) (by omega) _) (hP.w (s := 6) t 9 (-1) (by decide))⟩, fun y => absurd (by decide) y⟩
theorem sp_X6_takesWeight {d n a t : Nat} {ch : Nat → Int32} {R : RT} {σ : XH} {Q : XV → XH → Prop} (hd : 6 ≤ d) (hP : PC σ n a ch) (hR : RR σ t n R)
    (h1 : (gWeigh ch n a R).1 = true → ∀ σ', CF σ σ' t → PC σ' n (gWeigh ch n a R).2.1 ch → RR σ' t n (gWeigh ch n a R).2.2 → Q (vI 1) σ')
    (h0 : (gWeigh ch n a R).1 = false → ∀ σ', CF σ σ' t → PC σ' n (gWeigh ch n a R).2.1 ch → Q (vI 0) σ') : Ec d 0 0 m_X6_takesWeight [vR (some (7, 0)), vR (some (6, t))] σ Q := by
  refine Ec_of mo_X6_takesWeight.1 (Nat.le_of_ble_eq_true rfl) ?_
  refine sX6_takesWeight_0 ?_
  unfold bX6_takesWeight_0
  refine ⟨by omega, sp_X6_next hP ⟨by omega, sp_X10_isHand (by omega) (fun c => br_f (by decide) ?_) (fun c => br_t rfl ?_)⟩⟩
  · rw [inHd] at c
    have hlt : a < n := gN_lt (c := gN ch n a) rfl (fun y => by
      rw [y] at c
      exact absurd c (by decide))
    have hh : ∃ i, i < 6 ∧ gN ch n a - 48 = nI i := by
      have c' := c
      rw [inP_iff] at c'
      have e1 : (48 : Int32).toInt = 48 := by decide
      have e2 : (53 : Int32).toInt = 53 := by decide
      rw [fa_lt, fa_lt, e1, e2] at c'
      refine ⟨((gN ch n a).toInt - 48).toNat, by omega, ?_⟩
      apply Int32.toInt_inj.mp
      rw [nI_toInt (by omega), fb_subI (by rw [e1]; omega) (by rw [e1]; omega), e1]
      omega
    obtain ⟨i, hi6, ei⟩ := hh
    obtain ⟨r1, r2, r3, r4, r5⟩ := id hR
    refine drf_of rfl ⟨r3, ?_⟩
    rw [ei, r4]
    refine ⟨fun _ => ?_, fun z => absurd ((c_lt (n := i) (N := 6) (by omega) (by omega)).mpr hi6) z⟩
    intro g e
    rw [hP.2.2.1, nI_1] at e
    have e' : g = cadv σ (a + 1) := e
    rw [e']
    have c0 := (CF.rf σ t).cadv (a + 1)
    have p0 := hP.cadv (a' := a + 1) hlt
    have q0 := hR.cadv (a + 1)
    have neg : ∀ a', gWeigh ch n a R = (false, a', R) → ∀ σ', CF σ σ' t → PC σ' n a' ch → Ex d 0 0 m_X6_takesWeight 54 [vU, vR (some (6, t)), vI (nI i), vU] [vI (-1)] σ' Q := fun a' eb σ' k1 k2 => by
      rw [eb] at h0
      exact sX6_takesWeight_54 ⟨fun _ => ⟨Or.inl rfl, h0 rfl σ' k1 k2⟩, fun z => absurd (by decide) z⟩
    refine ⟨by omega, sp_X6_takes (w := [32]) (by omega) (by omega) rfl (by decide) (by decide) p0 (fun w => br_f (by decide) ⟨by omega, ?_⟩) (fun w => br_t rfl ?_)⟩
    · have cs : gN ch n (a + 1) = 32 := by
        by_cases cs : gN ch n (a + 1) = 32
        · exact cs
        · rw [show gW ch n [32] (a + 1) = (false, a + 1) from if_neg cs] at w
          exact Bool.noConfusion w
      have hlt2 : a + 2 ≤ n := gN_lt cs (by decide)
      rw [show gW ch n [32] (a + 1) = (true, a + 2) from if_pos cs, cadv_cadv]
      have p2 := hP.cadv (a' := a + 2) hlt2
      refine sp_X6_takesDigits (m := 1) (by omega) (by omega) p2 (fun z => ?_) (fun z => ?_)
      · have hnn := (cD_all (ch := ch) (n := n) (m := 1) (a := a + 2) (by omega)).2 z
        have hle := gD_le (ch := ch) 2 (a + 2) 0 hlt2
        have eb : gWeigh ch n a R = (true, (gD ch n 2 (a + 2) 0).1, rset R (100 + i) (gD ch n 2 (a + 2) 0).2) := by
          unfold gWeigh
          rw [if_pos c, if_pos cs, if_pos z, ei, nI_clamp (by omega)]
        rw [eb] at h1
        rw [cadv_cadv]
        have e0 : (0 : Int32).toInt = 0 := by decide
        refine sX6_takesWeight_54 ⟨fun y => ?_, fun _ => drf_of rfl ⟨r3, vp_at r4 (vp_in_nI hi6 (by omega)), ?_⟩⟩
        · rw [fa_lt, e0] at y
          omega
        · intro g e
          rw [nI_clamp (by omega)] at e
          rw [e]
          exact ⟨Or.inr rfl, h1 rfl _ (((CF.rf σ t).cadv _).w103 i _) ((hP.cadv hle).w (s := 103) t i _ (by decide)) ((hR.cadv _).setw hi6 _)⟩
      · exact neg (a + 2) (by unfold gWeigh; rw [if_pos c, if_pos cs, if_neg z]) _ ((CF.rf σ t).cadv _) p2
    · have cs : ¬ gN ch n (a + 1) = 32 := fun cs => by
        rw [show gW ch n [32] (a + 1) = (true, a + 2) from if_pos cs] at w
        exact Bool.noConfusion w
      rw [show gW ch n [32] (a + 1) = (false, a + 1) from if_neg cs, cadv_cadv]
      exact neg (a + 1) (by unfold gWeigh; rw [if_pos c, if_neg cs]) _ c0 p0
  · rw [inHd] at c
    have eb : gWeigh ch n a R = (false, a, R) := by unfold gWeigh; rw [if_neg c]
    rw [eb] at h0
    exact sX6_takesWeight_24 ⟨Or.inl rfl, h0 rfl σ (CF.rf σ t) hP⟩
