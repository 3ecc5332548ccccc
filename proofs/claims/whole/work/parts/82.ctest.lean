/-! ===== a test; how the class takes it ===== -/
theorem PC.fi {T : Nat → Bool} {σ σ' : XH} {n a : Nat} {ch : Nat → Int32} (h : PC σ n a ch) (hF : Fi T σ σ') (t : ∀ s, s ∈ [7, 200, 500, 501, 513] → T s = false) : PC σ' n a ch := by
  obtain ⟨h1, h2, h3, h4, h5, h6⟩ := h
  have i7 := hF.i (t 7 (by decide))
  have i200 := hF.i (t 200 (by decide))
  exact ⟨h1.fi hF (t 500 (by decide)) (t 501 (by decide)) (t 513 (by decide)), by rw [i7]; exact h2, by rw [i7]; exact h3, h4, h5, fun k hk => by rw [i200]; exact h6 k hk⟩
/-- what the reading of a test may change: the cursor, and the steps of the rule's cell t -/
def RF (σ σ' : XH) (t : Nat) : Prop := Fi (tl [7, 6, 104, 105]) σ σ' ∧ (∀ s i, s ≠ 7 → i ≠ t → hi σ' s i = hi σ s i) ∧ (∀ j, j ≠ 6 → hi σ' 6 t j = hi σ 6 t j)
theorem RF.rf (σ : XH) (t : Nat) : RF σ σ t := ⟨Fi.rf _ _, fun _ _ _ _ => rfl, fun _ _ => rfl⟩
theorem RF.trans {a b c : XH} {t : Nat} (h : RF a b t) (k : RF b c t) : RF a c t := ⟨h.1.trans k.1, fun s i h1 h2 => (k.2.1 s i h1 h2).trans (h.2.1 s i h1 h2), fun j hj => (k.2.2 j hj).trans (h.2.2 j hj)⟩
theorem RF.cadv (σ : XH) (t a : Nat) : RF σ (cadv σ a) t := by
  unfold CSpotTimersLaw_law_r3327_87c8ce.cadv
  exact ⟨Fi.wI (Fi.rf _ _) (by decide) _ _ _, fun s i h1 _ => by rw [hi_wI_ne _ _ _ _ h1], fun j _ => by rw [hi_wI_ne _ _ _ _ (by decide)]⟩
theorem RU.cadv {σ : XH} {t room a : Nat} {L : List (Int32 × Int32)} (h : RU σ t room L) : RU (CSpotTimersLaw_law_r3327_87c8ce.cadv σ a) t room L := by
  obtain ⟨r1, r2, n1, n2, r140, hL, h6, hk⟩ := h
  have hF : Fi (tl [7]) σ (CSpotTimersLaw_law_r3327_87c8ce.cadv σ a) := Fi.wI (Fi.rf _ _) (by decide) _ _ _
  exact ⟨by rw [hF.r]; exact r1, by rw [hF.r]; exact r2, by rw [hF.n]; exact n1, by rw [hF.n]; exact n2, r140, hL, by rw [hF.i (s := 6) rfl]; exact h6, fun k x hx => by rw [hF.i (s := 104) rfl, hF.i (s := 105) rfl]; exact hk k x hx⟩
theorem sp_X6_takesTest {d n a t room : Nat} {ch : Nat → Int32} {L : List (Int32 × Int32)} {σ : XH} {Q : XV → XH → Prop} (hd : 6 ≤ d) (hP : PC σ n a ch) (hR : RU σ t room L) (hlt : L.length < room)
    (h1 : (gT ch n a).1 = true → ∀ σ', RF σ σ' t → PC σ' n (gT ch n a).2.1 ch → RU σ' t room (L ++ [((gT ch n a).2.2.1, (gT ch n a).2.2.2)]) → Q (vI 1) σ')
    (h0 : (gT ch n a).1 = false → ∀ σ', RF σ σ' t → PC σ' n (gT ch n a).2.1 ch → (∃ L', RU σ' t room L') → Q (vI 0) σ') : Ec d 0 0 m_X6_takesTest [vR (some (7, 0)), vR (some (6, t))] σ Q := by
  have f128 : ∀ (m : Nat) (sg : Int32), m < 6 → gT ch n a = gTn ch n (m + 1) (a + 2) sg → a + 2 ≤ n → Ex d 0 0 m_X6_takesTest 128 [vR (some (7, 0)), vR (some (6, t)), vI sg, vI (nI (m + 1)), vU] [] (cadv σ (a + 2)) Q := fun m sg hm eg ha2 => by
    unfold gTn at eg
    refine sX6_takesTest_128 ⟨by omega, sp_X6_takesDigits (by omega) hm (hP.cadv ha2) (fun z => ?_) (fun z => ?_)⟩
    · rw [if_pos z] at eg
      rw [eg] at h1
      have hle := gD_le (ch := ch) (m + 1) (a + 2) 0 ha2
      have hnn := (cD_all (ch := ch) (n := n) (a := a + 2) hm).2 z
      rw [cadv_cadv]
      generalize (gD ch n (m + 1) (a + 2) 0).2 = v at *
      generalize (gD ch n (m + 1) (a + 2) 0).1 = a' at *
      dsimp only [kI]
      refine drf_of rfl ⟨by omega, sp_X5_addStep (hR.cadv (a := a')) hlt (fun σ' k1 k2 k3 k4 => ?_)⟩
      have hfin : Q (vI 1) σ' := h1 rfl σ' ((RF.cadv σ t a').trans ⟨k1.sub (tl_sub (by decide)), fun s i _ hit => k2 s i hit, k3⟩) ((hP.cadv hle).fi k1 (by decide)) k4
      have e0 : (0 : Int32).toInt = 0 := by decide
      refine ⟨fun c => ?_, fun _ => sX6_takesTest_152 ⟨Or.inr rfl, hfin⟩⟩
      rw [fa_lt, e0] at c
      omega
    · rw [if_neg z] at eg
      rw [eg] at h0
      dsimp only [kI]
      refine drf_of rfl ⟨by omega, sp_X5_addStep (hR.cadv (a := a + 2)) hlt (fun σ' k1 k2 k3 k4 => ?_)⟩
      have hfin : Q (vI 0) σ' := h0 rfl σ' ((RF.cadv σ t (a + 2)).trans ⟨k1.sub (tl_sub (by decide)), fun s i _ hit => k2 s i hit, k3⟩) ((hP.cadv ha2).fi k1 (by decide)) ⟨_, k4⟩
      exact ⟨fun _ => sX6_takesTest_152 ⟨Or.inl rfl, hfin⟩, fun c => absurd (by decide) c⟩
  have bad1 : gT ch n a = (false, a + 1, 0, 0) → a + 1 ≤ n → Q (vI 0) (cadv σ (a + 1)) := fun eg ha => by
    rw [eg] at h0
    exact h0 rfl _ (RF.cadv σ t (a + 1)) (hP.cadv ha) ⟨_, hR.cadv⟩
  have fk : (gN ch n a = 104 ∨ gN ch n a = 115 ∨ gN ch n a = 101 ∨ gN ch n a = 107) → ∀ g, g = wI σ 7 0 2 (hi σ 7 0 2 + 1) → Ec (d - 1) 0 0 m_X6_takes [vR (some (7, 0)), vR (some (512, 4))] g (kI fun x17 h16 => ((x17 = 0 → (((0 : Int32) = 0 ∨ (0 : Int32) = 1) ∧ Q (vI 0) h16)) ∧ (¬ x17 = 0 → Ex d 0 0 m_X6_takesTest 128 [vR (some (7, 0)), vR (some (6, t)), vI (gN ch n a), vI 4, vU] [] h16 Q))) := fun hc g e => by
    have hlt1 : a < n := gN_lt (c := gN ch n a) rfl (fun y => by
      rw [y] at hc
      exact absurd hc (by decide))
    rw [hP.2.2.1, nI_1] at e
    have e' : g = cadv σ (a + 1) := e
    rw [e']
    refine sp_X6_takes (w := [61]) (by omega) (by omega) rfl (by decide) (by decide) (hP.cadv (by omega)) (fun w => br_f (by decide) ?_) (fun w => br_t rfl ⟨Or.inl rfl, ?_⟩)
    · have c : gN ch n (a + 1) = 61 := by
        by_cases c : gN ch n (a + 1) = 61
        · exact c
        · have : gW ch n [61] (a + 1) = (false, a + 1) := if_neg c
          rw [this] at w
          exact Bool.noConfusion w
      have ew : gW ch n [61] (a + 1) = (true, a + 2) := if_pos c
      rw [ew, cadv_cadv]
      exact f128 3 (gN ch n a) (by omega) (by unfold gT; rw [if_pos hc, if_pos c]) (gN_lt c (by decide))
    · have c : ¬ gN ch n (a + 1) = 61 := fun c => by
        have : gW ch n [61] (a + 1) = (true, a + 2) := if_pos c
        rw [this] at w
        exact Bool.noConfusion w
      have ew : gW ch n [61] (a + 1) = (false, a + 1) := if_neg c
      rw [ew, cadv_cadv]
      exact bad1 (by unfold gT; rw [if_pos hc, if_neg c]) (by omega)
  refine Ec_of mo_X6_takesTest.1 (Nat.le_of_ble_eq_true rfl) ?_
  refine sX6_takesTest_0 ?_
  unfold bX6_takesTest_0
  refine ⟨by omega, sp_X6_next hP ⟨fun c1 g e => ⟨by omega, fk (Or.inr (Or.inr (Or.inl c1))) g e⟩, fun c1 => ⟨fun c2 g e => ⟨by omega, fk (Or.inl c2) g e⟩, fun c2 => ⟨fun c3 g e => ⟨by omega, fk (Or.inr (Or.inr (Or.inr c3))) g e⟩, fun c3 => ⟨fun c4 g e => ⟨by omega, fk (Or.inr (Or.inl c4)) g e⟩, fun c4 => ⟨fun c5 g e => ?_, fun c5 => ⟨Or.inl rfl, ?_⟩⟩⟩⟩⟩⟩⟩
  · have nn : ¬ (gN ch n a = 104 ∨ gN ch n a = 115 ∨ gN ch n a = 101 ∨ gN ch n a = 107) := fun q => by
      rcases q with q | q | q | q
      · exact c2 q
      · exact c4 q
      · exact c1 q
      · exact c3 q
    have hlt1 : a < n := gN_lt c5 (by decide)
    rw [hP.2.2.1, nI_1] at e
    have e' : g = cadv σ (a + 1) := e
    rw [e']
    refine ⟨by omega, sp_X6_next (hP.cadv (by omega)) ?_⟩
    have f113 : (gN ch n (a + 1) = 60 ∨ gN ch n (a + 1) = 62) → Ex d 0 0 m_X6_takesTest 113 [vR (some (7, 0)), vR (some (6, t)), vI (gN ch n (a + 1)), vI 6, vU] [] (cadv σ (a + 1)) Q := fun hc => by
      have hlt2 : a + 1 < n := gN_lt (c := gN ch n (a + 1)) rfl (fun y => by
        rw [y] at hc
        exact absurd hc (by decide))
      refine sX6_takesTest_113 ?_
      intro g2 e2
      rw [(hP.cadv (a' := a + 1) (by omega)).2.2.1, nI_1] at e2
      have e2' : g2 = cadv (cadv σ (a + 1)) (a + 2) := e2
      rw [e2', cadv_cadv]
      exact f128 5 (gN ch n (a + 1)) (by omega) (by unfold gT; rw [if_neg nn, if_pos c5, if_pos hc]) (by omega)
    refine sX6_takesTest_96 ⟨fun c => f113 (Or.inl c), fun c => ⟨fun c' => f113 (Or.inr c'), fun c' => ⟨Or.inl rfl, ?_⟩⟩⟩
    exact bad1 (by unfold gT; rw [if_neg nn, if_pos c5, if_neg (fun q => q.elim c c')]) (by omega)
  · have nn : ¬ (gN ch n a = 104 ∨ gN ch n a = 115 ∨ gN ch n a = 101 ∨ gN ch n a = 107) := fun q => by
      rcases q with q | q | q | q
      · exact c2 q
      · exact c4 q
      · exact c1 q
      · exact c3 q
    have eg : gT ch n a = (false, a, 0, 0) := by
      unfold gT
      rw [if_neg nn, if_neg c5]
    rw [eg] at h0
    exact h0 rfl σ (RF.rf σ t) hP ⟨_, hR⟩
