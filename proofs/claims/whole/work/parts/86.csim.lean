/-! ===== the class goes through an E as the grammar says ===== -/
theorem sp_X5_addAny {d t room : Nat} {L : List Sst} {x y : Int32} {σ : XH} {Q : XV → XH → Prop} (hR : RU σ t room L) (hQ : ∀ σ', Fi (tl [6, 104, 105]) σ σ' → (∀ s i, i ≠ t → hi σ' s i = hi σ s i) → (∀ j, j ≠ 6 → hi σ' 6 t j = hi σ 6 t j) → (∃ L', RU σ' t room L') → Q vU σ') : Ec d 0 0 m_X5_addStep [vR (some (6, t)), vI x, vI y] σ Q := by
  by_cases hlt : L.length < room
  · exact sp_X5_addStep hR hlt (fun σ' k1 k2 k3 k4 => hQ σ' k1 k2 k3 ⟨_, k4⟩)
  · obtain ⟨r1, r2, n1, n2, r140, hL, h6, hk⟩ := id hR
    refine Ec_of mo_X5_addStep.1 (Nat.le_of_ble_eq_true rfl) ?_
    refine sX5_addStep_0 ?_
    unfold bX5_addStep_0
    rw [h6, n1]
    have no : ¬ nI L.length < Int32.ofNat room := mt (c_lt (n := L.length) (N := room) (by omega) (by omega)).mp hlt
    exact ⟨r1, fun z => absurd z no, fun _ => sX5_addStep_54 (hQ σ (Fi.rf _ _) (fun _ _ _ => rfl) (fun _ _ => rfl) ⟨L, hR⟩)⟩
theorem RF.fi {σ σ' : XH} {t : Nat} (k1 : Fi (tl [6, 104, 105]) σ σ') (k2 : ∀ s i, i ≠ t → hi σ' s i = hi σ s i) (k3 : ∀ j, j ≠ 6 → hi σ' 6 t j = hi σ 6 t j) : RF σ σ' t := ⟨k1.sub (tl_sub (by decide)), fun s i _ hit => k2 s i hit, k3⟩
def cFl (n : Nat) (ch : Nat → Int32) (t : Nat) (σ : XH) (Q : XV → XH → Prop) (r : GR) : Prop := r.1 = false → ∀ σ', RF σ σ' t → PC σ' n r.2.1 ch → (∃ L', RU σ' t n L') → Q (vI 0) σ'
theorem cFl.rf {n : Nat} {ch : Nat → Int32} {t : Nat} {σ σ1 : XH} {Q : XV → XH → Prop} {r : GR} (h : cFl n ch t σ Q r) (k : RF σ σ1 t) : cFl n ch t σ1 Q r := fun e σ' k1 k2 k3 => h e σ' (k.trans k1) k2 k3
theorem cFl.at {n : Nat} {ch : Nat → Int32} {t : Nat} {σ : XH} {Q : XV → XH → Prop} {r r' : GR} (h : cFl n ch t σ Q r) (e : r'.1 = false → r.1 = false ∧ r'.2.1 = r.2.1) : cFl n ch t σ Q r' := fun e' S2 k1 k2 k3 => by
  obtain ⟨e1, e2⟩ := e e'
  rw [e2] at k2
  exact h e1 S2 k1 k2 k3
def cG0 (n t : Nat) (ch : Nat → Int32) (k dep a : Nat) : Prop := ∀ (d dp : Nat) (σ : XH) (L : List Sst) (Q : XV → XH → Prop), 7 + 2 * dep ≤ d → dp + dep = 5 → PC σ n a ch → RU σ t n L → L.length < a →
  ((gX ch n k 0 dep a).1 = true → ∀ σ', RF σ σ' t → PC σ' n (gX ch n k 0 dep a).2.1 ch → RU σ' t n (L ++ (gX ch n k 0 dep a).2.2) → Q (vI 1) σ') → cFl n ch t σ Q (gX ch n k 0 dep a) →
  Ec d 0 0 m_X6_takesFactor [vR (some (7, 0)), vR (some (6, t)), vI (nI dp)] σ Q
def cG1 (n t : Nat) (ch : Nat → Int32) (k dep a : Nat) : Prop := ∀ (d rc rs dp i j : Nat) (σ : XH) (L : List Sst) (Q : XV → XH → Prop), 8 + 2 * dep ≤ d → dp + dep = 5 → j < a → PC σ n a ch → RU σ t n L → L.length < a →
  ((gX ch n k 1 dep a).1 = true → ∀ σ', RF σ σ' t → PC σ' n (gX ch n k 1 dep a).2.1 ch → RU σ' t n (L ++ (gX ch n k 1 dep a).2.2) → Ex d rc rs m_X6_takesEither 74 [vR (some (7, 0)), vR (some (6, t)), vI (nI dp), vI (nI i), vU] [] σ' Q) → cFl n ch t σ Q (gX ch n k 1 dep a) →
  Ex d rc rs m_X6_takesEither 23 [vR (some (7, 0)), vR (some (6, t)), vI (nI dp), vI (nI i), vI (nI j)] [] σ Q
def cG2 (n t : Nat) (ch : Nat → Int32) (k dep a : Nat) : Prop := ∀ (d rc rs dp i : Nat) (σ : XH) (L : List Sst) (Q : XV → XH → Prop), 8 + 2 * dep ≤ d → dp + dep = 5 → i < a → PC σ n a ch → RU σ t n L → L.length < a →
  ((gX ch n k 2 dep a).1 = true → ∀ σ', RF σ σ' t → PC σ' n (gX ch n k 2 dep a).2.1 ch → RU σ' t n (L ++ (gX ch n k 2 dep a).2.2) → Q (vI 1) σ') → cFl n ch t σ Q (gX ch n k 2 dep a) →
  Ex d rc rs m_X6_takesEither 85 [vR (some (7, 0)), vR (some (6, t)), vI (nI dp), vI (nI i), vU] [] σ Q
def cG3 (n t : Nat) (ch : Nat → Int32) (k dep a : Nat) : Prop := ∀ (d rc rs dp i : Nat) (σ : XH) (L : List Sst) (Q : XV → XH → Prop), 8 + 2 * dep ≤ d → dp + dep = 5 → i < a → i < 140 → PC σ n a ch → RU σ t n L → L.length < a →
  ((gX ch n k 3 dep a).1 = true → ∀ σ', RF σ σ' t → PC σ' n (gX ch n k 3 dep a).2.1 ch → RU σ' t n (L ++ (gX ch n k 3 dep a).2.2) → Ex d rc rs m_X6_takesEither 74 [vR (some (7, 0)), vR (some (6, t)), vI (nI dp), vI (nI i), vU] [] σ' Q) → cFl n ch t σ Q (gX ch n k 3 dep a) →
  Ex d rc rs m_X6_takesEither 2 [vR (some (7, 0)), vR (some (6, t)), vI (nI dp), vI (nI i), vU] [] σ Q
def cG4 (n t : Nat) (ch : Nat → Int32) (k dep a : Nat) : Prop := ∀ (d dp : Nat) (σ : XH) (L : List Sst) (Q : XV → XH → Prop), 8 + 2 * dep ≤ d → dp + dep = 5 → PC σ n a ch → RU σ t n L → L.length < a →
  ((gX ch n k 4 dep a).1 = true → ∀ σ', RF σ σ' t → PC σ' n (gX ch n k 4 dep a).2.1 ch → RU σ' t n (L ++ (gX ch n k 4 dep a).2.2) → Q (vI 1) σ') → cFl n ch t σ Q (gX ch n k 4 dep a) →
  Ec d 0 0 m_X6_takesEither [vR (some (7, 0)), vR (some (6, t)), vI (nI dp)] σ Q
theorem cG_all {n t : Nat} {ch : Nat → Int32} (hn : n ≤ 140) : ∀ (k dep a : Nat), a ≤ n →
    (4 * (n - a) + 1 ≤ k → cG0 n t ch k dep a) ∧ (4 * (n - a) + 1 ≤ k → cG1 n t ch k dep a) ∧ (4 * (n - a) + 1 ≤ k → cG2 n t ch k dep a) ∧ (4 * (n - a) + 2 ≤ k → cG3 n t ch k dep a) ∧ (4 * (n - a) + 3 ≤ k → cG4 n t ch k dep a)
  | 0, dep, a, han => ⟨fun h => absurd h (by omega), fun h => absurd h (by omega), fun h => absurd h (by omega), fun h => absurd h (by omega), fun h => absurd h (by omega)⟩
  | k + 1, dep, a, han => by
    have ih := cG_all (n := n) (t := t) (ch := ch) hn k
    refine ⟨fun hk => ?_, fun hk => ?_, fun hk => ?_, fun hk => ?_, fun hk => ?_⟩
    · -- an F
      intro d dp σ L Q hd hdp hP hR hL hs hf
      have hlt5 : nI dp < 5 ↔ dp < 5 := c_lt (n := dp) (N := 5) (by omega) (by omega)
      refine Ec_of mo_X6_takesFactor.1 (Nat.le_of_ble_eq_true rfl) ?_
      refine sX6_takesFactor_0 ?_
      unfold bX6_takesFactor_0
      refine ⟨by omega, sp_X6_next hP ⟨fun c => ?_, fun c => ⟨fun c1 => ?_, fun c1 => ⟨by omega, ?_⟩⟩⟩⟩
      · have hlt : a < n := gN_lt c (by decide)
        rw [gX0, if_pos c] at hs hf
        rw [c]
        refine sX6_takesFactor_23 ⟨fun z => ?_, fun z => ⟨Or.inl rfl, ?_⟩⟩
        · have hd0 : ¬ dep = 0 := by
            have := hlt5.mp z
            omega
          rw [if_neg hd0] at hs hf
          intro g e
          rw [hP.2.2.1, nI_1] at e
          have e' : g = cadv σ (a + 1) := e
          rw [e']
          refine ⟨fun z => absurd z (by decide), fun _ => ⟨by omega, ?_⟩⟩
          rw [nI_1]
          refine (ih (dep - 1) (a + 1) hlt).1 (by omega) (d - 1) (dp + 1) _ L _ (by omega) (by omega) (hP.cadv hlt) hR.cadv (by omega) (fun r σ' k1 k2 k3 => ?_) (fun r σ' k1 k2 k3 => ?_)
          · obtain ⟨b1, b2, b3⟩ := gX_bd (ch := ch) k 0 (dep - 1) (a + 1) hlt
            have b4 := (b3 r).1
            rw [thn_t _ _ r] at hs
            dsimp only [kI]
            refine drf_of rfl ⟨by omega, sp_X5_addStep k3 (by rw [List.length_append]; omega) (fun σ2 j1 j2 j3 j4 => ⟨Or.inr rfl, ?_⟩)⟩
            refine hs rfl σ2 (((RF.cadv σ t (a + 1)).trans k1).trans (RF.fi j1 j2 j3)) (k2.fi j1 (by decide)) ?_
            rw [List.append_assoc] at j4
            exact j4
          · obtain ⟨L', hR'⟩ := k3
            dsimp only [kI]
            refine drf_of rfl ⟨by omega, sp_X5_addAny hR' (fun σ2 j1 j2 j3 j4 => ⟨Or.inl rfl, ?_⟩)⟩
            obtain ⟨z1, z2⟩ := thn_fl (s := [(33, 0)]) (f := fun a' => ((true, a', []) : GR)) r
            refine hf z1 σ2 (((RF.cadv σ t (a + 1)).trans k1).trans (RF.fi j1 j2 j3)) ?_ j4
            rw [← z2]
            exact k2.fi j1 (by decide)
        · have hd0 : dep = 0 := by
            have := mt hlt5.mpr z
            omega
          rw [if_pos hd0] at hf
          exact hf rfl σ (RF.rf σ t) hP ⟨L, hR⟩
      · have hlt : a < n := gN_lt c1 (by decide)
        rw [gX0, if_neg c, if_pos c1] at hs hf
        rw [c1]
        refine sX6_takesFactor_23 ⟨fun z => ?_, fun z => ⟨Or.inl rfl, ?_⟩⟩
        · have hd0 : ¬ dep = 0 := by
            have := hlt5.mp z
            omega
          rw [if_neg hd0] at hs hf
          intro g e
          rw [hP.2.2.1, nI_1] at e
          have e' : g = cadv σ (a + 1) := e
          rw [e']
          refine ⟨fun _ => ⟨by omega, ?_⟩, fun z => absurd rfl z⟩
          rw [nI_1]
          refine (ih (dep - 1) (a + 1) hlt).2.2.2.2 (by omega) (d - 1) (dp + 1) _ L _ (by omega) (by omega) (hP.cadv hlt) hR.cadv (by omega) (fun r σ' k1 k2 k3 => br_f (by decide) ⟨by omega, ?_⟩) (fun r σ' k1 k2 k3 => br_t rfl (sX6_takesFactor_70 (sX6_takesFactor_71 ⟨Or.inl rfl, ?_⟩)))
          · rw [thn_t _ _ r] at hs hf
            refine sp_X6_takes (w := [41]) (by omega) (by omega) rfl (by decide) (by decide) k2 (fun w => br_f (by decide) (sX6_takesFactor_71 ⟨Or.inr rfl, ?_⟩)) (fun w => br_t rfl (sX6_takesFactor_70 (sX6_takesFactor_71 ⟨Or.inl rfl, ?_⟩)))
            · have c2 : gN ch n (gX ch n k 4 (dep - 1) (a + 1)).2.1 = 41 := by
                by_cases c2 : gN ch n (gX ch n k 4 (dep - 1) (a + 1)).2.1 = 41
                · exact c2
                · rw [show gW ch n [41] (gX ch n k 4 (dep - 1) (a + 1)).2.1 = (false, (gX ch n k 4 (dep - 1) (a + 1)).2.1) from if_neg c2] at w
                  exact Bool.noConfusion w
              rw [show gW ch n [41] (gX ch n k 4 (dep - 1) (a + 1)).2.1 = (true, (gX ch n k 4 (dep - 1) (a + 1)).2.1 + 1) from if_pos c2]
              rw [if_pos c2] at hs
              refine hs rfl _ (((RF.cadv σ t (a + 1)).trans k1).trans (RF.cadv _ t _)) (k2.cadv (gN_lt c2 (by decide))) ?_
              rw [List.append_nil, List.append_nil]
              exact k3.cadv
            · have c2 : ¬ gN ch n (gX ch n k 4 (dep - 1) (a + 1)).2.1 = 41 := fun c2 => by
                rw [show gW ch n [41] (gX ch n k 4 (dep - 1) (a + 1)).2.1 = (true, (gX ch n k 4 (dep - 1) (a + 1)).2.1 + 1) from if_pos c2] at w
                exact Bool.noConfusion w
              rw [show gW ch n [41] (gX ch n k 4 (dep - 1) (a + 1)).2.1 = (false, (gX ch n k 4 (dep - 1) (a + 1)).2.1) from if_neg c2]
              rw [if_neg c2] at hf
              show Q (vI 0) (cadv σ' (gX ch n k 4 (dep - 1) (a + 1)).2.1)
              rw [k2.cadv0]
              exact hf rfl σ' ((RF.cadv σ t (a + 1)).trans k1) k2 ⟨_, k3⟩
          · obtain ⟨z1, z2⟩ := thn_fl (s := []) (f := fun a' => if gN ch n a' = 41 then (true, a' + 1, []) else ((false, a', []) : GR)) r
            refine hf z1 σ' ((RF.cadv σ t (a + 1)).trans k1) ?_ k3
            rw [← z2]
            exact k2
        · have hd0 : dep = 0 := by
            have := mt hlt5.mpr z
            omega
          rw [if_pos hd0] at hf
          exact hf rfl σ (RF.rf σ t) hP ⟨L, hR⟩
      · rw [gX0, if_neg c, if_neg c1] at hs hf
        have han2 := han
        refine sp_X6_takesTest (by omega) hP hR (by omega) (fun ht σ' k1 k2 k3 => ⟨Or.inr rfl, hs ht σ' k1 k2 k3⟩) (fun ht σ' k1 k2 k3 => ⟨Or.inl rfl, hf ht σ' k1 k2 k3⟩)
    · -- what follows an F
      intro d rc rs dp i j σ L Q hd hdp hj hP hR hL hs hf
      rw [gX1] at hs hf
      refine sX6_takesEither_23 ⟨fun _ => ⟨by omega, sp_X6_next hP ⟨fun c => ?_, fun c => ?_⟩⟩, fun z => absurd ((c_lt (n := j) (N := 140) (by omega) (by omega)).mpr (by omega)) z⟩
      · have hlt : a < n := gN_lt c (by decide)
        rw [if_pos c] at hs hf
        intro g e
        rw [hP.2.2.1, nI_1] at e
        have e' : g = cadv σ (a + 1) := e
        rw [e']
        refine ⟨by omega, (ih dep (a + 1) hlt).1 (by omega) (d - 1) dp _ L _ (by omega) hdp (hP.cadv hlt) hR.cadv (by omega) (fun r σ' k1 k2 k3 => br_f (by decide) (drf_of rfl ⟨by omega, ?_⟩)) (fun r σ' k1 k2 k3 => br_t rfl ⟨Or.inl rfl, ?_⟩)⟩
        · obtain ⟨b1, b2, b3⟩ := gX_bd (ch := ch) k 0 dep (a + 1) hlt
          have b4 := (b3 r).1
          have kk := (RF.cadv σ t (a + 1)).trans k1
          refine sp_X5_addStep k3 (by rw [List.length_append]; omega) (fun σ2 j1 j2 j3 j4 => ?_)
          have kk2 := kk.trans (RF.fi j1 j2 j3)
          rw [nI_1]
          refine (ih dep _ b2).2.1 (by omega) d rc rs dp i (j + 1) σ2 _ Q hd hdp (by omega) (k2.fi j1 (by decide)) j4 (by simp only [List.length_append, List.length_cons, List.length_nil]; omega) (fun r2 σ3 q1 q2 q3 => ?_) ((hf.rf kk2).at fun z => thn_fr r z)
          rw [thn_t _ _ r] at hs
          refine hs r2 σ3 (kk2.trans q1) q2 ?_
          rw [List.append_assoc, List.append_assoc] at q3
          exact q3
        · obtain ⟨z1, z2⟩ := thn_fl (s := [(38, 0)]) (f := gX ch n k 1 dep) r
          refine hf z1 σ' ((RF.cadv σ t (a + 1)).trans k1) ?_ k3
          rw [← z2]
          exact k2
      · rw [if_neg c] at hs
        refine hs rfl σ (RF.rf σ t) hP ?_
        rw [List.append_nil]
        exact hR
    · -- what follows a T
      intro d rc rs dp i σ L Q hd hdp hi_ hP hR hL hs hf
      rw [gX2] at hs hf
      refine sX6_takesEither_85 ⟨by omega, sp_X6_next hP ⟨fun c => ?_, fun c => ⟨Or.inr rfl, ?_⟩⟩⟩
      · have hlt : a < n := gN_lt c (by decide)
        rw [if_pos c] at hs hf
        intro g e
        rw [hP.2.2.1, nI_1] at e
        have e' : g = cadv σ (a + 1) := e
        rw [e', nI_1]
        have k0 := RF.cadv σ t (a + 1)
        refine (ih dep (a + 1) hlt).2.2.2.1 (by omega) d rc rs dp (i + 1) _ L Q hd hdp (by omega) (by omega) (hP.cadv hlt) hR.cadv (by omega) (fun r σ' k1 k2 k3 => ?_) ((hf.rf k0).at fun z => thn_fl z)
        obtain ⟨b1, b2, b3⟩ := gX_bd (ch := ch) k 3 dep (a + 1) hlt
        have b4 := (b3 r).1
        refine sX6_takesEither_74 ⟨fun _ => drf_of rfl ⟨by omega, ?_⟩, fun z => absurd (pos_nI (n := i + 1) (by omega) (by omega)) z⟩
        have kk := k0.trans k1
        refine sp_X5_addStep k3 (by rw [List.length_append]; omega) (fun σ2 j1 j2 j3 j4 => ?_)
        have kk2 := kk.trans (RF.fi j1 j2 j3)
        refine (ih dep _ b2).2.2.1 (by omega) d rc rs dp (i + 1) σ2 _ Q hd hdp (by omega) (k2.fi j1 (by decide)) j4 (by simp only [List.length_append, List.length_cons, List.length_nil]; omega) (fun r2 σ3 q1 q2 q3 => ?_) ((hf.rf kk2).at fun z => thn_fr r z)
        rw [thn_t _ _ r] at hs
        refine hs r2 σ3 (kk2.trans q1) q2 ?_
        rw [List.append_assoc, List.append_assoc] at q3
        exact q3
      · rw [if_neg c] at hs
        refine hs rfl σ (RF.rf σ t) hP ?_
        rw [List.append_nil]
        exact hR
    · -- a T
      intro d rc rs dp i σ L Q hd hdp hi_ hi2 hP hR hL hs hf
      rw [gX3] at hs hf
      refine sX6_takesEither_2 ⟨fun _ => ⟨by omega, ?_⟩, fun z => absurd ((c_lt (n := i) (N := 140) (by omega) (by omega)).mpr hi2) z⟩
      refine (ih dep a han).1 (by omega) (d - 1) dp σ L _ (by omega) hdp hP hR hL (fun r σ' k1 k2 k3 => br_f (by decide) ?_) (fun r σ' k1 k2 k3 => br_t rfl ⟨Or.inl rfl, ?_⟩)
      · obtain ⟨b1, b2, b3⟩ := gX_bd (ch := ch) k 0 dep a han
        have b4 := (b3 r).1
        have b5 := (b3 r).2 (by omega) (by omega)
        refine (ih dep _ b2).2.1 (by omega) d rc rs dp i 0 σ' _ Q hd hdp (by omega) k2 k3 (by rw [List.length_append]; omega) (fun r2 σ3 q1 q2 q3 => ?_) ((hf.rf k1).at fun z => thn_fr r z)
        rw [thn_t _ _ r] at hs
        refine hs r2 σ3 (k1.trans q1) q2 ?_
        rw [List.append_assoc] at q3
        exact q3
      · obtain ⟨z1, z2⟩ := thn_fl (s := []) (f := gX ch n k 1 dep) r
        refine hf z1 σ' k1 ?_ k3
        rw [← z2]
        exact k2
    · -- an E
      intro d dp σ L Q hd hdp hP hR hL hs hf
      rw [gX4] at hs hf
      refine Ec_of mo_X6_takesEither.1 (Nat.le_of_ble_eq_true rfl) ?_
      refine sX6_takesEither_0 ?_
      unfold bX6_takesEither_0
      refine (ih dep a han).2.2.2.1 (by omega) d 0 0 dp 0 σ L Q hd hdp (by omega) (by omega) hP hR hL (fun r σ' k1 k2 k3 => ?_) (hf.at fun z => thn_fl z)
      obtain ⟨b1, b2, b3⟩ := gX_bd (ch := ch) k 3 dep a han
      have b4 := (b3 r).1
      have b5 := (b3 r).2 (by omega) (by omega)
      refine sX6_takesEither_74 ⟨fun z => absurd z (by decide), fun _ => ?_⟩
      refine (ih dep _ b2).2.2.1 (by omega) d 0 0 dp 0 σ' _ Q hd hdp (by omega) k2 k3 (by rw [List.length_append]; omega) (fun r2 σ3 q1 q2 q3 => ?_) ((hf.rf k1).at fun z => thn_fr r z)
      rw [thn_t _ _ r] at hs
      refine hs r2 σ3 (k1.trans q1) q2 ?_
      rw [List.append_assoc] at q3
      exact q3
theorem sp_X6_takesEither {d n a t : Nat} {ch : Nat → Int32} {L : List Sst} {σ : XH} {Q : XV → XH → Prop} (hd : 18 ≤ d) (hP : PC σ n a ch) (hR : RU σ t n L) (hL : L.length < a)
    (h1 : (gE ch n a).1 = true → ∀ σ', RF σ σ' t → PC σ' n (gE ch n a).2.1 ch → RU σ' t n (L ++ (gE ch n a).2.2) → Q (vI 1) σ')
    (h0 : (gE ch n a).1 = false → ∀ σ', RF σ σ' t → PC σ' n (gE ch n a).2.1 ch → (∃ L', RU σ' t n L') → Q (vI 0) σ') : Ec d 0 0 m_X6_takesEither [vR (some (7, 0)), vR (some (6, t)), vI 0] σ Q :=
  (cG_all hP.2.2.2.1 (4 * (n - a) + 3) 5 a hP.2.2.2.2.1).2.2.2.2 (Nat.le_refl _) d 0 σ L Q hd rfl hP hR hL h1 h0
