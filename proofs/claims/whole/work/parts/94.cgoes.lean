/-! ===== the class takes a clause; a text, whole ===== -/
theorem sp_X5_addsStrike {d n t : Nat} {R : RT} {σ : XH} {Q : XV → XH → Prop} (hd : 1 ≤ d) (hR : RR σ t n R) (hlt : R.2.length < n)
    (h : ∀ σ', CF σ σ' t → Fi (tl [6, 104, 105]) σ σ' → RR σ' t n ((rset R 34 (R.1 34 + 1)).1, R.2 ++ [(124, 0)]) → Q (vI 1) σ') : Ec d 0 0 m_X5_addsStrike [vR (some (6, t))] σ Q := by
  refine Ec_of mo_X5_addsStrike.1 (Nat.le_of_ble_eq_true rfl) ?_
  refine sX5_addsStrike_0 ?_
  intro g e
  have e34 : hi σ 6 t 10 = R.1 34 := hR.2.1 34 (by decide)
  rw [e34] at e
  have r1 : RR (wI σ 6 t 10 (R.1 34 + 1)) t n (rset R 34 (R.1 34 + 1)) := hR.set (j := 34) (by decide) _
  have c1 := (CF.rf σ t).w6 (j := 10) (by omega) (R.1 34 + 1)
  have f1 : Fi (tl [6, 104, 105]) σ (wI σ 6 t 10 (R.1 34 + 1)) := Fi.wI (Fi.rf _ _) (by decide) _ _ _
  rw [e]
  refine ⟨hd, sp_X5_addStep r1.1 hlt (fun σ' k1 k2 k3 k4 => ⟨Or.inr rfl, ?_⟩)⟩
  exact h σ' (c1.trans (RF.fi k1 k2 k3).cf) (f1.trans k1) (r1.rf (RF.fi k1 k2 k3) k4)
theorem sp_X6_takesBehindW {d n a t : Nat} {ch : Nat → Int32} {R : RT} {σ : XH} {Q : XV → XH → Prop} (hd : 7 ≤ d) (hP : PC σ n a ch) (hR : RR σ t n R) (r : CR)
    (hr : r = (if gN ch n a = 105 then gAft ch n [105, 116, 104, 100, 114, 97, 119, 110] a R fun a' => (true, a', rset R 36 1) else gAft ch n [101, 105, 103, 104, 32] a R fun a' => gWeigh ch n a' R))
    (h1 : r.1 = true → ∀ σ', CF σ σ' t → PC σ' n r.2.1 ch → RR σ' t n r.2.2 → Q (vI 1) σ')
    (h0 : r.1 = false → ∀ σ', CF σ σ' t → PC σ' n r.2.1 ch → Q (vI 0) σ') : Ec d 0 0 m_X6_takesBehindW [vR (some (7, 0)), vR (some (6, t))] σ Q := by
  subst hr
  have han := hP.2.2.2.2.1
  refine Ec_of mo_X6_takesBehindW.1 (Nat.le_of_ble_eq_true rfl) ?_
  refine sX6_takesBehindW_0 ?_
  unfold bX6_takesBehindW_0
  have aft_t : ∀ {l : List Int32} {f : Nat → CR}, (gW ch n l a).1 = true → gAft ch n l a R f = f (gW ch n l a).2 := fun w => if_pos w
  have aft_f : ∀ {l : List Int32} {f : Nat → CR}, (gW ch n l a).1 = false → gAft ch n l a R f = (false, (gW ch n l a).2, R) := fun w => if_neg (by rw [w]; decide)
  refine ⟨by omega, sp_X6_next hP ⟨fun c => ⟨by omega, ?_⟩, fun c => ⟨by omega, ?_⟩⟩⟩
  · rw [if_pos c] at h1 h0
    have hle := gW_le (ch := ch) (n := n) [105, 116, 104, 100, 114, 97, 119, 110] a han (by decide)
    refine sp_X6_takes (w := [105, 116, 104, 100, 114, 97, 119, 110]) (by omega) (by omega) rfl (by decide) (by decide) hP (fun w => ?_) (fun w => ?_)
    · rw [aft_t w] at h1
      dsimp only [kI]
      refine drf_of rfl ⟨Or.inr rfl, ?_⟩
      intro g e
      refine drf_of rfl ?_
      have e12 : hi g 6 t 12 = 1 := by rw [e, hi_wI_eq]
      rw [e12, e]
      exact ⟨Or.inr rfl, h1 rfl _ (((CF.rf σ t).cadv _).w6 (j := 12) (by omega) 1) ((hP.cadv hle).w (s := 6) t 12 1 (by decide)) ((hR.cadv _).set (j := 36) (by decide) 1)⟩
    · rw [aft_f w] at h0
      dsimp only [kI]
      refine drf_of rfl ⟨Or.inl rfl, ?_⟩
      intro g e
      refine drf_of rfl ?_
      have e12 : hi g 6 t 12 = 0 := by rw [e, hi_wI_eq]
      rw [e12, e]
      exact ⟨Or.inl rfl, h0 rfl _ (((CF.rf σ t).cadv _).w6 (j := 12) (by omega) 0) ((hP.cadv hle).w (s := 6) t 12 0 (by decide))⟩
  · rw [if_neg c] at h1 h0
    have hle := gW_le (ch := ch) (n := n) [101, 105, 103, 104, 32] a han (by decide)
    refine sp_X6_takes (w := [101, 105, 103, 104, 32]) (by omega) (by omega) rfl (by decide) (by decide) hP (fun w => br_f (by decide) ⟨by omega, ?_⟩) (fun w => br_t rfl (sX6_takesBehindW_45 (sX6_takesBehindW_46 ⟨Or.inl rfl, ?_⟩)))
    · rw [aft_t w] at h1 h0
      have c0 := (CF.rf σ t).cadv (gW ch n [101, 105, 103, 104, 32] a).2
      exact sp_X6_takesWeight (by omega) (hP.cadv hle) (hR.cadv _) (fun k σ' k1 k2 k3 => br_f (by decide) (sX6_takesBehindW_41 (sX6_takesBehindW_46 ⟨Or.inr rfl, h1 k σ' (c0.trans k1) k2 k3⟩))) (fun k σ' k1 k2 => br_t rfl (sX6_takesBehindW_45 (sX6_takesBehindW_46 ⟨Or.inl rfl, h0 k σ' (c0.trans k1) k2⟩)))
    · rw [aft_f w] at h0
      exact h0 rfl _ ((CF.rf σ t).cadv _) (hP.cadv hle)
theorem sp_X6_takesClause {d n a t : Nat} {ch : Nat → Int32} {R : RT} {σ : XH} {Q : XV → XH → Prop} (hd : 19 ≤ d) (hP : PC σ n a ch) (hR : RR σ t n R) (hI : GI n R a)
    (h1 : (gC ch n a R).1 = true → ∀ σ', CF σ σ' t → PC σ' n (gC ch n a R).2.1 ch → RR σ' t n (gC ch n a R).2.2 → Q (vI 1) σ')
    (h0 : (gC ch n a R).1 = false → ∀ σ', CF σ σ' t → PC σ' n (gC ch n a R).2.1 ch → Q (vI 0) σ') : Ec d 0 0 m_X6_takesClause [vR (some (7, 0)), vR (some (6, t))] σ Q := by
  have han := hP.2.2.2.2.1
  refine Ec_of mo_X6_takesClause.1 (Nat.le_of_ble_eq_true rfl) ?_
  refine sX6_takesClause_0 ?_
  have aft_t : ∀ {l : List Int32} {f : Nat → CR}, (gW ch n l a).1 = true → gAft ch n l a R f = f (gW ch n l a).2 := fun w => if_pos w
  have aft_f : ∀ {l : List Int32} {f : Nat → CR}, (gW ch n l a).1 = false → gAft ch n l a R f = (false, (gW ch n l a).2, R) := fun w => if_neg (by rw [w]; decide)
  refine ⟨by omega, sp_X6_next hP ⟨fun c => ⟨by omega, ?_⟩, fun c98 => ⟨fun c => ⟨by omega, ?_⟩, fun c99 => ⟨fun c => ⟨by omega, ?_⟩, fun c101 => ⟨fun c => ⟨by omega, ?_⟩, fun c114 => ⟨fun c => ⟨by omega, ?_⟩, fun c115 => ⟨fun c => ⟨by omega, ?_⟩, fun c119 => ⟨Or.inl rfl, ?_⟩⟩⟩⟩⟩⟩⟩⟩
  · -- blur
    have eg : gC ch n a R = gAft ch n [98, 108, 117, 114, 32] a R fun a' => gBlur ch n a' R := if_pos c
    rw [eg] at h1 h0
    have hle := gW_le (ch := ch) (n := n) [98, 108, 117, 114, 32] a han (by decide)
    refine sp_X6_takes (w := [98, 108, 117, 114, 32]) (by omega) (by omega) rfl (by decide) (by decide) hP (fun w => br_f (by decide) ⟨by omega, ?_⟩) (fun w => br_t rfl (sX6_takesClause_108 (sX6_takesClause_109 ⟨Or.inl rfl, ?_⟩)))
    · rw [aft_t w] at h1 h0
      have c0 := (CF.rf σ t).cadv (gW ch n [98, 108, 117, 114, 32] a).2
      exact sp_X6_takesBlur (by omega) (hP.cadv hle) (hR.cadv _) (fun k σ' k1 k2 k3 => br_f (by decide) (sX6_takesClause_109 ⟨Or.inr rfl, h1 k σ' (c0.trans k1) k2 k3⟩)) (fun k σ' k1 k2 => br_t rfl (sX6_takesClause_108 (sX6_takesClause_109 ⟨Or.inl rfl, h0 k σ' (c0.trans k1) k2⟩)))
    · rw [aft_f w] at h0
      exact h0 rfl _ ((CF.rf σ t).cadv _) (hP.cadv hle)
  · -- copied
    have eg : gC ch n a R = gAft ch n [99, 111, 112, 105, 101, 100] a R fun a' => (true, a', rset R 35 1) := by
      unfold gC
      rw [if_neg c98, if_pos c]
    rw [eg] at h1 h0
    have hle := gW_le (ch := ch) (n := n) [99, 111, 112, 105, 101, 100] a han (by decide)
    refine sp_X6_takes (w := [99, 111, 112, 105, 101, 100]) (by omega) (by omega) rfl (by decide) (by decide) hP (fun w => ?_) (fun w => ?_)
    · rw [aft_t w] at h1
      dsimp only [kI]
      refine drf_of rfl ⟨Or.inr rfl, ?_⟩
      intro g e
      refine drf_of rfl ?_
      have e11 : hi g 6 t 11 = 1 := by rw [e, hi_wI_eq]
      rw [e11, e]
      exact ⟨Or.inr rfl, h1 rfl _ (((CF.rf σ t).cadv _).w6 (j := 11) (by omega) 1) ((hP.cadv hle).w (s := 6) t 11 1 (by decide)) ((hR.cadv _).set (j := 35) (by decide) 1)⟩
    · rw [aft_f w] at h0
      dsimp only [kI]
      refine drf_of rfl ⟨Or.inl rfl, ?_⟩
      intro g e
      refine drf_of rfl ?_
      have e11 : hi g 6 t 11 = 0 := by rw [e, hi_wI_eq]
      rw [e11, e]
      exact ⟨Or.inl rfl, h0 rfl _ (((CF.rf σ t).cadv _).w6 (j := 11) (by omega) 0) ((hP.cadv hle).w (s := 6) t 11 0 (by decide))⟩
  · -- edges
    have eg : gC ch n a R = gAft ch n [101, 100, 103, 101, 115, 32] a R fun a' => gEdges ch n a' R := by
      unfold gC
      rw [if_neg c98, if_neg c99, if_pos c]
    rw [eg] at h1 h0
    have hle := gW_le (ch := ch) (n := n) [101, 100, 103, 101, 115, 32] a han (by decide)
    refine sp_X6_takes (w := [101, 100, 103, 101, 115, 32]) (by omega) (by omega) rfl (by decide) (by decide) hP (fun w => br_f (by decide) ⟨by omega, ?_⟩) (fun w => br_t rfl (sX6_takesClause_85 (sX6_takesClause_86 ⟨Or.inl rfl, ?_⟩)))
    · rw [aft_t w] at h1 h0
      have c0 := (CF.rf σ t).cadv (gW ch n [101, 100, 103, 101, 115, 32] a).2
      exact sp_X6_takesEdges (by omega) (hP.cadv hle) (hR.cadv _) (fun k σ' k1 k2 k3 => br_f (by decide) (sX6_takesClause_86 ⟨Or.inr rfl, h1 k σ' (c0.trans k1) k2 k3⟩)) (fun k σ' k1 k2 => br_t rfl (sX6_takesClause_85 (sX6_takesClause_86 ⟨Or.inl rfl, h0 k σ' (c0.trans k1) k2⟩)))
    · rw [aft_f w] at h0
      exact h0 rfl _ ((CF.rf σ t).cadv _) (hP.cadv hle)
  · -- rest
    have eg : gC ch n a R = gAft ch n [114, 101, 115, 116, 32] a R fun a' => gRest ch n a' R := by
      unfold gC
      rw [if_neg c98, if_neg c99, if_neg c101, if_pos c]
    rw [eg] at h1 h0
    have hle := gW_le (ch := ch) (n := n) [114, 101, 115, 116, 32] a han (by decide)
    refine sp_X6_takes (w := [114, 101, 115, 116, 32]) (by omega) (by omega) rfl (by decide) (by decide) hP (fun w => br_f (by decide) ⟨by omega, ?_⟩) (fun w => br_t rfl (sX6_takesClause_131 (sX6_takesClause_132 ⟨Or.inl rfl, ?_⟩)))
    · rw [aft_t w] at h1 h0
      have c0 := (CF.rf σ t).cadv (gW ch n [114, 101, 115, 116, 32] a).2
      exact sp_X6_takesRest (by omega) (hP.cadv hle) (hR.cadv _) (fun k σ' k1 k2 k3 => br_f (by decide) (sX6_takesClause_132 ⟨Or.inr rfl, h1 k σ' (c0.trans k1) k2 k3⟩)) (fun k σ' k1 k2 => br_t rfl (sX6_takesClause_131 (sX6_takesClause_132 ⟨Or.inl rfl, h0 k σ' (c0.trans k1) k2⟩)))
    · rw [aft_f w] at h0
      exact h0 rfl _ ((CF.rf σ t).cadv _) (hP.cadv hle)
  · -- strike
    have eg : gC ch n a R = gAft ch n [115, 116, 114, 105, 107, 101, 32] a R fun a' => gStrike ch n a' R := by
      unfold gC
      rw [if_neg c98, if_neg c99, if_neg c101, if_neg c114, if_pos c]
    rw [eg] at h1 h0
    have hle := gW_le (ch := ch) (n := n) [115, 116, 114, 105, 107, 101, 32] a han (by decide)
    refine sp_X6_takes (w := [115, 116, 114, 105, 107, 101, 32]) (by omega) (by omega) rfl (by decide) (by decide) hP (fun w => br_f (by decide) ⟨by omega, ?_⟩) (fun w => br_t rfl (sX6_takesClause_162 (sX6_takesClause_163 ⟨Or.inl rfl, ?_⟩)))
    · rw [aft_t w] at h1 h0
      have hlen : (gW ch n [115, 116, 114, 105, 107, 101, 32] a).2 = a + 7 := (gW_adv (ch := ch) (n := n) [115, 116, 114, 105, 107, 101, 32] a).2 w
      have hlI := hI.2
      generalize (gW ch n [115, 116, 114, 105, 107, 101, 32] a).2 = a1 at *
      have c0 := (CF.rf σ t).cadv a1
      refine sp_X6_takesEither (by omega) (hP.cadv hle) (hR.cadv a1).1 (by omega) (fun k σ' k1 k2 k3 => br_f (by decide) (drf_of rfl ⟨by omega, ?_⟩)) (fun k σ' k1 k2 k3 => br_t rfl (sX6_takesClause_162 (sX6_takesClause_163 ⟨Or.inl rfl, ?_⟩)))
      · have eb : gStrike ch n a1 R = (true, (gE ch n a1).2.1, ((rset R 34 (R.1 34 + 1)).1, R.2 ++ ((gE ch n a1).2.2 ++ [(124, 0)]))) := if_pos k
        rw [eb] at h1
        have b2 := (gX_bd (ch := ch) (4 * (n - a1) + 3) 4 5 a1 hle).2
        have b3 := (b2.2 k).1
        have b4 := b2.1
        have r2 := (hR.cadv a1).rf k1 k3
        refine sp_X5_addsStrike (R := (R.1, R.2 ++ (gE ch n a1).2.2)) (by omega) r2 ?_ (fun σ2 j1 j2 j3 => br_f (by decide) (sX6_takesClause_163 ⟨Or.inr rfl, ?_⟩))
        · show (R.2 ++ (gX ch n (4 * (n - a1) + 3) 4 5 a1).2.2).length < n
          rw [List.length_append]
          omega
        · refine h1 rfl σ2 (c0.trans (k1.cf.trans j1)) (k2.fi j2 (by decide)) ?_
          have j3' : RR σ2 t n ((rset R 34 (R.1 34 + 1)).1, (R.2 ++ (gE ch n a1).2.2) ++ [(124, 0)]) := j3
          rw [List.append_assoc] at j3'
          exact j3'
      · have eb : gStrike ch n a1 R = (false, (gE ch n a1).2.1, R) := if_neg (by rw [k]; decide)
        rw [eb] at h0
        exact h0 rfl σ' (c0.trans k1.cf) k2
    · rw [aft_f w] at h0
      exact h0 rfl _ ((CF.rf σ t).cadv _) (hP.cadv hle)
  · -- weigh, withdrawn
    have hlt : a < n := gN_lt c (by decide)
    have eg : gC ch n a R = (if gN ch n (a + 1) = 105 then gAft ch n [105, 116, 104, 100, 114, 97, 119, 110] (a + 1) R fun a' => (true, a', rset R 36 1) else gAft ch n [101, 105, 103, 104, 32] (a + 1) R fun a' => gWeigh ch n a' R) := by
      unfold gC
      rw [if_neg c98, if_neg c99, if_neg c101, if_neg c114, if_neg c115, if_pos c]
    have ew : gW ch n [119] a = (true, a + 1) := if_pos c
    refine sp_X6_takes (w := [119]) (by omega) (by omega) rfl (by decide) (by decide) hP (fun w => br_f (by decide) ⟨by omega, ?_⟩) (fun w => ?_)
    · rw [ew]
      have c0 := (CF.rf σ t).cadv (a + 1)
      exact sp_X6_takesBehindW (by omega) (hP.cadv hlt) (hR.cadv _) _ eg (fun k σ' k1 k2 k3 => br_f (by decide) (sX6_takesClause_201 ⟨Or.inr rfl, h1 k σ' (c0.trans k1) k2 k3⟩)) (fun k σ' k1 k2 => br_t rfl (sX6_takesClause_200 (sX6_takesClause_201 ⟨Or.inl rfl, h0 k σ' (c0.trans k1) k2⟩)))
    · rw [ew] at w
      exact Bool.noConfusion w
  · have eg : gC ch n a R = (false, a, R) := by
      unfold gC
      rw [if_neg c98, if_neg c99, if_neg c101, if_neg c114, if_neg c115, if_neg c119]
    rw [eg] at h0
    exact h0 rfl σ (CF.rf σ t) hP
theorem lp_und {d rc rs n t : Nat} {ch : Nat → Int32} {Q : XV → XH → Prop} (hd : 20 ≤ d) : ∀ (c i a : Nat) (R : RT) (σ : XH), i + c = 10 → PC σ n a ch → RR σ t n R → GI n R a →
    ((gG ch n c a R).1 = true → ∀ σ', CF σ σ' t → PC σ' n (gG ch n c a R).2.1 ch → RR σ' t n (gG ch n c a R).2.2 → Q (vI 1) σ') →
    ((gG ch n c a R).1 = false → ∀ σ', CF σ σ' t → PC σ' n (gG ch n c a R).2.1 ch → Q (vI 0) σ') → Ex d rc rs m_X6_understands 7 [vR (some (7, 0)), vR (some (6, t)), vI (nI i)] [] σ Q := by
  intro c
  induction c with
  | zero =>
    intro i a R σ hic hP hR hI hs hf
    have hi10 : i = 10 := by omega
    subst hi10
    refine sX6_understands_7 ⟨fun z => absurd z (by decide), fun _ => ⟨by omega, sp_X6_takesClause (by omega) hP hR hI (fun k σ' k1 k2 k3 => br_f (by decide) ?_) (fun k σ' k1 k2 => br_t rfl ⟨Or.inl rfl, ?_⟩)⟩⟩
    · rw [k2.2.1, k2.2.2.1]
      have b1 := k2.2.2.2.1
      have b2 := k2.2.2.2.2.1
      refine ⟨fun z => ⟨fun _ => sX6_understands_51 ⟨Or.inl rfl, ?_⟩, fun y => absurd rfl y⟩, fun z => ⟨Or.inr rfl, ?_⟩⟩
      · have z' := (c_lt (by omega) (by omega)).mp z
        have eg : gG ch n 0 a R = (false, (gC ch n a R).2.1, R) := if_neg (fun y => by omega)
        rw [eg] at hf
        exact hf rfl σ' k1 k2
      · have z' := mt (c_lt (n := (gC ch n a R).2.1) (N := n) (by omega) (by omega)).mpr z
        have eg : gG ch n 0 a R = gC ch n a R := if_pos ⟨k, by omega⟩
        rw [eg] at hs
        exact hs k σ' k1 k2 k3
    · obtain ⟨f1, f2⟩ := gG_fail (ch := ch) (n := n) 0 a R (Or.inl k)
      rw [← f2] at k2
      exact hf f1 σ' k1 k2
  | succ c ih =>
    intro i a R σ hic hP hR hI hs hf
    have han := hP.2.2.2.2.1
    refine sX6_understands_7 ⟨fun z => ?_, fun _ => ⟨by omega, sp_X6_takesClause (by omega) hP hR hI (fun k σ' k1 k2 k3 => br_f (by decide) ?_) (fun k σ' k1 k2 => br_t rfl ⟨Or.inl rfl, ?_⟩)⟩⟩
    · have := (c_lt (n := 10) (N := i) (by omega) (by omega)).mp z
      omega
    · rw [k2.2.1, k2.2.2.1]
      have b1 := k2.2.2.2.1
      have b2 := k2.2.2.2.2.1
      refine ⟨fun z => ⟨fun y => ?_, fun y => ⟨by omega, ?_⟩⟩, fun z => ⟨Or.inr rfl, ?_⟩⟩
      · exfalso
        have := nI_inj (a := i) (b := 10) (by omega) (by omega) y
        omega
      · have z' := (c_lt (by omega) (by omega)).mp z
        have ne : ¬ (gC ch n a R).2.1 = n := by omega
        refine sp_X6_takes (w := [59]) (by omega) (by omega) rfl (by decide) (by decide) k2 (fun w => br_f (by decide) ?_) (fun w => br_t rfl (sX6_understands_51 ⟨Or.inl rfl, ?_⟩))
        · have c59 : gN ch n (gC ch n a R).2.1 = 59 := by
            by_cases c59 : gN ch n (gC ch n a R).2.1 = 59
            · exact c59
            · rw [show gW ch n [59] (gC ch n a R).2.1 = (false, (gC ch n a R).2.1) from if_neg c59] at w
              exact Bool.noConfusion w
          rw [show gW ch n [59] (gC ch n a R).2.1 = (true, (gC ch n a R).2.1 + 1) from if_pos c59, nI_1]
          have eg : gG ch n (c + 1) a R = gG ch n c ((gC ch n a R).2.1 + 1) (gC ch n a R).2.2 := by
            show (if _ then _ else _) = _
            rw [if_pos k, if_neg ne, if_pos c59]
          rw [eg] at hs hf
          obtain ⟨b1, b2, b3⟩ := gC_bd (ch := ch) han hI
          have b4 := b3 k
          have c1 := k1.cadv ((gC ch n a R).2.1 + 1)
          exact ih (i + 1) _ _ _ (by omega) (k2.cadv z') (k3.cadv _) ⟨b4.1, by have := b4.2; omega⟩ (fun h1 σ2 j1 j2 j3 => hs h1 σ2 (c1.trans j1) j2 j3) (fun h1 σ2 j1 j2 => hf h1 σ2 (c1.trans j1) j2)
        · have c59 : ¬ gN ch n (gC ch n a R).2.1 = 59 := fun c59 => by
            rw [show gW ch n [59] (gC ch n a R).2.1 = (true, (gC ch n a R).2.1 + 1) from if_pos c59] at w
            exact Bool.noConfusion w
          rw [show gW ch n [59] (gC ch n a R).2.1 = (false, (gC ch n a R).2.1) from if_neg c59]
          show Q (vI 0) (cadv σ' (gC ch n a R).2.1)
          rw [k2.cadv0]
          have eg : gG ch n (c + 1) a R = (false, (gC ch n a R).2.1, R) := by
            show (if _ then _ else _) = _
            rw [if_pos k, if_neg ne, if_neg c59]
          rw [eg] at hf
          exact hf rfl σ' k1 k2
      · have z' := mt (c_lt (n := (gC ch n a R).2.1) (N := n) (by omega) (by omega)).mpr z
        have eg : gG ch n (c + 1) a R = gC ch n a R := by
          show (if _ then _ else _) = _
          rw [if_pos k, if_pos (show (gC ch n a R).2.1 = n by omega)]
        rw [eg] at hs
        exact hs k σ' k1 k2 k3
    · obtain ⟨f1, f2⟩ := gG_fail (ch := ch) (n := n) (c + 1) a R (Or.inl k)
      rw [← f2] at k2
      exact hf f1 σ' k1 k2
theorem sp_X6_understands {d n t : Nat} {ch : Nat → Int32} {σ : XH} {Q : XV → XH → Prop} (hd : 20 ≤ d) (hP : PC (cadv σ 0) n 0 ch) (hR : RR σ t n rt0)
    (h1 : (gA ch n).1 = true → ∀ σ', CF σ σ' t → PC σ' n (gA ch n).2.1 ch → RR σ' t n (gA ch n).2.2 → Q (vI 1) σ')
    (h0 : (gA ch n).1 = false → ∀ σ', CF σ σ' t → PC σ' n (gA ch n).2.1 ch → Q (vI 0) σ') : Ec d 0 0 m_X6_understands [vR (some (7, 0)), vR (some (6, t))] σ Q := by
  refine Ec_of mo_X6_understands.1 (Nat.le_of_ble_eq_true rfl) ?_
  refine sX6_understands_0 ?_
  intro g e
  have e' : g = cadv σ 0 := e
  rw [e']
  have c0 := (CF.rf σ t).cadv 0
  exact lp_und hd 9 1 0 rt0 _ rfl hP (hR.cadv 0) ⟨LI.nil, Nat.zero_le _⟩ (fun h σ' k1 k2 k3 => h1 h σ' (c0.trans k1) k2 k3) (fun h σ' k1 k2 => h0 h σ' (c0.trans k1) k2)
