/-! ===== the reference takes a clause; a text, whole ===== -/
theorem sp_X11_takesClause {d b n a : Nat} {ch : Nat → Int32} {R : RT} {ev : Int32 → Int32 → Bool} {σ : XH} {S : SS} {Q : XV → XH → Prop} (hd : 6 ≤ d) (hM : MI σ) (hP : PT S b n a ch) (hR : MR S R ev) (he : evT S = ev) (hI : LI R.2)
    (h1 : (gC ch n a R).1 = true → ∀ S', GS S S' → PT S' b n (gC ch n a R).2.1 ch → MR S' (gC ch n a R).2.2 ev → Q (vI 1) (up σ S'))
    (h0 : (gC ch n a R).1 = false ∨ inP (gN ch n (gC ch n a R).2.1) 49 52 → ∀ S', GS S S' → PT S' b n (gC ch n a R).2.1 ch → Q (vI 0) (up σ S')) : Ec d 0 0 m_X11_takesClause [vR (some (12, 0))] (up σ S) Q := by
  refine Ec_of mo_X11_takesClause.1 (Nat.le_of_ble_eq_true rfl) ?_
  refine sX11_takesClause_0 ?_
  have han := hP.2.2.2.2.2.1
  have aft_t : ∀ {l : List Int32} {f : Nat → CR}, (gW ch n l a).1 = true → gAft ch n l a R f = f (gW ch n l a).2 := fun w => if_pos w
  have aft_f : ∀ {l : List Int32} {f : Nat → CR}, (gW ch n l a).1 = false → gAft ch n l a R f = (false, (gW ch n l a).2, R) := fun w => if_neg (by rw [w]; decide)
  refine ⟨by omega, sp_X11_next hM hP ⟨fun c => ⟨by omega, ?_⟩, fun c98 => ⟨fun c => ⟨by omega, ?_⟩, fun c99 => ⟨fun c => ⟨by omega, ?_⟩, fun c101 => ⟨fun c => ⟨by omega, ?_⟩, fun c114 => ⟨fun c => ⟨by omega, ?_⟩, fun c115 => ⟨fun c => ⟨by omega, ?_⟩, fun c119 => ⟨Or.inl rfl, ?_⟩⟩⟩⟩⟩⟩⟩⟩
  · -- blur
    have eg : gC ch n a R = gAft ch n [98, 108, 117, 114, 32] a R fun a' => gBlur ch n a' R := if_pos c
    rw [eg] at h1 h0
    have hle := gW_le (ch := ch) (n := n) [98, 108, 117, 114, 32] a han (by decide)
    refine mWord (l' := [98, 108, 117, 114, 32]) (k := 4) (by omega) (by omega) hM rfl (by omega) w_blur (by decide +kernel) (by decide) rfl hP (fun w => ?_) (fun w => ?_)
    · rw [aft_t w] at h1 h0
      generalize (gW ch n [98, 108, 117, 114, 32] a).2 = a1 at *
      have hP1 := hP.adv (a' := a1) hle
      have hR1 := hR.adv a1
      have g1 : GS S (adv S a1) := (GS.rf S).adv a1
      have f169 : ∀ q : Int32, a1 < n → gBlur ch n a1 R = (true, a1 + 1, rset R 32 q) → Ex d 0 0 m_X11_takesClause 169 [vR (some (12, 0))] [] (up σ (up2 (adv S a1) 12 32 q)) Q := fun q hlt eb => by
        rw [eb] at h1
        refine sX11_takesClause_169 ?_
        intro g e
        have p1 : PT (up2 (adv S a1) 12 32 q) b n a1 ch := hP1.wk 32 q (by decide)
        rw [hi_up _ _ rfl, p1.2.2.1, nI_1, wI_up _ _ rfl] at e
        rw [e]
        exact ⟨Or.inr rfl, h1 rfl _ (GS.adv (SA.wk g1 32 q rfl) (a1 + 1)) (p1.adv hlt) ((hR1.set (by decide) q).adv (a1 + 1))⟩
      have f147 : ∀ q : Int32, ¬ q = 2 → a1 < n → gBlur ch n a1 R = (true, a1 + 1, rset R 32 q) → Ex d 0 0 m_X11_takesClause 147 [vR (some (12, 0))] [vI q, vR (some (12, 0))] (up σ (adv S a1)) Q := fun q hq hlt eb => by
        refine sX11_takesClause_147 ?_
        intro g e
        rw [wI_up _ _ rfl] at e
        have e32 : hi g 12 0 32 = q := by rw [e, hi_up _ _ rfl, up2_eq]
        rw [e32]
        refine ⟨fun z => absurd z hq, fun _ => ?_⟩
        rw [e]
        exact f169 q hlt eb
      refine ⟨by omega, sp_X11_next hM hP1 ⟨fun b1 => ?_, fun b1 => ⟨by omega, sp_X11_next hM hP1 ⟨fun b2 => ?_, fun b2 => ?_⟩⟩⟩⟩
      · exact f147 0 (by decide) (gN_lt b1 (by decide)) (by unfold gBlur; rw [if_pos b1])
      · exact f147 1 (by decide) (gN_lt b2 (by decide)) (by unfold gBlur; rw [if_neg b1, if_pos b2])
      · refine sX11_takesClause_147 ?_
        intro g e
        rw [wI_up _ _ rfl] at e
        have e32 : hi g 12 0 32 = 2 := by rw [e, hi_up _ _ rfl, up2_eq]
        rw [e32]
        refine ⟨fun _ => ?_, fun z => absurd rfl z⟩
        rw [e]
        have p1 : PT (up2 (adv S a1) 12 32 2) b n a1 ch := hP1.wk 32 2 (by decide)
        refine ⟨by omega, sp_X11_next hM p1 ⟨fun b3 => ?_, fun b3 => ⟨Or.inl rfl, ?_⟩⟩⟩
        · exact f169 2 (gN_lt b3 (by decide)) (by unfold gBlur; rw [if_neg b1, if_neg b2, if_pos b3])
        · have eb : gBlur ch n a1 R = (false, a1, R) := by unfold gBlur; rw [if_neg b1, if_neg b2, if_neg b3]
          rw [eb] at h0
          exact h0 (Or.inl rfl) _ (SA.wk g1 32 2 rfl) p1
    · rw [aft_f w] at h0
      exact sX11_takesClause_117 ⟨Or.inl rfl, h0 (Or.inl rfl) _ ((GS.rf S).adv _) (hP.adv hle)⟩
  · -- copied
    have eg : gC ch n a R = gAft ch n [99, 111, 112, 105, 101, 100] a R fun a' => (true, a', rset R 35 1) := by
      unfold gC
      rw [if_neg c98, if_pos c]
    rw [eg] at h1 h0
    have hle := gW_le (ch := ch) (n := n) [99, 111, 112, 105, 101, 100] a han (by decide)
    refine sp_X11_takesWord (k := 6) (by omega) hM (by omega) w_copied (by decide +kernel) hP (fun w => ⟨Or.inr rfl, ?_⟩) (fun w => ⟨Or.inl rfl, ?_⟩)
    · rw [aft_t w] at h1
      intro g e
      rw [wI_up _ _ rfl] at e
      have e35 : hi g 12 0 35 = 1 := by rw [e, hi_up _ _ rfl, up2_eq]
      rw [e35, e]
      exact ⟨Or.inr rfl, h1 rfl _ (SA.wk ((GS.rf S).adv _) 35 1 rfl) ((hP.adv hle).wk 35 1 (by decide)) ((hR.adv _).set (by decide) 1)⟩
    · rw [aft_f w] at h0
      intro g e
      rw [wI_up _ _ rfl] at e
      have e35 : hi g 12 0 35 = 0 := by rw [e, hi_up _ _ rfl, up2_eq]
      rw [e35, e]
      exact ⟨Or.inl rfl, h0 (Or.inl rfl) _ (SA.wk ((GS.rf S).adv _) 35 0 rfl) ((hP.adv hle).wk 35 0 (by decide))⟩
  · -- edges
    have eg : gC ch n a R = gAft ch n [101, 100, 103, 101, 115, 32] a R fun a' => gEdges ch n a' R := by
      unfold gC
      rw [if_neg c98, if_neg c99, if_pos c]
    rw [eg] at h1 h0
    have hle := gW_le (ch := ch) (n := n) [101, 100, 103, 101, 115, 32] a han (by decide)
    refine mWord (l' := [101, 100, 103, 101, 115, 32]) (k := 5) (by omega) (by omega) hM rfl (by omega) w_edges (by decide +kernel) (by decide) rfl hP (fun w => ?_) (fun w => ?_)
    · rw [aft_t w] at h1 h0
      generalize (gW ch n [101, 100, 103, 101, 115, 32] a).2 = a1 at *
      have hP1 := hP.adv (a' := a1) hle
      have g1 : GS S (adv S a1) := (GS.rf S).adv a1
      have wk : ∀ {S' : SS}, SA (tl []) (tl [31, 42]) (adv S a1) S' → GS S S' := fun t => SA.trans g1 (SA.sub t (tl_sub (by decide)) (tl_sub (by decide)))
      refine ⟨by omega, sp_X11_takesEdges (R := R) (by omega) hM hP1 (fun k S' t1 p1 e1 => br_f (by decide) (sX11_takesClause_91 (sX11_takesClause_96 ⟨Or.inr rfl, ?_⟩))) (fun k S' t1 p1 => br_t rfl (sX11_takesClause_95 (sX11_takesClause_96 ⟨Or.inl rfl, h0 k S' (wk t1) p1⟩)))⟩
      refine h1 k S' (wk t1) p1 ?_
      have ra := hR.adv a1
      obtain ⟨m1, m2, m3⟩ := ra
      refine ⟨fun j hj => ?_, fun i hi6 => ?_, ?_⟩
      · show S' 12 j = if j = 31 then (gEd ch n 4 a1 0).2.2 else R.1 j
        by_cases c31 : j = 31
        · rw [if_pos c31, c31]
          exact e1
        · rw [if_neg c31, SA.k t1 (by
            clear e1
            revert c31 hj
            revert j
            decide)]
          exact m1 j hj
      · show S' 138 i = if 100 + i = 31 then (gEd ch n 4 a1 0).2.2 else R.1 (100 + i)
        rw [if_neg (by omega), SA.a t1 (s := 138) (by decide) rfl]
        exact m2 i hi6
      · rw [SA.k t1 (j := 37) rfl]
        exact m3
    · rw [aft_f w] at h0
      exact sX11_takesClause_95 (sX11_takesClause_96 ⟨Or.inl rfl, h0 (Or.inl rfl) _ ((GS.rf S).adv _) (hP.adv hle)⟩)
  · -- rest
    have eg : gC ch n a R = gAft ch n [114, 101, 115, 116, 32] a R fun a' => gRest ch n a' R := by
      unfold gC
      rw [if_neg c98, if_neg c99, if_neg c101, if_pos c]
    rw [eg] at h1 h0
    have hle := gW_le (ch := ch) (n := n) [114, 101, 115, 116, 32] a han (by decide)
    refine mWord (l' := [114, 101, 115, 116, 32]) (k := 4) (by omega) (by omega) hM rfl (by omega) w_rest (by decide +kernel) (by decide) rfl hP (fun w => ?_) (fun w => ?_)
    · rw [aft_t w] at h1 h0
      generalize (gW ch n [114, 101, 115, 116, 32] a).2 = a1 at *
      have hP1 := hP.adv (a' := a1) hle
      have g1 : GS S (adv S a1) := (GS.rf S).adv a1
      refine ⟨by omega, sp_X11_takesNumber (m := 4) (by omega) hM (by omega) hP1 (fun cd => br_f (by decide) ?_) (fun cd => br_t rfl (sX11_takesClause_248 ⟨Or.inl rfl, ?_⟩))⟩
      · have eb : gRest ch n a1 R = (true, (gD ch n 4 a1 0).1, rset R 33 (gD ch n 4 a1 0).2) := if_pos cd
        rw [eb] at h1
        have hgd := gD_le (ch := ch) 4 a1 0 hle
        have e43 : hi (up σ (nset (adv S a1) (gD ch n 4 a1 0).2 (gD ch n 4 a1 0).1)) 12 0 43 = (gD ch n 4 a1 0).2 := by
          rw [hi_up _ _ rfl]
          unfold nset adv
          rw [up2_k _ _ _ (by decide), up2_eq]
        intro g e
        rw [e43, wI_up _ _ rfl] at e
        rw [e]
        have t6 : SA (tl []) (tl [42, 43]) (adv S a1) (nset (adv S a1) (gD ch n 4 a1 0).2 (gD ch n 4 a1 0).1) := ((SA.rf _ _ _).wk 43 _ rfl).wk 42 _ rfl
        have t5 : GS S (nset (adv S a1) (gD ch n 4 a1 0).2 (gD ch n 4 a1 0).1) := SA.trans g1 (SA.sub t6 (tl_sub (by decide)) (tl_sub (by decide)))
        exact ⟨Or.inr rfl, h1 rfl _ (SA.wk t5 33 _ rfl) ((hP1.nset _ hgd).wk 33 _ (by decide)) (((hR.adv a1).sa t6 rfl (by decide)).set (by decide) _)⟩
      · have eb : gRest ch n a1 R = (false, a1, R) := if_neg cd
        rw [eb] at h0
        exact h0 (Or.inl rfl) _ g1 hP1
    · rw [aft_f w] at h0
      exact sX11_takesClause_248 ⟨Or.inl rfl, h0 (Or.inl rfl) _ ((GS.rf S).adv _) (hP.adv hle)⟩
  · -- strike
    have eg : gC ch n a R = gAft ch n [115, 116, 114, 105, 107, 101, 32] a R fun a' => gStrike ch n a' R := by
      unfold gC
      rw [if_neg c98, if_neg c99, if_neg c101, if_neg c114, if_pos c]
    rw [eg] at h1 h0
    have hle := gW_le (ch := ch) (n := n) [115, 116, 114, 105, 107, 101, 32] a han (by decide)
    refine mWord (l' := [115, 116, 114, 105, 107, 101, 32]) (k := 6) (by omega) (by omega) hM rfl (by omega) w_strike (by decide +kernel) (by decide) rfl hP (fun w => ?_) (fun w => ?_)
    · rw [aft_t w] at h1 h0
      have hpos : 0 < (gW ch n [115, 116, 114, 105, 107, 101, 32] a).2 := by
        have := (gW_adv (ch := ch) (n := n) [115, 116, 114, 105, 107, 101, 32] a).2 w
        rw [this]
        show 0 < a + 7
        omega
      generalize (gW ch n [115, 116, 114, 105, 107, 101, 32] a).2 = a1 at *
      have hP1 := hP.adv (a' := a1) hle
      have g1 : GS S (adv S a1) := (GS.rf S).adv a1
      have ra := hR.adv a1
      have wk : ∀ {S' : SS}, SA (tl [140, 300]) (tl [34, 37, 42, 43, 46, 47, 48]) (adv S a1) S' → GS S S' := fun t => SA.trans g1 (SA.sub t (tl_sub (by decide)) (tl_sub (by decide)))
      have hev : evT (adv S a1) = ev := he
      refine ⟨by omega, sp_X11_takesE (x := struck ev R.2) (z := R.1 34) (by omega) hM hP1 hpos hev ra.2.2 (ra.1 34 (by decide)) (fun k S' t1 p1 e1 e2 => br_f (by decide) (sX11_takesClause_214 (sX11_takesClause_219 ⟨Or.inr rfl, ?_⟩))) (fun k S' t1 p1 => br_t rfl (sX11_takesClause_218 (sX11_takesClause_219 ⟨Or.inl rfl, ?_⟩)))⟩
      · have eb : gStrike ch n a1 R = (true, (gE ch n a1).2.1, ((rset R 34 (R.1 34 + 1)).1, R.2 ++ ((gE ch n a1).2.2 ++ [(124, 0)]))) := if_pos k
        rw [eb] at h1
        refine h1 rfl S' (wk t1) p1 ?_
        obtain ⟨m1, m2, m3⟩ := ra
        refine ⟨fun j hj => ?_, fun i hi6 => ?_, ?_⟩
        · show S' 12 j = if j = 34 then R.1 34 + 1 else R.1 j
          by_cases c34 : j = 34
          · rw [if_pos c34, c34]
            exact e1
          · rw [if_neg c34, SA.k t1 (by
              clear e1 e2
              revert c34 hj
              revert j
              decide)]
            exact m1 j hj
        · show S' 138 i = if 100 + i = 34 then R.1 34 + 1 else R.1 (100 + i)
          rw [if_neg (by omega), SA.a t1 (s := 138) (by decide) rfl]
          exact m2 i hi6
        · show S' 12 37 = bI (struck ev (R.2 ++ ((gE ch n a1).2.2 ++ [(124, 0)])))
          rw [(hI.strike k).2 ev]
          exact e2
      · have eb : gStrike ch n a1 R = (false, (gE ch n a1).2.1, R) := if_neg (by rw [k]; decide)
        rw [eb] at h0
        exact h0 (Or.inl rfl) S' (wk t1) p1
    · rw [aft_f w] at h0
      exact sX11_takesClause_218 (sX11_takesClause_219 ⟨Or.inl rfl, h0 (Or.inl rfl) _ ((GS.rf S).adv _) (hP.adv hle)⟩)
  · -- weigh, withdrawn
    refine sp_X11_takesW (by omega) hM hP hR c (fun k S' t p m => ⟨Or.inr rfl, h1 k S' t p m⟩) (fun k S' t p => ⟨Or.inl rfl, h0 (Or.inl k) S' t p⟩)
  · have eg : gC ch n a R = (false, a, R) := by
      unfold gC
      rw [if_neg c98, if_neg c99, if_neg c101, if_neg c114, if_neg c115, if_neg c119]
    rw [eg] at h0
    exact h0 (Or.inl rfl) S (GS.rf S) hP
theorem gG_fail {ch : Nat → Int32} {n : Nat} (c a : Nat) (R : RT) (h : (gC ch n a R).1 = false ∨ inP (gN ch n (gC ch n a R).2.1) 49 52) : (gG ch n c a R).1 = false ∧ (gG ch n c a R).2.1 = (gC ch n a R).2.1 := by
  have ne : inP (gN ch n (gC ch n a R).2.1) 49 52 → ¬ (gC ch n a R).2.1 = n ∧ ¬ gN ch n (gC ch n a R).2.1 = 59 := fun z => by
    have hlt : (gC ch n a R).2.1 < n := gN_lt (c := gN ch n (gC ch n a R).2.1) rfl (fun y => by
      rw [y] at z
      exact absurd z (by decide))
    exact ⟨by omega, fun y => by
      rw [y] at z
      exact absurd z (by decide)⟩
  cases c with
  | zero =>
    unfold gG
    rw [if_neg]
    · exact ⟨rfl, rfl⟩
    · rintro ⟨z1, z2⟩
      rcases h with h | h
      · rw [z1] at h
        exact Bool.noConfusion h
      · exact (ne h).1 z2
  | succ c =>
    unfold gG
    by_cases z : (gC ch n a R).1 = true
    · rw [if_pos z]
      have h' := h.resolve_left (by rw [z]; decide)
      rw [if_neg (ne h').1, if_neg (ne h').2]
      exact ⟨rfl, rfl⟩
    · rw [if_neg z]
      exact ⟨rfl, rfl⟩
theorem lp_goes {d rc rs b n : Nat} {ch : Nat → Int32} {ev : Int32 → Int32 → Bool} {σ : XH} {Q : XV → XH → Prop} (hd : 7 ≤ d) (hM : MI σ) : ∀ (c a i : Nat) (R : RT) (S : SS), i + c = 9 → PT S b n a ch → MR S R ev → evT S = ev → GI n R a →
    ((gG ch n c a R).1 = true → ∀ S', GS S S' → PT S' b n (gG ch n c a R).2.1 ch → MR S' (gG ch n c a R).2.2 ev → Q (vI 1) (up σ S')) →
    ((gG ch n c a R).1 = false → ∀ S', GS S S' → PT S' b n (gG ch n c a R).2.1 ch → Q (vI 0) (up σ S')) → Ex d rc rs m_X11_goes 30 [vR (some (12, 0)), vU, vI (nI i)] [] (up σ S) Q := by
  intro c
  induction c with
  | zero =>
    intro a i R S hic hP hR he hI hs hf
    have hi9 : i = 9 := by omega
    subst hi9
    refine sX11_goes_30 ⟨by omega, sp_X11_takesClause (by omega) hM hP hR he hI.1 (fun k S' t p m => br_f (by decide) ⟨fun z => ⟨Or.inr rfl, ?_⟩, fun z => ⟨fun _ => sX11_goes_70 ⟨Or.inl rfl, ?_⟩, fun y => absurd (by decide) y⟩⟩) (fun k S' t p => br_t rfl ⟨Or.inl rfl, ?_⟩)⟩
    · have en : (gC ch n a R).2.1 = n := by
        have e1 : S' 12 42 = S' 12 41 := z
        rw [p.2.2.1, p.2.1] at e1
        have := p.2.2.2.2.1
        have := p.2.2.2.2.2.1
        exact nI_inj (by omega) (by omega) e1
      have eg : gG ch n 0 a R = gC ch n a R := if_pos ⟨k, en⟩
      rw [eg] at hs
      exact hs k S' t p m
    · have ne : ¬ (gC ch n a R).2.1 = n := fun y => z (by
        show S' 12 42 = S' 12 41
        rw [p.2.2.1, p.2.1, y])
      have eg : gG ch n 0 a R = (false, (gC ch n a R).2.1, R) := if_neg (fun y => ne y.2)
      rw [eg] at hf
      exact hf rfl S' t p
    · obtain ⟨f1, f2⟩ := gG_fail 0 a R k
      rw [← f2] at p
      exact hf f1 S' t p
  | succ c ih =>
    intro a i R S hic hP hR he hI hs hf
    have han := hP.2.2.2.2.2.1
    have h140 := hP.2.2.2.2.1
    refine sX11_goes_30 ⟨by omega, sp_X11_takesClause (by omega) hM hP hR he hI.1 (fun k S' t p m => br_f (by decide) ⟨fun z => ⟨Or.inr rfl, ?_⟩, fun z => ⟨fun y => ?_, fun y => ⟨by omega, ?_⟩⟩⟩) (fun k S' t p => br_t rfl ⟨Or.inl rfl, ?_⟩)⟩
    · have en : (gC ch n a R).2.1 = n := by
        have e1 : S' 12 42 = S' 12 41 := z
        rw [p.2.2.1, p.2.1] at e1
        have := p.2.2.2.2.2.1
        exact nI_inj (by omega) (by omega) e1
      have eg : gG ch n (c + 1) a R = gC ch n a R := by
        show (if _ then _ else _) = _
        rw [if_pos k, if_pos en]
      rw [eg] at hs
      exact hs k S' t p m
    · exfalso
      have := (nI_eq (a := i + 1) (b := 10) (by omega) (by omega)).mp (by rw [← nI_1]; exact y)
      omega
    · have ne : ¬ (gC ch n a R).2.1 = n := fun y => z (by
        show S' 12 42 = S' 12 41
        rw [p.2.2.1, p.2.1, y])
      refine sp_X11_takes (by omega) hM p (fun c59 => br_f (by decide) ?_) (fun c59 => br_t rfl (sX11_goes_70 ⟨Or.inl rfl, ?_⟩))
      · have hlt := gN_lt c59 (by decide)
        have eg : gG ch n (c + 1) a R = gG ch n c ((gC ch n a R).2.1 + 1) (gC ch n a R).2.2 := by
          show (if _ then _ else _) = _
          rw [if_pos k, if_neg ne, if_pos c59]
        rw [eg] at hs hf
        rw [nI_1]
        obtain ⟨b1, b2, b3⟩ := gC_bd (ch := ch) han hI
        have b4 := b3 k
        refine ih _ (i + 1) _ _ (by omega) (p.adv hlt) (m.adv _) ?_ ⟨b4.1, by have := b4.2; omega⟩ (fun h1 S2 t2 p2 m2 => hs h1 S2 (SA.trans (t.adv _) t2) p2 m2) (fun h1 S2 t2 p2 => hf h1 S2 (SA.trans (t.adv _) t2) p2)
        have : evT S' = ev := (evT_sa t rfl).trans he
        exact this
      · have eg : gG ch n (c + 1) a R = (false, (gC ch n a R).2.1, R) := by
          show (if _ then _ else _) = _
          rw [if_pos k, if_neg ne, if_neg c59]
        rw [eg] at hf
        exact hf rfl S' t p
    · obtain ⟨f1, f2⟩ := gG_fail (c + 1) a R k
      rw [← f2] at p
      exact hf f1 S' t p
theorem sp_X11_clean {d : Nat} {ev : Int32 → Int32 → Bool} {σ : XH} {S : SS} {Q : XV → XH → Prop} (hM : MI σ) (h : ∀ S', SA (tl [138]) (tl [31, 32, 33, 34, 35, 36, 37]) S S' → MR S' rt0 ev → Q vU (up σ S')) : Ec d 0 0 m_X11_clean [vR (some (12, 0))] (up σ S) Q := by
  have lp : ∀ (m i : Nat) (T : SS), i + m = 6 → SA (tl [138]) (tl [31, 32, 33, 34, 35, 36, 37]) S T → (∀ j, j < i → T 138 j = 1) → (∀ j, j ∈ [31, 32, 33, 34, 35, 36] → T 12 j = rt0.1 j) → T 12 37 = 0 → Ex d 0 0 m_X11_clean 40 [vR (some (12, 0)), vI (nI i)] [] (up σ T) Q := by
    intro m
    induction m with
    | zero =>
      intro i T him t hw hk h37
      refine sX11_clean_40 ⟨fun z => ?_, fun _ => h T t ⟨hk, fun j hj => ?_, h37⟩⟩
      · have := (c_lt (n := i) (N := 6) (by omega) (by omega)).mp z
        omega
      · rw [hw j (by omega)]
        show 1 = if 100 + j = 31 then _ else _
        rw [if_neg (by omega), if_neg (by omega), if_neg (by omega), if_neg (by omega)]
    | succ m ih =>
      intro i T him t hw hk h37
      refine sX11_clean_40 ⟨fun _ => ⟨hM.r138, vp_at hM.n138 (vp_in_nI (by omega) (by omega)), ?_⟩, fun z => absurd ((c_lt (n := i) (N := 6) (by omega) (by omega)).mpr (by omega)) z⟩
      intro g e
      rw [nI_clamp (by omega), wI_up _ _ rfl] at e
      rw [e, nI_1]
      refine ih (i + 1) _ (by omega) (t.wa i 1 (by decide) rfl) (fun j hj => ?_) (fun j hj => ?_) ?_
      · rw [up2_at]
        split
        · rfl
        · exact hw j (by omega)
      · rw [up2_s _ _ _ (show 12 ≠ 138 by decide)]
        exact hk j hj
      · rw [up2_s _ _ _ (show 12 ≠ 138 by decide)]
        exact h37
  refine Ec_of mo_X11_clean.1 (Nat.le_of_ble_eq_true rfl) ?_
  refine sX11_clean_0 ?_
  intro g1 e1 g2 e2 g3 e3 g4 e4
  refine ⟨Or.inl rfl, ?_⟩
  intro g5 e5
  refine ⟨Or.inl rfl, ?_⟩
  intro g6 e6
  refine ⟨Or.inl rfl, ?_⟩
  intro g7 e7
  rw [wI_up _ _ rfl] at e1
  rw [e1, wI_up _ _ rfl] at e2
  rw [e2, wI_up _ _ rfl] at e3
  rw [e3, wI_up _ _ rfl] at e4
  rw [e4, wI_up _ _ rfl] at e5
  rw [e5, wI_up _ _ rfl] at e6
  rw [e6, wI_up _ _ rfl] at e7
  rw [e7]
  refine lp 6 0 _ rfl (((((((SA.wk (SA.rf _ _ S) _ _ rfl).wk _ _ rfl).wk _ _ rfl).wk _ _ rfl).wk _ _ rfl).wk _ _ rfl).wk _ _ rfl) (fun j hj => absurd hj (Nat.not_lt_zero _)) (fun j hj => ?_) (up2_eq _ _ _ _)
  simp only [up2_at]
  have hj' : j = 31 ∨ j = 32 ∨ j = 33 ∨ j = 34 ∨ j = 35 ∨ j = 36 := by simpa using hj
  rcases hj' with q | q | q | q | q | q <;> subst q <;> rfl
/-- what a text's going through may change -/
def HS (S S' : SS) : Prop := SA (tl [138, 140, 300]) (tl [31, 32, 33, 34, 35, 36, 37, 40, 41, 42, 43, 46, 47, 48]) S S'
theorem sp_X11_goes {d n w : Nat} {ch : Nat → Int32} {ev : Int32 → Int32 → Bool} {σ : XH} {S : SS} {Q : XV → XH → Prop} (hd : 8 ≤ d) (hM : MI σ) (hw : w < 13) (hz : S 137 w = nI n) (hn : n ≤ 140) (hch : ∀ k, k < n → S 136 (140 * w + k) = ch k) (he : evT S = ev)
    (h1 : (gA ch n).1 = true → ∀ S', HS S S' → S' 12 42 = nI (gA ch n).2.1 → MR S' (gA ch n).2.2 ev → Q (vI 1) (up σ S'))
    (h0 : (gA ch n).1 = false → ∀ S', HS S S' → S' 12 42 = nI (gA ch n).2.1 → Q (vI 0) (up σ S')) : Ec d 0 0 m_X11_goes [vR (some (12, 0)), vI (nI w)] (up σ S) Q := by
  refine Ec_of mo_X11_goes.1 (Nat.le_of_ble_eq_true rfl) ?_
  refine sX11_goes_0 ?_
  intro g1 e1
  have e140 : (140 : Int32) * nI w = nI (140 * w) := by
    have : ∀ w, w < 13 → (140 : Int32) * nI w = nI (140 * w) := by decide +kernel
    exact this w hw
  rw [e140, wI_up _ _ rfl] at e1
  rw [e1]
  refine ⟨hM.r137, vp_at hM.n137 (vp_in_nI hw (by omega)), ?_⟩
  rw [nI_clamp (by omega)]
  intro g2 e2
  have e137 : hi (up σ (up2 S 12 40 (nI (140 * w)))) 137 0 w = nI n := by
    rw [hi_up _ _ rfl, up2_s _ _ _ (by decide)]
    exact hz
  rw [e137, wI_up _ _ rfl] at e2
  rw [e2]
  intro g3 e3
  rw [wI_up _ _ rfl] at e3
  rw [e3]
  have t0 : HS S (up2 (up2 (up2 S 12 40 (nI (140 * w))) 12 41 (nI n)) 12 42 0) := ((SA.wk (SA.rf _ _ S) _ _ rfl).wk _ _ rfl).wk _ _ rfl
  have p0 : PT (up2 (up2 (up2 S 12 40 (nI (140 * w))) 12 41 (nI n)) 12 42 0) (140 * w) n 0 ch := by
    refine ⟨?_, ?_, up2_eq _ _ _ _, by omega, hn, Nat.zero_le _, fun k hk => ?_⟩
    · rw [up2_k _ _ _ (by decide), up2_k _ _ _ (by decide), up2_eq]
    · rw [up2_k _ _ _ (by decide), up2_eq]
    · rw [up2_s _ _ _ (show 136 ≠ 12 by decide), up2_s _ _ _ (show 136 ≠ 12 by decide), up2_s _ _ _ (show 136 ≠ 12 by decide)]
      exact hch k hk
  refine ⟨by omega, sp_X11_clean (ev := ev) hM (fun S1 t1 m1 => ?_)⟩
  have t1' : HS S S1 := SA.trans t0 (SA.sub t1 (tl_sub (by decide)) (tl_sub (by decide)))
  have wk : ∀ {S' : SS}, GS S1 S' → HS S S' := fun t => SA.trans t1' (SA.sub t (tl_sub (by decide)) (tl_sub (by decide)))
  refine lp_goes (by omega) hM 9 0 0 rt0 S1 rfl (p0.sa t1 rfl (by decide)) m1 ?_ ⟨LI.nil, Nat.zero_le _⟩ (fun k S2 t2 p2 m2 => h1 k S2 (wk t2) p2.2.2.1 m2) (fun k S2 t2 p2 => h0 k S2 (wk t2) p2.2.2.1)
  exact (evT_sa t1' rfl).trans he
