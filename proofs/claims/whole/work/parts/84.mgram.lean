/-! ===== the reference goes through an E as the grammar says ===== -/
def TE (S S' : SS) : Prop := SA (tl [140, 300]) (tl [42, 43, 46, 47, 48]) S S'
theorem TE.rf (S : SS) : TE S S := SA.rf _ _ S
theorem TE.trans {a b c : SS} (h : TE a b) (k : TE b c) : TE a c := SA.trans h k
theorem TS.te {S S' : SS} (h : TS S S') : TE S S' := SA.sub h (tl_sub (by decide)) (fun _ h => h)
theorem evT_sa {A K : Nat → Bool} {S S' : SS} (h : SA A K S S') (a : A 139 = false) : evT S' = evT S := funext fun sg => funext fun v => by
  unfold evT
  rw [h.a (s := 139) (by decide) a]
theorem TE.ev {S S' : SS} {ev : Int32 → Int32 → Bool} (h : TE S S') (e : evT S = ev) : evT S' = ev := (evT_sa h rfl).trans e
def hd0 (W : List Int32) : Int32 := W.headD 0
theorem psh_no {W : List Int32} (v : Bool) (h : ¬ hd0 W = 33) : psh W v = (W, v) := by
  match W, h with
  | [], _ => rfl
  | w :: W, h => exact if_neg h
theorem psh_33 (W : List Int32) (v : Bool) : psh (33 :: W) v = psh W (!v) := if_pos rfl
theorem stl_no {s : Int32} {W : List Int32} (V : List Bool) (h1 : ¬ hd0 W = 38) (h2 : hd0 W = 124 → s = 38) : stl s W V = (W, V) := by
  match W, V, h1, h2 with
  | [], _, _, _ => unfold stl; rfl
  | w :: W, [], _, _ => rfl
  | w :: W, [x], _, _ => rfl
  | w :: W, x :: y :: V, h1, h2 => exact if_neg (fun q => q.elim h1 (fun q => q.2 (h2 q.1)))
theorem stl_38 (s : Int32) (W : List Int32) (b a : Bool) (V : List Bool) : stl s (38 :: W) (b :: a :: V) = stl s W ((a && b) :: V) := if_pos (Or.inl rfl)
theorem stl_124 (W : List Int32) (b a : Bool) (V : List Bool) : stl 124 (124 :: W) (b :: a :: V) = stl 124 W ((a || b) :: V) := if_pos (Or.inr ⟨rfl, by decide⟩)
theorem stl_len : ∀ (s : Int32) (W : List Int32) (V : List Bool), (stl s W V).1.length ≤ W.length ∧ (stl s W V).2.length ≤ V.length
  | s, [], V => by unfold stl; exact ⟨Nat.le_refl _, Nat.le_refl _⟩
  | s, w :: W, [] => ⟨Nat.le_refl _, Nat.le_refl _⟩
  | s, w :: W, [x] => ⟨Nat.le_refl _, Nat.le_refl _⟩
  | s, w :: W, b :: a :: V => by
    unfold stl
    split
    · obtain ⟨h1, h2⟩ := stl_len s W ((if w = 38 then a && b else a || b) :: V)
      exact ⟨Nat.le_succ_of_le h1, Nat.le_succ_of_le h2⟩
    · exact ⟨Nat.le_refl _, Nat.le_refl _⟩
theorem psh_bin : ∀ (W : List Int32) (v : Bool), bin (psh W v).1 = bin W ∧ (psh W v).1.length ≤ W.length
  | [], v => ⟨rfl, Nat.le_refl _⟩
  | w :: W, v => by
    unfold psh
    split
    · rename_i h
      obtain ⟨h1, h2⟩ := psh_bin W (!v)
      refine ⟨h1.trans ?_, Nat.le_succ_of_le h2⟩
      show bin W = bin W + (if w = 38 ∨ w = 124 then 1 else 0)
      rw [h, if_neg (by decide)]
      rfl
    · exact ⟨rfl, Nat.le_refl _⟩
/-- a sign comes on the waiting ones -/
theorem PS.sign {S : SS} {W : List Int32} {V : List Bool} (h : PS S W V) (hW : W.length < 140) (w : Int32) {x : Int32} (hx : x = nI (cnt (w :: W))) : PS (up2 (up2 (up2 S 12 48 x) 140 W.length w) 12 46 (nI (W.length + 1))) (w :: W) V := by
  obtain ⟨h1, h2, h3, h4, h5, h6, h7⟩ := h
  refine ⟨?_, ?_, ?_, by show W.length + 1 ≤ 140; omega, h5, ⟨?_, ?_⟩, ?_⟩
  · rw [up2_eq]
    rfl
  · rw [up2_k _ _ _ (by decide), up2_s _ _ _ (by decide), up2_k _ _ _ (by decide)]
    exact h2
  · rw [up2_k _ _ _ (by decide), up2_s _ _ _ (by decide), up2_eq, hx]
  · rw [up2_s _ _ _ (show 140 ≠ 12 by decide), up2_eq]
  · refine layW_cg W (fun k hk => ?_) h6
    rw [up2_s _ _ _ (show 140 ≠ 12 by decide), up2_at, if_neg (by omega), up2_s _ _ _ (show 140 ≠ 12 by decide)]
  · refine layV_cg V (fun k _ => ?_) h7
    rw [up2_s _ _ _ (show 300 ≠ 12 by decide), up2_s _ _ _ (show 300 ≠ 140 by decide), up2_s _ _ _ (show 300 ≠ 12 by decide)]
theorem PS.adv {S : SS} {W : List Int32} {V : List Bool} (h : PS S W V) (a : Nat) : PS (CSpotTimersLaw_law_r3327_87c8ce.adv S a) W V :=
  h.sa (A := tl []) (K := tl [42]) ((SA.rf _ _ S).wk 42 (nI a) rfl) rfl rfl (by decide)
theorem PS.pop {S : SS} {W : List Int32} {v : Bool} {V : List Bool} (h : PS S W (v :: V)) : PS (up2 S 12 47 (nI V.length)) W V := by
  obtain ⟨h1, h2, h3, h4, h5, h6, h7⟩ := h
  have h5' : V.length + 1 ≤ 140 := h5
  refine ⟨?_, up2_eq _ _ _ _, ?_, h4, by omega, layW_cg W (fun k _ => ?_) h6, layV_cg V (fun k _ => ?_) h7.2⟩
  · rw [up2_k _ _ _ (by decide)]; exact h1
  · rw [up2_k _ _ _ (by decide)]; exact h3
  · rw [up2_s _ _ _ (show 140 ≠ 12 by decide)]
  · rw [up2_s _ _ _ (show 300 ≠ 12 by decide)]
/-- a sign between two comes -/
theorem mE_op {d rc rs b n a : Nat} {c : Int32} {ch : Nat → Int32} {σ : XH} {S : SS} {W W1 : List Int32} {V V1 : List Bool} {Q : XV → XH → Prop} (hd : 1 ≤ d) (hM : MI σ) (hc : c = 38 ∨ c = 124) (hP : PT S b n a ch) (hS : PS S W V) (hb : bin W < V.length) (ha : a < n) (e : stl c W V = (W1, V1)) (hW : W1.length < 140)
    (h : ∀ S', TE S S' → PT S' b n (a + 1) ch → PS S' (c :: W1) V1 → Ex d rc rs m_X11_takesE 17 [vR (some (12, 0)), vI 1, vU] [] (up σ S') Q) : Ex d rc rs m_X11_takesE 117 [vR (some (12, 0)), vU, vI c] [] (up σ S) Q := by
  refine sX11_takesE_117 ⟨by omega, sp_X11_settle hM hS hb (fun S1 k1 k2 => ?_)⟩
  rw [e] at k2
  have k2' : PS S1 W1 V1 := k2
  have t1 : TE S S1 := SA.sub k1 (tl_sub (by decide)) (tl_sub (by decide))
  have hP1 : PT S1 b n a ch := hP.sa k1 rfl (by decide)
  have e46 : hi (up σ S1) 12 0 46 = nI W1.length := k2'.1
  dsimp only [kU]
  rw [e46]
  refine ⟨hM.r140, vp_at hM.n140 (vp_in_nI (by omega) (by omega)), ?_⟩
  intro g1 e1 g2 e2 g3 e3
  rw [nI_clamp (by omega), wI_up _ _ rfl] at e1
  rw [e1, hi_up _ _ rfl, up2_s _ _ _ (show 12 ≠ 140 by decide), k2'.1, nI_1, wI_up _ _ rfl] at e2
  rw [e2, hi_up _ _ rfl, up2_k _ _ _ (show 42 ≠ 46 by decide), up2_s _ _ _ (show 12 ≠ 140 by decide), hP1.2.2.1, nI_1, wI_up _ _ rfl] at e3
  have ec : cnt (c :: W1) = cnt W1 := by
    show cnt W1 + (if c = 33 ∨ c = 40 then 1 else 0) = cnt W1
    rw [if_neg (fun q => by rcases hc with z | z <;> rw [z] at q <;> exact absurd q (by decide))]
    rfl
  have hs := k2'.sign hW c (x := S1 12 48) (by rw [ec]; exact k2'.2.2.1)
  rw [up2_same S1 rfl] at hs
  have sa : SA (tl [140, 300]) (tl [42, 43, 46, 47, 48]) S1 (up2 (up2 S1 140 W1.length c) 12 46 (nI (W1.length + 1))) := ((SA.rf _ _ S1).wa _ _ (by decide) rfl).wk _ _ rfl
  have sa2 : SA (tl [140]) (tl [46]) S1 (up2 (up2 S1 140 W1.length c) 12 46 (nI (W1.length + 1))) := ((SA.rf _ _ S1).wa _ _ (by decide) rfl).wk _ _ rfl
  rw [e3]
  exact h _ (t1.trans (sa.wk 42 _ rfl)) ((hP1.sa sa2 rfl (by decide)).adv (by omega)) (hs.adv (a + 1))
/-- a sign that nests comes -/
theorem mE_in {d rc rs b n a : Nat} {c : Int32} {ch : Nat → Int32} {σ : XH} {S : SS} {W : List Int32} {V : List Bool} {Q : XV → XH → Prop} (hM : MI σ) (hc : c = 33 ∨ c = 40) (hP : PT S b n a ch) (hS : PS S W V) (ha : a < n) (hW : W.length < 140)
    (h5 : cnt W = 5 → Q (vI 0) (up σ S))
    (h : ¬ cnt W = 5 → ∀ S', TE S S' → PT S' b n (a + 1) ch → PS S' (c :: W) V → Ex d rc rs m_X11_takesE 17 [vR (some (12, 0)), vI 1, vU] [] (up σ S') Q) : Ex d rc rs m_X11_takesE 38 [vR (some (12, 0)), vI 1, vI c] [] (up σ S) Q := by
  have hcn := cnt_le W
  have e48 : hi (up σ S) 12 0 48 = nI (cnt W) := hS.2.2.1
  refine sX11_takesE_38 ?_
  unfold bX11_takesE_38
  rw [e48]
  refine ⟨fun c5 => ⟨Or.inl rfl, h5 ?_⟩, fun c5 => ?_⟩
  · exact nI_inj (b := 5) (by omega) (by omega) c5
  · have c5' : ¬ cnt W = 5 := fun z => c5 (by rw [z]; rfl)
    intro g1 e1
    rw [nI_1, wI_up _ _ rfl] at e1
    rw [e1]
    have e46 : hi (up σ (up2 S 12 48 (nI (cnt W + 1)))) 12 0 46 = nI W.length := by
      rw [hi_up _ _ rfl, up2_k _ _ _ (by decide)]
      exact hS.1
    rw [e46]
    refine ⟨hM.r140, vp_at hM.n140 (vp_in_nI (by omega) (by omega)), ?_⟩
    intro g2 e2 g3 e3 g4 e4
    rw [nI_clamp (by omega), wI_up _ _ rfl] at e2
    rw [e2, hi_up _ _ rfl, up2_s _ _ _ (show 12 ≠ 140 by decide), up2_k _ _ _ (show 46 ≠ 48 by decide), hS.1, nI_1, wI_up _ _ rfl] at e3
    rw [e3, hi_up _ _ rfl, up2_k _ _ _ (show 42 ≠ 46 by decide), up2_s _ _ _ (show 12 ≠ 140 by decide), up2_k _ _ _ (show 42 ≠ 48 by decide), hP.2.2.1, nI_1, wI_up _ _ rfl] at e4
    have ec : cnt (c :: W) = cnt W + 1 := by
      show cnt W + (if c = 33 ∨ c = 40 then 1 else 0) = cnt W + 1
      rw [if_pos hc]
    have hs := hS.sign hW c (x := nI (cnt W + 1)) (by rw [ec])
    have sa : SA (tl [140, 300]) (tl [42, 43, 46, 47, 48]) S (up2 (up2 (up2 S 12 48 (nI (cnt W + 1))) 140 W.length c) 12 46 (nI (W.length + 1))) := (((SA.rf _ _ S).wk _ _ rfl).wa _ _ (by decide) rfl).wk _ _ rfl
    have sa2 : SA (tl [140]) (tl [46, 48]) S (up2 (up2 (up2 S 12 48 (nI (cnt W + 1))) 140 W.length c) 12 46 (nI (W.length + 1))) := (((SA.rf _ _ S).wk _ _ rfl).wa _ _ (by decide) rfl).wk _ _ rfl
    rw [e4]
    exact h c5' _ (sa.wk 42 _ rfl) ((hP.sa sa2 rfl (by decide)).adv (by omega)) (hs.adv (a + 1))
/-- behind an E: neither & nor | is in view; what waits is settled, and then -/
theorem mE_end {d rc rs b n a : Nat} {ch : Nat → Int32} {σ : XH} {S : SS} {W W1 : List Int32} {V V1 : List Bool} {v : Bool} {Q : XV → XH → Prop} (hd : 2 ≤ d) (hM : MI σ) (hP : PT S b n a ch) (hS : PS S W V) (hb : bin W < V.length) (e : stl 124 W V = (W1, v :: V1)) (h38 : ¬ gN ch n a = 38) (h124 : ¬ gN ch n a = 124)
    (h0 : W1 = [] → ∀ S', TE S S' → PT S' b n a ch → PS S' W1 (v :: V1) → ∀ h5, h5 = wI (up σ S') 12 0 34 ((hi (up σ S') 12 0 34) + 1) → (((hi h5 12 0 37) = 0 → (hr h5 12 0 45 = some (300, 0) ∧ (vp_in 0 (hn h5 300 0) ∧ (((hi h5 300 0 (0 : Int32).toNatClampNeg) = 0 → Ex d rc rs m_X11_takesE 269 [vU, vU, vU] [vI 0, vR (some (12, 0))] h5 Q) ∧ (¬ (hi h5 300 0 (0 : Int32).toNatClampNeg) = 0 → Ex d rc rs m_X11_takesE 264 [vU, vU, vU] [vR (some (12, 0))] h5 Q))))) ∧ (¬ (hi h5 12 0 37) = 0 → Ex d rc rs m_X11_takesE 264 [vU, vU, vU] [vR (some (12, 0))] h5 Q)))
    (h1 : ¬ W1 = [] → gN ch n a = 41 → ∀ S', TE S S' → PT S' b n a ch → PS S' W1 (v :: V1) → Ex d rc rs m_X11_takesE 191 [vR (some (12, 0)), vI 0, vU] [] (up σ (up2 S' 12 46 (nI (W1.length - 1)))) Q)
    (h2 : ¬ W1 = [] → ¬ gN ch n a = 41 → ∀ S', TE S S' → PT S' b n a ch → Q (vI 0) (up σ S')) : Ex d rc rs m_X11_takesE 17 [vR (some (12, 0)), vI 0, vU] [] (up σ S) Q := by
  refine sX11_takesE_17 ⟨by omega, sp_X11_next hM hP ⟨fun _ => ⟨fun c => absurd c h38, fun _ => ⟨fun c => absurd c h124, fun _ => ⟨by omega, ?_⟩⟩⟩, fun c => absurd rfl c⟩⟩
  refine sp_X11_settle hM hS hb (fun S1 k1 k2 => ?_)
  rw [e] at k2
  have k2' : PS S1 W1 (v :: V1) := k2
  have t1 : TE S S1 := SA.sub k1 (tl_sub (by decide)) (tl_sub (by decide))
  have hP1 : PT S1 b n a ch := hP.sa k1 rfl (by decide)
  have hl : W1.length ≤ 140 := k2'.2.2.2.1
  have e46 : hi (up σ S1) 12 0 46 = nI W1.length := k2'.1
  dsimp only [kU]
  rw [e46]
  refine ⟨fun c => ?_, fun c => ?_⟩
  · have : W1.length = 0 := nI_inj (b := 0) (by omega) (by omega) c
    exact h0 (List.eq_nil_of_length_eq_zero this) S1 t1 hP1 k2'
  · have hne : ¬ W1 = [] := fun z => c (by rw [z]; rfl)
    refine ⟨fun c2 => ?_, fun c2 => ⟨Or.inl rfl, h2 hne c2 S1 t1 hP1⟩⟩
    intro g1 e1
    have hpos : 1 ≤ W1.length := by
      cases W1 with
      | nil => exact absurd rfl hne
      | cons w W => exact Nat.succ_le_succ (Nat.zero_le _)
    have e2 : nI W1.length - 1 = nI (W1.length - 1) := by
      have : W1.length = (W1.length - 1) + 1 := by omega
      rw [this, nI_pred]
      rfl
    rw [e2, wI_up _ _ rfl] at e1
    rw [e1]
    exact h1 hne c2 S1 t1 hP1 k2'
theorem mE_close {d rc rs b n a : Nat} {ch : Nat → Int32} {σ : XH} {S : SS} {W : List Int32} {V : List Bool} {v : Bool} {Q : XV → XH → Prop} (hd : 1 ≤ d) (hM : MI σ) (hP : PT S b n a ch) (hS : PS S (40 :: W) (v :: V)) (ha : a < n)
    (h : ∀ S', TE S S' → PT S' b n (a + 1) ch → PS S' (psh W v).1 ((psh W v).2 :: V) → Ex d rc rs m_X11_takesE 17 [vR (some (12, 0)), vI 0, vU] [] (up σ S') Q) : Ex d rc rs m_X11_takesE 191 [vR (some (12, 0)), vI 0, vU] [] (up σ (up2 S 12 46 (nI W.length))) Q := by
  obtain ⟨h1, h2, h3, h4, h5, h6, h7⟩ := id hS
  have h4' : W.length + 1 ≤ 140 := h4
  have h5' : V.length + 1 ≤ 140 := h5
  have h2' : S 12 47 = nI (V.length + 1) := h2
  have hcn := cnt_le W
  have h3' : S 12 48 = nI (cnt W + 1) := by
    rw [h3]
    show nI (cnt W + (if (40 : Int32) = 33 ∨ (40 : Int32) = 40 then 1 else 0)) = _
    rw [if_pos (Or.inr rfl)]
  refine sX11_takesE_191 ?_
  intro g1 e1 g2 e2 g3 e3
  rw [hi_up _ _ rfl, up2_k _ _ _ (show 48 ≠ 46 by decide), h3', nI_pred, wI_up _ _ rfl] at e1
  rw [e1, hi_up _ _ rfl, up2_k _ _ _ (show 47 ≠ 48 by decide), up2_k _ _ _ (show 47 ≠ 46 by decide), h2', nI_pred, wI_up _ _ rfl] at e2
  rw [e2, hi_up _ _ rfl, up2_k _ _ _ (show 42 ≠ 47 by decide), up2_k _ _ _ (show 42 ≠ 48 by decide), up2_k _ _ _ (show 42 ≠ 46 by decide), hP.2.2.1, nI_1, wI_up _ _ rfl] at e3
  have p1 : PS (up2 (up2 S 12 46 (nI W.length)) 12 48 (nI (cnt W))) W (v :: V) := hS.drop rfl
  have p2 := p1.pop.adv (a + 1)
  have sa : SA (tl [140, 300]) (tl [42, 43, 46, 47, 48]) S (up2 (up2 (up2 S 12 46 (nI W.length)) 12 48 (nI (cnt W))) 12 47 (nI V.length)) := (((SA.rf _ _ S).wk _ _ rfl).wk _ _ rfl).wk _ _ rfl
  have sa2 : SA (tl []) (tl [46, 47, 48]) S (up2 (up2 (up2 S 12 46 (nI W.length)) 12 48 (nI (cnt W))) 12 47 (nI V.length)) := (((SA.rf _ _ S).wk _ _ rfl).wk _ _ rfl).wk _ _ rfl
  have q1 := (hP.sa sa2 rfl (by decide)).adv (a' := a + 1) (by omega)
  have te : TE S (adv (up2 (up2 (up2 S 12 46 (nI W.length)) 12 48 (nI (cnt W))) 12 47 (nI V.length)) (a + 1)) := sa.wk 42 _ rfl
  have hval : (adv (up2 (up2 (up2 S 12 46 (nI W.length)) 12 48 (nI (cnt W))) 12 47 (nI V.length)) (a + 1)) 300 V.length = bI v := by
    unfold adv
    rw [up2_s _ _ _ (show 300 ≠ 12 by decide), up2_s _ _ _ (show 300 ≠ 12 by decide), up2_s _ _ _ (show 300 ≠ 12 by decide), up2_s _ _ _ (show 300 ≠ 12 by decide)]
    exact h7.1
  have e3' : g3 = up σ (adv (up2 (up2 (up2 S 12 46 (nI W.length)) 12 48 (nI (cnt W))) 12 47 (nI V.length)) (a + 1)) := e3
  rw [e3']
  generalize adv (up2 (up2 (up2 S 12 46 (nI W.length)) 12 48 (nI (cnt W))) 12 47 (nI V.length)) (a + 1) = T at *
  have e47 : hi (up σ T) 12 0 47 = nI V.length := p2.2.1
  have eb : hi (up σ T) 300 0 V.length = bI v := hval
  rw [e47, nI_clamp (by omega), eb]
  refine ⟨hM.r300, vp_at hM.n300 (vp_in_nI (by omega) (by omega)), by omega, ?_⟩
  refine sp_X11_push hM p2 (by omega) (fun S' k1 k2 => ?_)
  exact h S' (te.trans (SA.sub k1 (tl_sub (by decide)) (tl_sub (by decide)))) (q1.sa k1 rfl (by decide)) k2
