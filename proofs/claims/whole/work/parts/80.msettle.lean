/-! ===== the reference settles what waits ===== -/
/-- how many signs between two wait -/
def bin : List Int32 → Nat
  | [] => 0
  | w :: W => bin W + (if w = 38 ∨ w = 124 then 1 else 0)
def stl (s : Int32) : List Int32 → List Bool → List Int32 × List Bool
  | w :: W, b :: a :: V => if w = 38 ∨ (w = 124 ∧ ¬ s = 38) then stl s W ((if w = 38 then a && b else a || b) :: V) else (w :: W, b :: a :: V)
  | W, V => (W, V)
/-- the top sign goes, and of two values comes one -/
theorem PS.red {S : SS} {w : Int32} {W : List Int32} {a b : Bool} {V : List Bool} (h : PS S (w :: W) (b :: a :: V)) (hw : cnt (w :: W) = cnt W) (c : Bool) : PS (up2 (up2 (up2 S 12 46 (nI W.length)) 12 47 (nI (V.length + 1))) 300 V.length (bI c)) W (c :: V) := by
  obtain ⟨h1, h2, h3, h4, h5, h6, h7⟩ := h
  have h4' : W.length + 1 ≤ 140 := h4
  have h5' : V.length + 1 + 1 ≤ 140 := h5
  refine ⟨?_, ?_, ?_, by omega, by show V.length + 1 ≤ 140; omega, ?_, ?_, ?_⟩
  · rw [up2_s _ _ _ (show 12 ≠ 300 by decide), up2_k _ _ _ (by decide), up2_eq]
  · rw [up2_s _ _ _ (show 12 ≠ 300 by decide), up2_eq]
    rfl
  · rw [up2_s _ _ _ (show 12 ≠ 300 by decide), up2_k _ _ _ (by decide), up2_k _ _ _ (by decide), h3, hw]
  · refine layW_cg W (fun k _ => ?_) h6.2
    rw [up2_s _ _ _ (show 140 ≠ 300 by decide), up2_s _ _ _ (show 140 ≠ 12 by decide), up2_s _ _ _ (show 140 ≠ 12 by decide)]
  · rw [up2_eq]
  · refine layV_cg V (fun k hk => ?_) h7.2.2
    rw [up2_at, if_neg (by omega), up2_s _ _ _ (show 300 ≠ 12 by decide), up2_s _ _ _ (show 300 ≠ 12 by decide)]
theorem lp_settle {d rc rs : Nat} {s : Int32} {σ : XH} {Q : XV → XH → Prop} (hM : MI σ) : ∀ (W : List Int32) (V : List Bool) (S : SS), PS S W V → bin W < V.length → (∀ S', SA (tl [300]) (tl [46, 47]) S S' → PS S' (stl s W V).1 (stl s W V).2 → Q vU (up σ S')) → Ex d rc rs m_X11_settle 0 [vR (some (12, 0)), vI s] [] (up σ S) Q := by
  intro W
  induction W with
  | nil =>
    intro V S hP hb hQ
    have e : stl s [] V = ([], V) := by unfold stl; rfl
    rw [e] at hQ
    refine sX11_settle_0 ⟨fun c => ?_, fun _ => sX11_settle_158 (hQ S (SA.rf _ _ S) hP)⟩
    rw [hi_up _ _ rfl, hP.1] at c
    exact absurd c (by decide)
  | cons w W ih =>
    intro V S hP hb hQ
    obtain ⟨h1, h2, h3, h4, h5, h6, h7⟩ := id hP
    have h4' : W.length + 1 ≤ 140 := h4
    have h1' : S 12 46 = nI (W.length + 1) := h1
    have vw : vp_in (S 12 46 - 1) 141 := by
      rw [h1', nI_pred]
      exact vp_in_nI (by omega) (by omega)
    have ew : hi (up σ S) 140 0 (S 12 46 - 1).toNatClampNeg = w := by
      rw [h1', nI_pred, nI_clamp (by omega), hi_up _ _ rfl]
      exact h6.1
    have ebin : bin (w :: W) = bin W + (if w = 38 ∨ w = 124 then 1 else 0) := rfl
    have hb0 : 1 ≤ V.length := by omega
    have f158 : ¬ (w = 38 ∨ (w = 124 ∧ ¬ s = 38)) → Ex d rc rs m_X11_settle 158 [vU, vU] [] (up σ S) Q := fun y => by
      refine sX11_settle_158 (hQ S (SA.rf _ _ S) ?_)
      have e : stl s (w :: W) V = (w :: W, V) := by
        match V with
        | [] => rfl
        | [x] => rfl
        | x :: z :: V' => exact if_neg y
      rw [e]
      exact hP
    have f45 : (w = 38 ∨ (w = 124 ∧ ¬ s = 38)) → Ex d rc rs m_X11_settle 45 [vR (some (12, 0)), vI s] [] (up σ S) Q := fun y => by
      have yb : w = 38 ∨ w = 124 := y.elim Or.inl (fun q => Or.inr q.1)
      rw [ebin, if_pos yb] at hb
      match V, hb, hb0, hP, h2, h5, h7, hQ with
      | [], hb, _, _, _, _, _, _ => exact absurd hb (by simp)
      | [x], hb, _, _, _, _, _, _ => exact absurd hb (by simp)
      | b :: a :: V, hb, _, hP, h2, h5, h7, hQ =>
        have hbl : bin W + 1 < V.length + 1 + 1 := hb
        have h5' : V.length + 1 + 1 ≤ 140 := h5
        have h2' : S 12 47 = nI (V.length + 1 + 1) := h2
        have hw : cnt (w :: W) = cnt W := by
          show cnt W + (if w = 33 ∨ w = 40 then 1 else 0) = cnt W
          rw [if_neg (fun q => by
            rcases q with q | q
            · rw [q] at yb
              exact absurd yb (by decide)
            · rw [q] at yb
              exact absurd yb (by decide))]
          rfl
        have est : stl s (w :: W) (b :: a :: V) = stl s W ((if w = 38 then a && b else a || b) :: V) := if_pos y
        rw [est] at hQ
        have fin : ∀ c : Bool, c = (if w = 38 then a && b else a || b) → Ex d rc rs m_X11_settle 154 [vR (some (12, 0)), vI s] [vI (bI c), vI (nI V.length), vR (some (300, 0))] (up σ (up2 (up2 S 12 46 (nI W.length)) 12 47 (nI (V.length + 1)))) Q := fun c ec => by
          refine sX11_settle_154 ⟨vp_at hM.n300 (vp_in_nI (by omega) (by omega)), ?_⟩
          intro g e
          rw [nI_clamp (by omega), boolN, wI_up _ _ rfl] at e
          rw [e]
          refine ih (c :: V) _ (hP.red hw c) (by show bin W < V.length + 1; omega) (fun S' k1 k2 => hQ S' ?_ (by rw [← ec]; exact k2))
          exact ((((SA.rf (tl [300]) (tl [46, 47]) S).wk 46 (nI W.length) rfl).wk 47 (nI (V.length + 1)) rfl).wa V.length (bI c) (by decide) rfl).trans k1
        refine sX11_settle_45 ?_
        intro g1 e1 g2 e2
        rw [hi_up _ _ rfl, h1', nI_pred, wI_up _ _ rfl] at e1
        rw [e1, hi_up _ _ rfl, up2_k _ _ _ (show 47 ≠ 46 by decide), h2', nI_pred, wI_up _ _ rfl] at e2
        have eW : (up2 (up2 S 12 46 (nI W.length)) 12 47 (nI (V.length + 1))) 12 46 = nI W.length := by rw [up2_k _ _ _ (by decide), up2_eq]
        have eV : (up2 (up2 S 12 46 (nI W.length)) 12 47 (nI (V.length + 1))) 12 47 = nI (V.length + 1) := up2_eq _ _ _ _
        have x140 : (up2 (up2 S 12 46 (nI W.length)) 12 47 (nI (V.length + 1))) 140 W.length = w := by
          rw [up2_s _ _ _ (show 140 ≠ 12 by decide), up2_s _ _ _ (show 140 ≠ 12 by decide)]
          exact h6.1
        have xa : (up2 (up2 S 12 46 (nI W.length)) 12 47 (nI (V.length + 1))) 300 V.length = bI a := by
          rw [up2_s _ _ _ (show 300 ≠ 12 by decide), up2_s _ _ _ (show 300 ≠ 12 by decide)]
          exact h7.2.1
        have xb : (up2 (up2 S 12 46 (nI W.length)) 12 47 (nI (V.length + 1))) 300 (V.length + 1) = bI b := by
          rw [up2_s _ _ _ (show 300 ≠ 12 by decide), up2_s _ _ _ (show 300 ≠ 12 by decide)]
          exact h7.1
        rw [e2]
        generalize up2 (up2 S 12 46 (nI W.length)) 12 47 (nI (V.length + 1)) = T at *
        have q46 : hi (up σ T) 12 0 46 = nI W.length := eW
        have q47 : hi (up σ T) 12 0 47 = nI (V.length + 1) := eV
        rw [q46, q47, nI_pred, nI_clamp (by omega), nI_clamp (by omega), nI_clamp (by omega), hi_up σ T (show rsb 140 = true from rfl), hi_up σ T (show rsb 300 = true from rfl), hi_up σ T (show rsb 300 = true from rfl), x140, xa, xb]
        have v1 : vp_in (nI V.length) (hn (up σ T) 300 0) := vp_at hM.n300 (vp_in_nI (by omega) (by omega))
        have v2 : vp_in (nI (V.length + 1)) (hn (up σ T) 300 0) := vp_at hM.n300 (vp_in_nI (by omega) (by omega))
        have b0 : ∀ {x : Bool}, bI x = 0 → x = false := fun {x} y => by
          cases x
          · rfl
          · exact absurd y (by decide)
        have b1 : ∀ {x : Bool}, ¬ bI x = 0 → x = true := fun {x} y => by
          cases x
          · exact absurd rfl y
          · rfl
        refine ⟨hM.r300, hM.r140, vp_at hM.n140 (vp_in_nI (by omega) (by omega)), fun cw => ⟨hM.r300, v1, fun c0 => ?_, fun c0 => ⟨hM.r300, v2, fun c2 => ?_, fun c2 => ?_⟩⟩, fun cw => ⟨hM.r300, v1, fun c0 => ⟨hM.r300, v2, fun c2 => ?_, fun c2 => ?_⟩, fun c0 => ?_⟩⟩
        · exact sX11_settle_119 (fin false (by rw [if_pos cw, b0 c0]; rfl))
        · exact sX11_settle_119 (fin false (by rw [if_pos cw, b0 c2, Bool.and_false]))
        · exact fin true (by rw [if_pos cw, b1 c0, b1 c2]; rfl)
        · exact fin false (by rw [if_neg cw, b0 c0, b0 c2]; rfl)
        · exact sX11_settle_149 (fin true (by rw [if_neg cw, b1 c2, Bool.or_true]))
        · exact sX11_settle_149 (fin true (by rw [if_neg cw, b1 c0, Bool.true_or]))
    refine sX11_settle_0 ⟨fun _ => ⟨hM.r140, vp_at hM.n140 vw, fun c => ?_, fun c => ⟨hM.r140, vp_at hM.n140 vw, fun c2 => ⟨fun c3 => ?_, fun c3 => ?_⟩, fun c2 => ?_⟩⟩, fun c => ?_⟩
    · exact f45 (Or.inl (ew.symm.trans c))
    · exact f158 (fun q => q.elim (fun q => c (ew.trans q)) (fun q => q.2 c3))
    · exact f45 (Or.inr ⟨ew.symm.trans c2, c3⟩)
    · exact f158 (fun q => q.elim (fun q => c (ew.trans q)) (fun q => c2 (ew.trans q.1)))
    · exfalso
      apply c
      rw [hi_up _ _ rfl, h1']
      exact pos_nI (by omega) (by omega)
theorem sp_X11_settle {d : Nat} {s : Int32} {W : List Int32} {V : List Bool} {S : SS} {σ : XH} {Q : XV → XH → Prop} (hM : MI σ) (hP : PS S W V) (hb : bin W < V.length) (hQ : ∀ S', SA (tl [300]) (tl [46, 47]) S S' → PS S' (stl s W V).1 (stl s W V).2 → Q vU (up σ S')) : Ec d 0 0 m_X11_settle [vR (some (12, 0)), vI s] (up σ S) Q :=
  Ec_of mo_X11_settle.1 (Nat.le_of_ble_eq_true rfl) (lp_settle hM W V S hP hb hQ)
