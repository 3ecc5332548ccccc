/-! ===== the reference's two piles: signs that wait, values ===== -/
def bI (b : Bool) : Int32 := if b then 1 else 0
/-- how deep the waiting signs nest -/
def cnt : List Int32 → Nat
  | [] => 0
  | w :: W => cnt W + (if w = 33 ∨ w = 40 then 1 else 0)
def layW (S : SS) : List Int32 → Prop
  | [] => True
  | w :: W => S 140 W.length = w ∧ layW S W
def layV (S : SS) : List Bool → Prop
  | [] => True
  | v :: V => S 300 V.length = bI v ∧ layV S V
theorem layW_cg {S S' : SS} : ∀ (W : List Int32), (∀ k, k < W.length → S' 140 k = S 140 k) → layW S W → layW S' W
  | [], _, _ => trivial
  | w :: W, h, hW => ⟨by rw [h W.length (Nat.lt_succ_self _)]; exact hW.1, layW_cg W (fun k hk => h k (Nat.lt_succ_of_lt hk)) hW.2⟩
theorem layV_cg {S S' : SS} : ∀ (V : List Bool), (∀ k, k < V.length → S' 300 k = S 300 k) → layV S V → layV S' V
  | [], _, _ => trivial
  | v :: V, h, hV => ⟨by rw [h V.length (Nat.lt_succ_self _)]; exact hV.1, layV_cg V (fun k hk => h k (Nat.lt_succ_of_lt hk)) hV.2⟩
def PS (S : SS) (W : List Int32) (V : List Bool) : Prop := S 12 46 = nI W.length ∧ S 12 47 = nI V.length ∧ S 12 48 = nI (cnt W) ∧ W.length ≤ 140 ∧ V.length ≤ 140 ∧ layW S W ∧ layV S V
theorem cnt_le : ∀ W : List Int32, cnt W ≤ W.length
  | [] => Nat.le_refl _
  | w :: W => by
    have := cnt_le W
    show cnt W + (if w = 33 ∨ w = 40 then 1 else 0) ≤ W.length + 1
    split <;> omega
/-- a value comes on its pile: each ! on top of the signs turns it -/
def psh : List Int32 → Bool → List Int32 × Bool
  | [], v => ([], v)
  | w :: W, v => if w = 33 then psh W (!v) else (w :: W, v)
theorem boolN (b : Bool) : vp_nar .boolean (bI b) = bI b := by
  cases b <;> rfl
/-- a value laid on the pile -/
theorem PS.val {S : SS} {W : List Int32} {V : List Bool} (h : PS S W V) (hV : V.length < 140) (b : Bool) : PS (up2 (up2 S 300 V.length (bI b)) 12 47 (nI (V.length + 1))) W (b :: V) := by
  obtain ⟨h1, h2, h3, h4, h5, h6, h7⟩ := h
  refine ⟨?_, ?_, ?_, h4, by show V.length + 1 ≤ 140; omega, ?_, ?_, ?_⟩
  · rw [up2_k _ _ _ (by decide), up2_s _ _ _ (by decide)]
    exact h1
  · rw [up2_eq]
    rfl
  · rw [up2_k _ _ _ (by decide), up2_s _ _ _ (by decide)]
    exact h3
  · refine layW_cg W (fun k _ => ?_) h6
    rw [up2_s _ _ _ (show 140 ≠ 12 by decide), up2_s _ _ _ (show 140 ≠ 300 by decide)]
  · rw [up2_s _ _ _ (show 300 ≠ 12 by decide), up2_eq]
  · refine layV_cg V (fun k hk => ?_) h7
    rw [up2_s _ _ _ (show 300 ≠ 12 by decide), up2_at, if_neg (by omega)]
/-- the top sign is dropped -/
theorem PS.drop {S : SS} {w : Int32} {W : List Int32} {V : List Bool} (h : PS S (w :: W) V) {x : Int32} (hx : x = nI (cnt W)) : PS (up2 (up2 S 12 46 (nI W.length)) 12 48 x) W V := by
  obtain ⟨h1, h2, h3, h4, h5, h6, h7⟩ := h
  have h4' : W.length + 1 ≤ 140 := h4
  refine ⟨?_, ?_, ?_, by omega, h5, ?_, ?_⟩
  · rw [up2_k _ _ _ (by decide), up2_eq]
  · rw [up2_k _ _ _ (by decide), up2_k _ _ _ (by decide)]
    exact h2
  · rw [up2_eq, hx]
  · refine layW_cg W (fun k _ => ?_) h6.2
    rw [up2_s _ _ _ (show 140 ≠ 12 by decide), up2_s _ _ _ (show 140 ≠ 12 by decide)]
  · refine layV_cg V (fun k _ => ?_) h7
    rw [up2_s _ _ _ (show 300 ≠ 12 by decide), up2_s _ _ _ (show 300 ≠ 12 by decide)]
theorem lp_push {d rc rs : Nat} {σ : XH} {Q : XV → XH → Prop} (hM : MI σ) : ∀ (W : List Int32) (V : List Bool) (b : Bool) (S : SS), PS S W V → V.length < 140 → (∀ S', SA (tl [300]) (tl [46, 47, 48]) S S' → PS S' (psh W b).1 ((psh W b).2 :: V) → Q vU (up σ S')) → Ex d rc rs m_X11_push 2 [vR (some (12, 0)), vU, vI (bI b)] [] (up σ S) Q := by
  intro W
  have f58 : ∀ (W : List Int32) (V : List Bool) (b : Bool) (S : SS), PS S W V → V.length < 140 → (∀ S', SA (tl [300]) (tl [46, 47, 48]) S S' → PS S' W (b :: V) → Q vU (up σ S')) → Ex d rc rs m_X11_push 58 [vR (some (12, 0)), vU, vI (bI b)] [] (up σ S) Q := fun W V b S hP hV hQ => by
    refine sX11_push_58 ⟨hM.r300, ?_, ?_⟩
    · rw [hi_up _ _ rfl, hP.2.1]
      exact vp_at hM.n300 (vp_in_nI (by omega) (by omega))
    · intro g1 e1 g2 e2
      rw [hi_up _ _ rfl, hP.2.1, nI_clamp (by omega), boolN, wI_up _ _ rfl] at e1
      rw [e1, hi_up _ _ rfl, up2_s _ _ _ (show 12 ≠ 300 by decide), hP.2.1, nI_1, wI_up _ _ rfl] at e2
      rw [e2]
      exact hQ _ (((SA.rf _ _ S).wa _ _ (by decide) rfl).wk _ _ rfl) (hP.val hV b)
  induction W with
  | nil =>
    intro V b S hP hV hQ
    refine sX11_push_2 ⟨fun c => ?_, fun _ => f58 [] V b S hP hV hQ⟩
    rw [hi_up _ _ rfl, hP.1] at c
    exact absurd c (by decide)
  | cons w W ih =>
    intro V b S hP hV hQ
    obtain ⟨h1, h2, h3, h4, h5, h6, h7⟩ := id hP
    have h4' : W.length + 1 ≤ 140 := h4
    have h1' : S 12 46 = nI (W.length + 1) := h1
    have hc := cnt_le W
    refine sX11_push_2 ⟨fun _ => ⟨hM.r140, ?_, ?_⟩, fun c => ?_⟩
    · rw [hi_up _ _ rfl, h1', nI_pred]
      exact vp_at hM.n140 (vp_in_nI (by omega) (by omega))
    · rw [hi_up _ _ (show rsb 12 = true from rfl), h1', nI_pred, nI_clamp (by omega), hi_up _ _ rfl, h6.1]
      refine ⟨fun cw => ?_, fun cw => ?_⟩
      · have ep : psh (w :: W) b = psh W (!b) := if_pos cw
        rw [ep] at hQ
        have ecnt : cnt (w :: W) = cnt W + 1 := by
          show cnt W + (if w = 33 ∨ w = 40 then 1 else 0) = cnt W + 1
          rw [if_pos (Or.inl cw)]
        have go : Ex d rc rs m_X11_push 34 [vR (some (12, 0)), vU, vU] [vI (bI (!b))] (up σ S) Q := by
          refine sX11_push_34 ?_
          intro g1 e1 g2 e2
          rw [hi_up _ _ rfl, h1', nI_pred, wI_up _ _ rfl] at e1
          rw [e1, hi_up _ _ rfl, up2_k _ _ _ (show 48 ≠ 46 by decide), h3, ecnt, nI_pred, wI_up _ _ rfl] at e2
          rw [e2]
          refine ih V (!b) _ (hP.drop rfl) hV (fun S' k1 k2 => hQ S' ?_ k2)
          exact (((SA.rf (tl [300]) (tl [46, 47, 48]) S).wk 46 (nI W.length) rfl).wk 48 (nI (cnt W)) rfl).trans k1
        refine ⟨fun c0 => ?_, fun c0 => ?_⟩
        · have eb : b = false := by
            cases b
            · rfl
            · exact absurd c0 (by decide)
          subst eb
          exact go
        · have eb : b = true := by
            cases b
            · exact absurd rfl c0
            · rfl
          subst eb
          exact go
      · have ep : psh (w :: W) b = (w :: W, b) := if_neg cw
        rw [ep] at hQ
        exact f58 (w :: W) V b S hP hV hQ
    · exfalso
      apply c
      rw [hi_up _ _ rfl, h1']
      exact pos_nI (by omega) (by omega)
theorem sp_X11_push {d : Nat} {W : List Int32} {V : List Bool} {b : Bool} {S : SS} {σ : XH} {Q : XV → XH → Prop} (hM : MI σ) (hP : PS S W V) (hV : V.length < 140) (hQ : ∀ S', SA (tl [300]) (tl [46, 47, 48]) S S' → PS S' (psh W b).1 ((psh W b).2 :: V) → Q vU (up σ S')) : Ec d 0 0 m_X11_push [vR (some (12, 0)), vI (bI b)] (up σ S) Q := by
  refine Ec_of mo_X11_push.1 (Nat.le_of_ble_eq_true rfl) ?_
  refine sX11_push_0 ?_
  unfold bX11_push_0
  exact lp_push hM W V b S hP hV hQ
