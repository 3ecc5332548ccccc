/-! ===== what holds stays: stations, clocks, tapes, acts, the text ===== -/
theorem Inv.tpx {S S' : SS} (h : Inv S) (e : ∀ s, s ≠ 151 → s ≠ 152 → s ≠ 153 → s ≠ 154 → S' s = S s) (hT : TpI S') : Inv S' := by
  obtain ⟨hI, _, hO, hS, hB, hP, hA⟩ := h
  have sa : SA (tl [151, 152, 153, 154]) (tl []) S S' := ⟨fun s _ h2 => by
    have := tl_ni h2
    exact e s (fun y => this (by rw [y]; decide)) (fun y => this (by rw [y]; decide)) (fun y => this (by rw [y]; decide)) (fun y => this (by rw [y]; decide)), fun k _ => by rw [e 12 (by decide) (by decide) (by decide) (by decide)]⟩
  exact ⟨hI.sa sa (by decide) (by decide), hT, hO.sa sa (by decide) (by decide), hS.sa sa (by decide) rfl, hB.sa sa rfl, hP.sa sa (by decide) rfl, hA.sa sa rfl⟩
theorem TpI.cg {S S' : SS} (h : TpI S) (e1 : S' 151 = S 151) (e2 : S' 152 = S 152) : TpI S' := by
  unfold TpI
  rw [e1, e2]
  exact h
theorem Inv.w153 {S : SS} (h : Inv S) (k : Nat) (x : Int32) : Inv (up2 S 153 k x) := h.tpx (fun s _ _ h3 _ => up2_s S k x h3) (h.2.1.cg (up2_s S k x (show 151 ≠ 153 by decide)) (up2_s S k x (show 152 ≠ 153 by decide)))
theorem Inv.item {S : SS} (h : Inv S) (t i v : Int32) : Inv (itemF S t i v).2 := by
  unfold itemF
  repeat' split
  all_goals first
    | exact h
    | exact h.w153 _ _
theorem Inv.blank {S : SS} (h : Inv S) (t i : Int32) : Inv (blankF S t i).2 := by
  unfold blankF
  repeat' split
  all_goals first
    | exact h
    | exact h.w153 _ _
theorem sh_s {S : SS} {a b m : Nat} {s : Nat} (h3 : s ≠ 153) (h4 : s ≠ 154) : sh2 S a b m (sh1 S a m) s = S s := funext fun k => by
  unfold sh2 sh1
  rw [if_neg (fun y => h3 y.1), if_neg (fun y => h4 y.1)]
theorem Inv.shs {S : SS} (h : Inv S) (a b m : Nat) : Inv (sh2 S a b m (sh1 S a m)) := h.tpx (fun s _ _ h3 h4 => sh_s h3 h4) (h.2.1.cg (sh_s (S := S) (a := a) (b := b) (m := m) (s := 151) (by decide) (by decide)) (sh_s (S := S) (a := a) (b := b) (m := m) (s := 152) (by decide) (by decide)))
theorem Inv.shift {S : SS} (h : Inv S) (t i q j n : Int32) : Inv (shiftF S t i q j n).2 := by
  unfold shiftF
  split
  · split
    · exact h
    · split
      · split
        · exact h
        · exact h.shs _ _ _
      · exact h
  · exact h
theorem Inv.tape {S : SS} (h : Inv S) (t of_ n : Int32) : Inv (tapeF S t of_ n).2 := by
  unfold tapeF
  split
  · rename_i c1
    split
    · rename_i c2
      split
      · exact h
      · rename_i c3
        refine h.tpx (fun s h1 h2 h3 _ => ?_) (fun p hp => ?_)
        · dsimp only
          rw [zT_s h3, up2_s _ _ _ h2, up2_s _ _ _ h1]
        · dsimp only
          rw [zT_s (by decide), zT_s (by decide), up2_s _ _ _ (show 151 ≠ 152 by decide), up2_at, up2_at, up2_s _ _ _ (show 152 ≠ 151 by decide)]
          have v : vp_in t 6 := inP_c c1 (by decide) (by decide)
          by_cases e : p = t.toNatClampNeg
          · rw [if_pos e, if_pos e]
            refine ⟨c2.1, ?_, fun y => if_pos y⟩
            split
            · decide
            · rename_i c4
              rw [inP_iff]
              exact ⟨fun y => c3 ⟨c4, y⟩, fun y => c2.2 ⟨c4, y⟩⟩
          · rw [if_neg e, if_neg e]
            exact h.2.1 p hp
    · exact h
  · exact h
theorem SA.bS (S : SS) (b : Int32) : SA (tl [150]) (tl [63]) S (bS S b) := by
  unfold CSpotTimersLaw_law_r3327_87c8ce.bS
  split
  · exact ((SA.rf _ _ S).wa _ _ (by decide) rfl).wk _ _ rfl
  · exact (SA.rf _ _ S).wk _ _ rfl
theorem SA.pL : ∀ (l : List Int32) (S : SS), SA (tl [150]) (tl [63]) S (pL S l)
  | [], S => SA.rf _ _ S
  | b :: l, S => (SA.bS S b).trans (SA.pL l (CSpotTimersLaw_law_r3327_87c8ce.bS S b))
theorem Inv.acx {S S' : SS} (h : Inv S) (sa : SA (tl [150]) (tl [63]) S S') (hA : AcI S') : Inv S' := by
  obtain ⟨hI, hT, hO, hS, hB, hP, _⟩ := h
  exact ⟨hI.sa sa (by decide) (by decide), hT.sa sa rfl rfl, hO.sa sa (by decide) (by decide), hS.sa sa (by decide) rfl, hB.sa sa rfl, hP.sa sa (by decide) rfl, hA⟩
theorem Inv.act {S : SS} (h : Inv S) (r a x : Int32) : Inv (actF S r a x).2 := by
  have z : AOK (up2 S 12 63 0) 0 := ⟨0, by rw [up2_eq]; rfl, Nat.le_refl _⟩
  have s0 : SA (tl [150]) (tl [63]) S (up2 S 12 63 0) := (SA.rf _ _ S).wk _ _ rfl
  unfold actF
  split
  · refine h.acx (s0.trans (SA.pL _ _)) ?_
    have := z.pL (l := (acA r (gS S 122 r) (kNow S r) a x).2)
    exact this.le (by have := acA_l r (gS S 122 r) (kNow S r) a x; omega)
  · exact h.acx s0 (z.le (by omega))
theorem feedS_26 {b : Int32} : ∀ (k : Nat) (S : SS), S 12 26 = nI (nFd S) → nFd S + k ≤ 140 → (feedS b k S) 12 26 = nI (nFd S + k)
  | 0, S, h26, _ => h26
  | k + 1, S, h26, h140 => by
    have st := feed_step (k := k) h26 h140 b
    have := feedS_26 (b := b) k (up2 (up2 S 136 (1680 + nFd S) (byteO b k)) 12 26 (S 12 26 + 1)) (by rw [st.1, st.2]) (by rw [st.2]; omega)
    rw [st.2] at this
    rw [show nFd S + (k + 1) = nFd S + 1 + k by omega]
    exact this
theorem Inv.feed {S : SS} (h : Inv S) (b n : Int32) : Inv (feedF S b n).2 := by
  unfold feedF
  split
  · exact h
  · rename_i c1
    split
    · exact h
    · rename_i c2
      obtain ⟨hI, hT, hO, hS, hB, hP, hA⟩ := h
      dsimp only
      obtain ⟨e, h4, h140⟩ := feed_args hI (Classical.not_not.mp c1) c2
      have sa := SA.feed b n.toNatClampNeg S
      have s26 := feedS_26 (b := b) n.toNatClampNeg S hI.n26 h140
      generalize feedS b n.toNatClampNeg S = S' at *
      refine ⟨hI.wr (j0 := 26) (fun s hs => sa.a (by revert s; decide) (by revert s; decide)) (by decide) (fun j hj h0 => sa.k (by revert j; decide)) (fun y => absurd y (by decide)) (fun y => absurd y (by decide)) (fun y => absurd y (by decide)) (fun _ => n_inc s26 h140 (by omega)) (fun y => absurd y (by decide)) (fun y => absurd y (by decide)), hT.sa sa rfl rfl, hO.sa sa (by decide) (by decide), hS.sa sa (by decide) rfl, hB.sa sa rfl, hP.sa sa (by decide) rfl, hA.sa sa rfl⟩
theorem Inv.station {S : SS} (h : Inv S) (l t : Int32) : Inv (stationF S l t).2 := by
  unfold stationF
  split
  · rename_i c1
    split
    · exact h
    · rename_i c2
      obtain ⟨hI, hT, hO, hS, hB, hP, hA⟩ := h
      dsimp only
      have l11 := hI.l1
      have hlt : nSt S < 11 := by
        have : ¬ nSt S = 11 := fun y => c2 (by rw [hI.n1, y]; decide)
        omega
      have ep : (S 12 1).toNatClampNeg = nSt S := rfl
      rw [ep]
      have sa : SA (tl [116, 117]) (tl [1]) S (up2 (up2 (up2 S 116 (nSt S) l) 117 (nSt S) t) 12 1 (S 12 1 + 1)) := (((SA.rf _ _ S).wa _ _ (by decide) rfl).wa _ _ (by decide) rfl).wk _ _ rfl
      have s1 : (up2 (up2 (up2 S 116 (nSt S) l) 117 (nSt S) t) 12 1 (S 12 1 + 1)) 12 1 = nI (nSt S + 1) := by rw [up2_eq, hI.n1, nI_1]
      have s116 : ∀ p, (up2 (up2 (up2 S 116 (nSt S) l) 117 (nSt S) t) 12 1 (S 12 1 + 1)) 116 p = if p = nSt S then l else S 116 p := fun p => by rw [up2_s _ _ _ (show 116 ≠ 12 by decide), up2_s _ _ _ (show 116 ≠ 117 by decide), up2_at]
      have s117 : ∀ p, (up2 (up2 (up2 S 116 (nSt S) l) 117 (nSt S) t) 12 1 (S 12 1 + 1)) 117 p = if p = nSt S then t else S 117 p := fun p => by rw [up2_s _ _ _ (show 117 ≠ 12 by decide), up2_at, up2_s _ _ _ (show 117 ≠ 116 by decide)]
      generalize (up2 (up2 (up2 S 116 (nSt S) l) 117 (nSt S) t) 12 1 (S 12 1 + 1)) = S' at *
      have en : nSt S' = nSt S + 1 := by
        show (S' 12 1).toNatClampNeg = _
        rw [s1, nI_clamp (by omega)]
      refine ⟨hI.wr (j0 := 1) (fun s hs => sa.a (by revert s; decide) (by revert s; decide)) (by decide) (fun j hj h0 => sa.k (by revert j; decide)) (fun _ => ⟨by rw [s1, en], by omega, by omega⟩) (fun y => absurd y (by decide)) (fun y => absurd y (by decide)) (fun y => absurd y (by decide)) (fun y => absurd y (by decide)) (fun y => absurd y (by decide)), hT.sa sa rfl rfl, hO.sa sa (by decide) (by decide), ?_, hB.sa sa rfl, hP.sa sa (by decide) rfl, hA.sa sa rfl⟩
      obtain ⟨h1, h2, h3⟩ := hS
      unfold StI
      rw [en, sa.a (s := 146) (by decide) rfl]
      refine ⟨fun p hp => ?_, fun j j1 j2 => h2 j (by omega) j2, h3⟩
      rw [s116, s117]
      by_cases e : p = nSt S
      · rw [if_pos e, if_pos e]
        exact ⟨c1.1.symm, c1.2⟩
      · rw [if_neg e, if_neg e]
        exact h1 p (by omega)
  · exact h
theorem SInv.cl {S S' : SS} (hI : SInv S) (a : ∀ s, s ∈ [120, 121, 122, 123, 124, 125, 127, 129] → S' s = S s) (k : ∀ j, j ∈ [0, 1, 8, 20, 25, 26, 59] → S' 12 j = S 12 j) (h2 : S' 12 2 = nI (nCl S') ∧ nCl S' ≤ 12) (h2m : nCl S ≤ nCl S') (hc : ∀ c, c < nCl S' → vp_in (S' 118 c) (nSt S) ∧ inP (S' 119 c) (-1) 999999) : SInv S' := by
  have e1 : nSt S' = nSt S := by simp only [nSt, k 1 (by decide)]
  refine hI.of (n_same (k 1 (by decide)) hI.1) h2 (k 8 (by decide)) (n_same (k 20 (by decide)) hI.2.2.2.1) (n_same (k 25 (by decide)) hI.2.2.2.2.1) (n_same (k 26 (by decide)) hI.2.2.2.2.2.1) (n_same (k 59 (by decide)) hI.2.2.2.2.2.2.1) (by rw [k 0 (by decide)]; exact hI.2.2.2.2.2.2.2.1) (fun c hlc => by rw [e1]; exact hc c hlc) (fun r hlr => (hI.rn hlr).mono a h2m)
theorem Inv.clock {S : SS} (h : Inv S) (x : Int32) : Inv (clockF S x).2 := by
  unfold clockF
  split
  · rename_i c1
    split
    · exact h
    · rename_i c2
      obtain ⟨hI, hT, hO, hS, hB, hP, hA⟩ := h
      dsimp only
      have l12 := hI.l2
      have hlt : nCl S < 12 := by
        have : ¬ nCl S = 12 := fun y => c2 (by rw [hI.n2, y]; decide)
        omega
      have ep : (S 12 2).toNatClampNeg = nCl S := rfl
      rw [ep]
      have sa : SA (tl [118, 119]) (tl [2]) S (up2 (up2 (up2 S 118 (nCl S) x) 119 (nCl S) (-1)) 12 2 (S 12 2 + 1)) := (((SA.rf _ _ S).wa _ _ (by decide) rfl).wa _ _ (by decide) rfl).wk _ _ rfl
      have s1 : (up2 (up2 (up2 S 118 (nCl S) x) 119 (nCl S) (-1)) 12 2 (S 12 2 + 1)) 12 2 = nI (nCl S + 1) := by rw [up2_eq, hI.n2, nI_1]
      have s118 : ∀ p, (up2 (up2 (up2 S 118 (nCl S) x) 119 (nCl S) (-1)) 12 2 (S 12 2 + 1)) 118 p = if p = nCl S then x else S 118 p := fun p => by rw [up2_s _ _ _ (show 118 ≠ 12 by decide), up2_s _ _ _ (show 118 ≠ 119 by decide), up2_at]
      have s119 : ∀ p, (up2 (up2 (up2 S 118 (nCl S) x) 119 (nCl S) (-1)) 12 2 (S 12 2 + 1)) 119 p = if p = nCl S then -1 else S 119 p := fun p => by rw [up2_s _ _ _ (show 119 ≠ 12 by decide), up2_at, up2_s _ _ _ (show 119 ≠ 118 by decide)]
      generalize (up2 (up2 (up2 S 118 (nCl S) x) 119 (nCl S) (-1)) 12 2 (S 12 2 + 1)) = S' at *
      have en : nCl S' = nCl S + 1 := by
        show (S' 12 2).toNatClampNeg = _
        rw [s1, nI_clamp (by omega)]
      refine ⟨hI.cl (fun s hs => sa.a (by revert s; decide) (by revert s; decide)) (fun j hj => sa.k (by revert j; decide)) ⟨by rw [s1, en], by omega⟩ (by omega) (fun c hlc => ?_), hT.sa sa rfl rfl, hO.sa sa (by decide) (by decide), hS.sa sa (by decide) rfl, hB.sa sa rfl, hP.sa sa (by decide) rfl, hA.sa sa rfl⟩
      rw [en] at hlc
      rw [s118, s119]
      by_cases e : c = nCl S
      · rw [if_pos e, if_pos e]
        exact ⟨hI.isSt c1, by decide⟩
      · rw [if_neg e, if_neg e]
        exact hI.c (by omega)
  · exact h
theorem inP_up {x : Int32} (h : inP x 0 999999) : inP x (-1) 999999 := by
  rw [inP_iff] at *
  refine ⟨fun y => h.1 ?_, h.2⟩
  have e0 : (0 : Int32).toInt = 0 := by decide
  have e1 : (-1 : Int32).toInt = -1 := by decide
  rw [fa_lt, e1] at y
  rw [fa_lt, e0]
  omega
theorem Inv.stop {S : SS} (h : Inv S) (c t : Int32) : Inv (stopF S c t).2 := by
  unfold stopF
  split
  · split
    · rename_i c2
      split
      · obtain ⟨hI, hT, hO, hS, hB, hP, hA⟩ := h
        dsimp only
        have sa : SA (tl [119]) (tl []) S (up2 S 119 c.toNatClampNeg t) := (SA.rf _ _ S).wa _ _ (by decide) rfl
        have en : nCl (up2 S 119 c.toNatClampNeg t) = nCl S := by simp only [nCl, sa.k (j := 2) rfl]
        refine ⟨hI.cl (fun s hs => sa.a (by revert s; decide) (by revert s; decide)) (fun j hj => sa.k rfl) (n_same (sa.k rfl) hI.2.1) (by rw [en]; exact Nat.le_refl _) (fun c' hlc => ?_), hT.sa sa rfl rfl, hO.sa sa (by decide) (by decide), hS.sa sa (by decide) rfl, hB.sa sa rfl, hP.sa sa (by decide) rfl, hA.sa sa rfl⟩
        rw [en] at hlc
        rw [sa.a (s := 118) (by decide) rfl, up2_at]
        refine ⟨(hI.c hlc).1, ?_⟩
        split
        · exact inP_up c2
        · exact (hI.c hlc).2
      · exact h
    · exact h
  · exact h
