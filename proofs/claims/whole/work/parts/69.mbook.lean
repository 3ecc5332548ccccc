/-! ===== book: the logical step; the reference's half ===== -/
/-- the number of the edge of the k-th place -/
def numE (f : Int32) (k : Nat) : Int32 := (((f - 1) + nI k) - ((f - 1) + nI k) / 4 * 4) + 1
theorem numE_nat : ∀ f, f < 5 → 1 ≤ f → ∀ k, k < 40 → inP (numE (nI f) k) 1 4 := by decide +kernel
theorem numE_ok {f : Int32} (h : inP f 1 4) {k : Nat} (hk : k < 40) : inP (numE f k) 1 4 := by
  have v : vp_in f 5 := inP_c h (by decide) (by decide)
  rw [nI_of_nn (vp_nn v)] at h ⊢
  refine numE_nat _ (vp_lt v) ?_ k hk
  have l := vp_lt v
  generalize f.toNatClampNeg = m at *
  match m with
  | 0 => exact absurd h (by decide)
  | m + 1 => omega
/-- a time out of eighths -/
def shE (x : Int32) : Int32 := (dwn x.toInt64 8).toInt32
theorem shE_fd (x : Int32) : fdI x 8 = shE x := by
  have r := fb_rng x
  have e8 : (8 : Int32).toInt = 8 := by decide
  have e8L : (8 : Int64).toInt = 8 := by decide
  apply Int32.toInt_inj.mp
  unfold shE
  have d := dwn_floor (a := x.toInt64) (b := 8) (by decide)
  rw [e8L, Int32.toInt_toInt64] at d
  rw [fd_floor (by decide), e8, Int64.toInt_toInt32, d]
  have b1 : -2147483648 ≤ x.toInt / 8 := by omega
  have b2 : x.toInt / 8 < 2147483648 := by omega
  generalize x.toInt / 8 = y at *
  rw [Int.bmod_eq_of_le (by omega) (by omega)]
def bkS (c h f : Int32) (t : Nat) (i : Int32) (k : Nat) (S : SS) : SS :=
  if S 151 t < 0 then up2 S 12 19 1
  else if i < 0 ∨ ¬ i < S 152 t - nI k then up2 S 12 19 2
  else if S 153 (60 * t + i.toNatClampNeg + k) = 999999999 then S
  else if ¬ inP (shE (S 153 (60 * t + i.toNatClampNeg + k))) 0 999999 then up2 S 12 19 3
  else if S 12 8 = 90 then up2 S 12 19 4
  else (addF S 3 c h (shE (S 153 (60 * t + i.toNatClampNeg + k))) (numE f k) (numE f k) (-1)).2
def bkL (c h f : Int32) (t : Nat) (i : Int32) : Nat → Nat → SS → SS
  | 0, _, S => S
  | n + 1, k, S => if S 12 19 = 0 then bkL c h f t i n (k + 1) (bkS c h f t i k S) else S
def bookF (S : SS) (c h f t i n : Int32) : Int32 × SS :=
  if isCl S c ∧ inP h 0 5 ∧ inP t 0 5 then (if inP f 1 4 ∧ inP n 1 40 then (if ¬ gS S 151 t < 0 ∧ ¬ gS S 151 t = 3 then (-12, S) else
    let S' := bkL c h f t.toNatClampNeg i n.toNatClampNeg 0 (up2 S 12 19 0); (nI (nRd S' - nRd S), S')) else (-2, S)) else (-1, S)
theorem tl_ni {L : List Nat} {s : Nat} (h : tl L s = false) : s ∉ L := fun y => by
  have : tl L s = true := by
    unfold tl
    exact List.any_eq_true.mpr ⟨s, y, Nat.beq_refl s⟩
  rw [h] at this
  cases this
theorem SA.add {S : SS} {k c h s m n q : Int32} (hI : SInv S) : SA (tl [120, 121, 122, 123, 124, 125, 126, 127, 128, 129]) (tl [3, 8]) S (addF S k c h s m n q).2 := by
  have l8 := hI.l8
  obtain ⟨a120, a121, a122, a123, a124, a125, a126, a127, a128, a129, a12, aoth⟩ := addF_s (k := k) (c := c) (h := h) (s := s) (m := m) (n := n) (q := q) hI.n8 (show nRd S < 100000 by omega)
  refine ⟨fun t h1 h2 => aoth t (fun y => ?_), fun j hj => ?_⟩
  · rcases List.mem_cons.mp y with y | y
    · exact h1 y
    · exact tl_ni h2 y
  · have := tl_ni hj
    rw [a12, if_neg (fun y => this (by rw [y]; decide)), if_neg (fun y => this (by rw [y]; decide))]
theorem SA.bk {S : SS} {c h f : Int32} {t : Nat} {i : Int32} {k : Nat} (hI : SInv S) : SA (tl [120, 121, 122, 123, 124, 125, 126, 127, 128, 129]) (tl [3, 8, 19]) S (bkS c h f t i k S) := by
  unfold bkS
  by_cases c1 : S 151 t < 0
  · rw [if_pos c1]
    exact (SA.rf _ _ S).wk _ _ rfl
  · rw [if_neg c1]
    by_cases c2 : i < 0 ∨ ¬ i < S 152 t - nI k
    · rw [if_pos c2]
      exact (SA.rf _ _ S).wk _ _ rfl
    · rw [if_neg c2]
      by_cases c3 : S 153 (60 * t + i.toNatClampNeg + k) = 999999999
      · rw [if_pos c3]
        exact SA.rf _ _ S
      · rw [if_neg c3]
        by_cases c4 : inP (shE (S 153 (60 * t + i.toNatClampNeg + k))) 0 999999
        · rw [if_neg (fun y => y c4)]
          by_cases c5 : S 12 8 = 90
          · rw [if_pos c5]
            exact (SA.rf _ _ S).wk _ _ rfl
          · rw [if_neg c5]
            exact (SA.add hI).sub (fun _ h => h) (tl_sub (by decide))
        · rw [if_pos c4]
          exact (SA.rf _ _ S).wk _ _ rfl
/-- what the loop keeps -/
def BkI (t b : Nat) (c : Int32) (S : SS) : Prop := SInv S ∧ TpI S ∧ vp_in c (nCl S) ∧ b ≤ nRd S
theorem lt90 {S : SS} (hI : SInv S) (h : ¬ S 12 8 = 90) : nRd S < 90 := by
  have l8 := hI.l8
  have : ¬ nRd S = 90 := fun y => h (by rw [hI.n8, y]; decide)
  omega
theorem SInv.k19 {S : SS} (hI : SInv S) (x : Int32) : SInv (up2 S 12 19 x) := hI.sa (A := tl []) (K := tl [19]) ((SA.rf _ _ S).wk _ _ rfl) (by decide) (by decide)
theorem TpI.sa {S S' : SS} {A K : Nat → Bool} (hT : TpI S) (h : SA A K S S') (a1 : A 151 = false) (a2 : A 152 = false) : TpI S' := by
  unfold TpI
  rw [h.a (by decide) a1, h.a (by decide) a2]
  exact hT
theorem BkI.step {t b k : Nat} {c h f i : Int32} {S : SS} (hB : BkI t b c S) (hh : inP h 0 5) (hf : inP f 1 4) (hk : k < 40) : BkI t b c (bkS c h f t i k S) := by
  obtain ⟨hI, hT, hcl, hb⟩ := hB
  have hA := SA.bk (c := c) (h := h) (f := f) (t := t) (i := i) (k := k) hI
  have hT2 := hT.sa hA rfl rfl
  have e2 : nCl (bkS c h f t i k S) = nCl S := by simp only [nCl, hA.k (j := 2) rfl]
  have k8 : ∀ x, nRd (up2 S 12 19 x) = nRd S := fun x => by simp only [nRd, up2_k S 12 x (show 8 ≠ 19 by decide)]
  rw [BkI, e2]
  have key : SInv (bkS c h f t i k S) ∧ b ≤ nRd (bkS c h f t i k S) := by
    unfold bkS
    by_cases c1 : S 151 t < 0
    · rw [if_pos c1, k8]
      exact ⟨hI.k19 _, hb⟩
    · rw [if_neg c1]
      by_cases c2 : i < 0 ∨ ¬ i < S 152 t - nI k
      · rw [if_pos c2, k8]
        exact ⟨hI.k19 _, hb⟩
      · rw [if_neg c2]
        by_cases c3 : S 153 (60 * t + i.toNatClampNeg + k) = 999999999
        · rw [if_pos c3]
          exact ⟨hI, hb⟩
        · rw [if_neg c3]
          by_cases c4 : inP (shE (S 153 (60 * t + i.toNatClampNeg + k))) 0 999999
          · rw [if_neg (fun y => y c4)]
            by_cases c5 : S 12 8 = 90
            · rw [if_pos c5, k8]
              exact ⟨hI.k19 _, hb⟩
            · rw [if_neg c5]
              have hn := lt90 hI c5
              refine ⟨hI.add hn (by decide) hcl hh c4 (fun y => absurd y (by decide)) (fun y => absurd y (by decide)) (fun y => absurd y (by decide)) (fun y => y.elim (fun y => absurd y (by decide)) (fun y => absurd y (by decide))) (fun _ => numE_ok hf hk) (fun y => absurd (Or.inl rfl) y) (fun _ => rfl), ?_⟩
              show b ≤ ((addF S 3 c h _ _ _ _).2 12 8).toNatClampNeg
              have e : (addF S 3 c h (shE (S 153 (60 * t + i.toNatClampNeg + k))) (numE f k) (numE f k) (-1)).2 12 8 = nI (nRd S + 1) := by
                have := (addF_s (k := 3) (c := c) (h := h) (s := shE (S 153 (60 * t + i.toNatClampNeg + k))) (m := numE f k) (n := numE f k) (q := -1) hI.n8 (show nRd S < 100000 by omega)).2.2.2.2.2.2.2.2.2.2.1 8
                rw [this, if_pos rfl]
              rw [e, nI_clamp (by omega)]
              omega
          · rw [if_pos c4, k8]
            exact ⟨hI.k19 _, hb⟩
  exact ⟨key.1, hT2, hcl, key.2⟩
theorem bk_add {S : SS} {k c h s m n q : Int32} (hI : SInv S) : nRd (addF S k c h s m n q).2 = nRd S + 1 := by
  have l8 := hI.l8
  show ((addF S k c h s m n q).2 12 8).toNatClampNeg = _
  have := (addF_s (k := k) (c := c) (h := h) (s := s) (m := m) (n := n) (q := q) hI.n8 (show nRd S < 100000 by omega)).2.2.2.2.2.2.2.2.2.2.1 8
  rw [this, if_pos rfl, nI_clamp (by omega)]
theorem bk_m {d rc rs t b N : Nat} {c h f i : Int32} {σ : XH} {Q : XV → XH → Prop} (hd : 3 ≤ d) (hM : MI σ) (ht : t < 6) (hh : inP h 0 5) (hf : inP f 1 4) (hN : N ≤ 40) : ∀ (n k : Nat) (S : SS), k + n = N → BkI t b c S → Q (vI (nI (nRd (bkL c h f t i n k S) - b))) (up σ (bkL c h f t i n k S)) → Ex d rc rs m_X11_book 87 [vR (some (12, 0)), vI c, vI h, vI f, vI (nI t), vI i, vI (nI N), vI (nI (nRd S - b)), vI (nI k), vU] [] (up σ S) Q
  | 0, k, S, hk, hB, hQ => by
    refine sX11_book_87 ⟨fun y => ?_, fun _ => ?_⟩
    · have := (c_lt (by omega) (by omega)).mp y
      omega
    · refine sX11_book_270 ?_
      exact hQ
  | n + 1, k, S, hk, hB, hQ => by
    obtain ⟨hI, hT, hcl, hb⟩ := id hB
    have l8 := hI.l8
    refine sX11_book_87 ⟨fun _ => ⟨fun z => ?_, fun z => ?_⟩, fun y => absurd ((c_lt (by omega) (by omega)).mpr (by omega)) y⟩
    · have z0 : S 12 19 = 0 := z
      have hst := hB.step (h := h) (f := f) (i := i) hh hf (show k < 40 by omega)
      have next : ∀ S', bkS c h f t i k S = S' → Ex d rc rs m_X11_book 264 [vR (some (12, 0)), vI c, vI h, vI f, vI (nI t), vI i, vI (nI N), vI (nI (nRd S' - b)), vI (nI k), vU] [] (up σ S') Q := fun S' e => by
        refine sX11_book_264 ?_
        unfold bX11_book_264
        rw [nI_1]
        rw [e] at hst
        refine bk_m hd hM ht hh hf hN n (k + 1) S' (by omega) hst ?_
        have e2 : bkL c h f t i (n + 1) k S = bkL c h f t i n (k + 1) S' := by
          rw [← e]
          exact if_pos z0
        rw [e2] at hQ
        exact hQ
      have nx19 : ∀ x, bkS c h f t i k S = up2 S 12 19 x → Ex d rc rs m_X11_book 264 [vR (some (12, 0)), vI c, vI h, vI f, vI (nI t), vI i, vI (nI N), vI (nI (nRd S - b)), vI (nI k), vU] [] (up σ (up2 S 12 19 x)) Q := fun x e => by
        have := next _ e
        rw [show nRd (up2 S 12 19 x) = nRd S by simp only [nRd, up2_k S 12 x (show 8 ≠ 19 by decide)]] at this
        exact this
      have v6 : vp_in (nI t) 6 := vp_in_nI ht (by omega)
      have c_t : (nI t).toNatClampNeg = t := nI_clamp (by omega)
      rw [c_t]
      have bt := hT.b ht
      refine ⟨hM.r151, vp_at hM.n151 v6, fun (c1 : S 151 t < 0) g e => ?_, fun (c1 : ¬ S 151 t < 0) => ?_⟩
      · rw [e, wI_up σ S rfl]
        exact nx19 1 (by unfold bkS; rw [if_pos c1])
      · have f139 : (i < 0 ∨ ¬ i < S 152 t - nI k) → Ex d rc rs m_X11_book 139 [vR (some (12, 0)), vI c, vI h, vI f, vI (nI t), vI i, vI (nI N), vI (nI (nRd S - b)), vI (nI k), vU] [] (up σ S) Q := fun y => by
          refine sX11_book_139 ?_
          intro g e
          rw [e, wI_up σ S rfl]
          exact nx19 2 (by unfold bkS; rw [if_neg c1, if_pos y])
        refine ⟨fun c2 => f139 (Or.inl c2), fun c2 => ⟨hM.r152, vp_at hM.n152 v6, fun (c3 : i < S 152 t - nI k) => ?_, fun c3 => f139 (Or.inr c3)⟩⟩
        have ei := nI_of_nn c2
        have ek : (nI k).toInt = k := nI_toInt (by omega)
        have hik : i.toNatClampNeg + k < 60 := by
          have e0 : (0 : Int32).toInt = 0 := by decide
          rw [fa_lt, e0] at c2
          rw [fa_lt, fb_subI (by omega) (by omega), ek] at c3
          show i.toInt.toNat + k < 60
          omega
        have ix : 60 * nI t + i + nI k = nI (60 * t + i.toNatClampNeg + k) := by
          rw [m60 t ht]
          exact (congrArg (fun y => nI (60 * t) + y + nI k) ei).trans (by rw [nI_add, nI_add])
        have c_x : (nI (60 * t + i.toNatClampNeg + k)).toNatClampNeg = 60 * t + i.toNatClampNeg + k := nI_clamp (by omega)
        have v360 : vp_in (nI (60 * t + i.toNatClampNeg + k)) 360 := vp_in_nI (by omega) (by omega)
        rw [ix, c_x]
        have e2 : ¬ (i < 0 ∨ ¬ i < S 152 t - nI k) := fun y => y.elim c2 (fun y => y c3)
        refine ⟨hM.r153, vp_at hM.n153 v360, fun (c4 : S 153 _ = 999999999) => ?_, fun (c4 : ¬ S 153 _ = 999999999) => ⟨hM.r153, vp_at hM.n153 v360, by omega, ?_⟩⟩
        · exact next S (by unfold bkS; rw [if_neg c1, if_neg e2, if_pos c4])
        · refine sp_X11_down (by omega) (by decide) ?_
          refine ⟨by omega, ?_⟩
          refine sp_X11_isTime (by omega) (fun c5 => br_f (by decide) ⟨fun (c6 : S 12 8 = 90) => ?_, fun (c6 : ¬ S 12 8 = 90) => ⟨by decide, by decide, by omega, ?_⟩⟩) (fun c5 => br_t rfl ?_)
          · intro g e
            rw [e, wI_up σ S rfl]
            exact nx19 4 (by unfold bkS; rw [if_neg c1, if_neg e2, if_neg c4, if_neg (fun y => y c5), if_pos c6])
          · refine sp_X11_add (by omega) hM (vp_of hI.n8 (lt90 hI c6) (by omega)) ?_
            refine sX11_book_261 ?_
            unfold bX11_book_261
            have := next (addF S 3 c h (shE (S 153 (60 * t + i.toNatClampNeg + k))) (numE f k) (numE f k) (-1)).2 (by unfold bkS; rw [if_neg c1, if_neg e2, if_neg c4, if_neg (fun y => y c5), if_neg c6])
            rw [bk_add hI, show nRd S + 1 - b = (nRd S - b) + 1 by omega, ← nI_1] at this
            exact this
          · intro g e
            rw [e, wI_up σ S rfl]
            exact nx19 3 (by unfold bkS; rw [if_neg c1, if_neg e2, if_neg c4, if_pos (show ¬ inP (shE (S 153 (60 * t + i.toNatClampNeg + k))) 0 999999 from c5)])
    · refine sX11_book_270 ?_
      have z0 : ¬ S 12 19 = 0 := z
      have e2 : bkL c h f t i (n + 1) k S = S := if_neg z0
      rw [e2] at hQ
      exact hQ
theorem bk_n {n : Int32} (h : inP n 1 40) : n = nI n.toNatClampNeg ∧ n.toNatClampNeg ≤ 40 := by
  have v : vp_in n 41 := inP_c h (by decide) (by decide)
  have := vp_lt v
  exact ⟨nI_of_nn (vp_nn v), by omega⟩
theorem BkI.start {S : SS} {t : Nat} {c : Int32} (hI : SInv S) (hT : TpI S) (hcl : vp_in c (nCl S)) : BkI t (nRd S) c (up2 S 12 19 0) := by
  have hA : SA (tl []) (tl [19]) S (up2 S 12 19 0) := (SA.rf _ _ S).wk _ _ rfl
  refine ⟨hI.k19 0, hT.sa hA rfl rfl, ?_, ?_⟩
  · simp only [nCl, hA.k (j := 2) rfl]
    exact hcl
  · simp only [nRd, hA.k (j := 8) rfl]
    exact Nat.le_refl _
theorem sp_X11_book {d : Nat} {c h f t i n : Int32} {σ : XH} {S : SS} {Q : XV → XH → Prop} (hd : 4 ≤ d) (hM : MI σ) (hI : SInv S) (hT : TpI S) (hQ : Q (vI (bookF S c h f t i n).1) (up σ (bookF S c h f t i n).2)) : Ec d 0 0 m_X11_book [vR (some (12, 0)), vI c, vI h, vI f, vI t, vI i, vI n] (up σ S) Q := by
  unfold bookF at hQ
  have f25 : ¬ (isCl S c ∧ inP h 0 5 ∧ inP t 0 5) → Ex d 0 0 m_X11_book 25 [vU, vU, vU, vU, vU, vU, vU, vU, vU, vU] [] (up σ S) Q := fun z => by
    rw [if_neg z] at hQ
    exact sX11_book_25 hQ
  refine Ec_of mo_X11_book.1 (Nat.le_of_ble_eq_true rfl) ?_
  refine sX11_book_0 ?_
  unfold bX11_book_0
  refine ⟨by omega, sp_X11_isClock (by omega) (fun z1 => br_f (by decide) ⟨by omega, ?_⟩) (fun z1 => br_t rfl (f25 (fun y => z1 y.1)))⟩
  refine sp_X11_isHand (by omega) (fun z2 => br_f (by decide) ⟨by omega, ?_⟩) (fun z2 => br_t rfl (f25 (fun y => z2 y.2.1)))
  refine sp_X11_isTape (by omega) (fun z3 => br_f (by decide) ⟨by omega, ?_⟩) (fun z3 => br_t rfl (f25 (fun y => z3 y.2.2)))
  rw [if_pos ⟨z1, z2, z3⟩] at hQ
  have f49 : ¬ (inP f 1 4 ∧ inP n 1 40) → Ex d 0 0 m_X11_book 49 [vU, vU, vU, vU, vU, vU, vU, vU, vU, vU] [] (up σ S) Q := fun z => by
    rw [if_neg z] at hQ
    exact sX11_book_49 hQ
  refine sp_X11_in (by omega) (fun z4 => br_f (by decide) ⟨by omega, ?_⟩) (fun z4 => br_t rfl (f49 (fun y => z4 y.1)))
  refine sp_X11_in (by omega) (fun z5 => br_f (by decide) ?_) (fun z5 => br_t rfl (f49 (fun y => z5 y.2)))
  rw [if_pos ⟨z4, z5⟩] at hQ
  obtain ⟨t', ht, et⟩ := tp_t z3
  have v6 : vp_in t 6 := inP_c z3 (by decide) (by decide)
  have f76 : ¬ (¬ gS S 151 t < 0 ∧ ¬ gS S 151 t = 3) → Ex d 0 0 m_X11_book 76 [vR (some (12, 0)), vI c, vI h, vI f, vI t, vI i, vI n, vU, vU, vU] [] (up σ S) Q := fun z => by
    rw [if_neg z] at hQ
    refine sX11_book_76 ?_
    intro g e
    rw [e, wI_up σ S rfl]
    obtain ⟨en, h40⟩ := bk_n z5
    have hB := BkI.start (t := t') hI hT (hI.isCl z1)
    have := bk_m (b := nRd S) (c := c) (i := i) (rc := 0) (rs := 0) (by omega : 3 ≤ d) hM ht z2 z4 h40 n.toNatClampNeg 0 (up2 S 12 19 0) (by omega) hB (Q := Q) (σ := σ)
    rw [show nRd (up2 S 12 19 0) - nRd S = 0 by simp only [nRd, up2_k S 12 0 (show 8 ≠ 19 by decide), Nat.sub_self], ← en, ← et] at this
    have ec : t.toNatClampNeg = t' := by rw [et, nI_clamp (by omega)]
    rw [ec] at hQ
    exact this hQ
  refine ⟨hM.r151, vp_at hM.n151 v6, fun c1 => f76 (fun y => y.1 c1), fun c1 => ⟨hM.r151, vp_at hM.n151 v6, fun c2 => f76 (fun y => y.2 c2), fun c2 => ?_⟩⟩
  rw [if_pos ⟨c1, c2⟩] at hQ
  exact hQ
