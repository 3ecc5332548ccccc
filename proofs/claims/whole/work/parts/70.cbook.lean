/-! ===== book: the class's half ===== -/
theorem CFX.f11 {σ : XH} (h : CFX σ) (k : Nat) (x : Int32) : CFX (wI σ 11 0 k x) := h.fi (T := tl [11]) (Fi.wI (Fi.rf _ _) rfl _ _ _) rfl rfl rfl
theorem CSc.w19 {σ : XH} {S : SS} (h : CSc σ S) {x : Int32} (hx : ¬ x < 0) : CSc (wI σ 11 0 14 x) (up2 S 12 19 x) := by
  refine ⟨?_, ?_, ?_⟩
  · rw [hi_wI_at, if_neg (fun y => absurd y.2 (by decide)), up2_k _ _ _ (by decide)]
    exact h.1
  · rw [hi_wI_at, if_neg (fun y => absurd y.2 (by decide)), up2_k _ _ _ (by decide)]
    exact h.2.1
  · rw [hi_wI_at, if_pos ⟨rfl, rfl⟩, up2_eq, if_neg hx]
/-- the class's heap in the loop of book -/
def CBk (σ : XH) (S : SS) (ρ : List Nat) : Prop := CBase σ S ρ ∧ CSc σ S ∧ CTp σ S
theorem CBk.w19 {σ : XH} {S : SS} {ρ : List Nat} (h : CBk σ S ρ) {x : Int32} (hx : ¬ x < 0) : CBk (wI σ 11 0 14 x) (up2 S 12 19 x) ρ := by
  have hF : Fr (tl [11]) σ (wI σ 11 0 14 x) := Fr.wI (Fr.rf _ _) rfl _ _ _
  have hS : SA (tl []) (tl [19]) S (up2 S 12 19 x) := (SA.rf _ _ S).wk _ _ rfl
  exact ⟨h.1.tr hF (h.1.1.f11 _ _) hS (by decide) (by decide) (by decide), h.2.1.w19 hx, h.2.2.tr hF hS (by decide) (by decide) (by decide)⟩
/-- a write of what stands there already -/
theorem wI_id (σ : XH) {s i k : Nat} {x : Int32} (h : hi σ s i k = x) : wI σ s i k x = σ := by
  refine Prod.ext rfl (Prod.ext rfl (Prod.ext ?_ rfl))
  refine funext fun t => funext fun p => funext fun j => ?_
  show hi (wI σ s i k x) t p j = hi σ t p j
  by_cases e : t = s
  · rw [e, hi_wI_at]
    by_cases y : p = i ∧ j = k
    · rw [if_pos y, y.1, y.2, h]
    · rw [if_neg y]
  · rw [hi_wI_ne _ _ _ _ e]
theorem nI_sb {a b : Nat} (h : b ≤ a) : nI a - nI b = nI (a - b) := by
  obtain ⟨c, e⟩ := Nat.exists_eq_add_of_le h
  subst e
  rw [Nat.add_sub_cancel_left, ← nI_add, Int32.add_comm, Int32.add_sub_cancel]
theorem sp_X10_copyOut {d t cn b k : Nat} {h f i : Int32} {S : SS} {ρ : List Nat} {σ : XH} {Q : XV → XH → Prop} (hd : 8 ≤ d) (ht : t < 6) (hk : k < 40) (hcn : cn < nCl S) (hC : CBk σ S ρ) (hB : BkI t b (nI cn) S) (hh : inP h 0 5) (hf : inP f 1 4) (h0 : S 12 19 = 0) (hki : k = 0 ∨ ¬ i < 0)
    (hQ : ∀ σ' x, Fr (tl [11, 5, 0, 410, 411]) σ σ' → ¬ x < 0 → (bkS (nI cn) h f t i k S) 12 19 = x → (∀ σ'', σ'' = wI σ' 11 0 14 x → CBk σ'' (bkS (nI cn) h f t i k S) ρ) → ((bkS (nI cn) h f t i k S) 12 19 = 0 → ¬ i < 0) → Q (vI x) σ') : Ec d 2 211 m_X10_copyOut [vR (some (11, 0)), vR (some (2, cn)), vI h, vI (numE f k), vR (some (10, t)), vL (i.toInt64 + (nI k).toInt64)] σ Q := by
  obtain ⟨hI, hT, hcl, hb⟩ := id hB
  obtain ⟨hCB, hSc, hCT⟩ := id hC
  obtain ⟨hX, hL, hS, hCC, hR⟩ := id hCB
  have l8 := hI.l8
  have bt := hT.b ht
  obtain ⟨t1, t2, t3⟩ := hCT t ht
  have ri := fb_rng i
  have ek : (nI k).toInt = k := nI_toInt (by omega)
  have eP : (i.toInt64 + (nI k).toInt64).toInt = i.toInt + k := by
    rw [fb_addL (by rw [Int32.toInt_toInt64, Int32.toInt_toInt64, ek]; omega) (by rw [Int32.toInt_toInt64, Int32.toInt_toInt64, ek]; omega), Int32.toInt_toInt64, Int32.toInt_toInt64, ek]
  have e0 : (0 : Int32).toInt = 0 := by decide
  have e0L : (0 : Int64).toInt = 0 := by decide
  -- an answer other than 0 ends the book
  have stp : ∀ x : Int32, ¬ x < 0 → ¬ x = 0 → bkS (nI cn) h f t i k S = up2 S 12 19 x → Q (vI x) σ := fun x hx hx0 e => by
    refine hQ σ x (Fr.rf _ _) hx (by rw [e, up2_eq]) (fun σ'' e2 => ?_) (fun y => absurd (by rw [e, up2_eq] at y; exact y) hx0)
    rw [e2, e]
    exact hC.w19 hx
  refine Ec_of mo_X10_copyOut.1 (Nat.le_of_ble_eq_true rfl) ?_
  refine sX10_copyOut_0 ?_
  unfold bX10_copyOut_0
  refine drf_of rfl ⟨by omega, ?_⟩
  refine sp_X9_holdsRow hCT ht (fun c1 => br_f (by decide) ?_) (fun c1 => br_t rfl ?_)
  · have f29 : (i < 0 ∨ ¬ i < S 152 t - nI k) → Ex d 2 211 m_X10_copyOut 29 [vU, vU, vU, vU, vU, vU, vU, vU, vU] [] σ Q := fun y => by
      refine sX10_copyOut_29 ?_
      exact stp 2 (by decide) (by decide) (by unfold bkS; rw [if_neg c1, if_pos y])
    refine ⟨fun c2 => ?_, fun c2 => drf_of rfl ⟨fun c3 => ?_, fun c3 => ?_⟩⟩
    · rw [lgc_lt, fa_lt64, eP, e0L] at c2
      refine f29 (Or.inl ?_)
      rw [fa_lt, e0]
      omega
    · rw [lgc_lt, fa_lt64, eP, e0L] at c2
      rw [t2, lgc_lt, fa_lt64, eP, Int32.toInt_toInt64] at c3
      have i0 : ¬ i < 0 := fun y => hki.elim (fun q => by
        rw [fa_lt, e0] at y
        rw [q] at c2
        omega) (fun q => q y)
      have i1 : i < S 152 t - nI k := by
        rw [fa_lt, fb_subI (by omega) (by omega), ek]
        omega
      have e2 : ¬ (i < 0 ∨ ¬ i < S 152 t - nI k) := fun y => y.elim i0 (fun y => y i1)
      have i0' := i0
      rw [fa_lt, e0] at i0'
      have eN : (i.toNatClampNeg : Int) = i.toInt := by
        show (i.toInt.toNat : Int) = i.toInt
        omega
      have eI : (i.toInt64 + (nI k).toInt64).toInt32 = nI (i.toNatClampNeg + k) := by
        apply Int32.toInt_inj.mp
        rw [Int64.toInt_toInt32, eP, nI_toInt (by omega), Int.bmod_eq_of_le (by omega) (by omega)]
        omega
      have lt60 : i.toNatClampNeg + k < 60 := by omega
      have cc : (nI (i.toNatClampNeg + k)).toNatClampNeg = i.toNatClampNeg + k := nI_clamp (by omega)
      have hx := (hX.2.2.1 t ht)
      have et : hi σ 114 t (i.toNatClampNeg + k) = S 153 (60 * t + i.toNatClampNeg + k) := by
        rw [t3 _ lt60, Nat.add_assoc]
      refine drf_of rfl ⟨hx.1, ?_, ?_⟩
      · rw [eI]
        exact vp_at hx.2 (vp_in_nI lt60 (by omega))
      · rw [eI, cc, et]
        refine ⟨fun c4 => ?_, fun c4 => ⟨by omega, ?_⟩⟩
        · have eb : bkS (nI cn) h f t i k S = S := by unfold bkS; rw [if_neg c1, if_neg e2, if_pos c4]
          refine hQ σ 0 (Fr.rf _ _) (by decide) (by rw [eb, h0]) (fun σ'' e => ?_) (fun _ => i0)
          rw [e, eb, wI_id σ (by rw [hSc.2.2, h0]; rfl)]
          exact hC
        · refine sp_floorDivI (by decide) ?_
          rw [shE_fd]
          refine ⟨by omega, sp_X10_isTime (by omega) (fun c5 => br_f (by decide) ⟨hX.k11_2, by omega, sp_size (by omega) hL ?_⟩) (fun c5 => br_t rfl ?_)⟩
          · rw [(EL_len S ρ).2.2.1]
            have e90 : (90 : Int32) = nI 90 := by decide
            refine ⟨fun c6 => ⟨by omega, by omega, by omega, ?_⟩, fun c6 => ?_⟩
            · rw [e90] at c6
              have hlt := (c_lt (by omega) (by omega)).mp c6
              have n90 : ¬ S 12 8 = 90 := fun y => by
                rw [hI.n8, e90] at y
                have := nI_inj (by omega) (by omega) y
                omega
              have eb : bkS (nI cn) h f t i k S = (addF S 3 (nI cn) h (shE (S 153 (60 * t + i.toNatClampNeg + k))) (numE f k) (numE f k) (-1)).2 := by unfold bkS; rw [if_neg c1, if_neg e2, if_neg c4, if_neg (fun y => y c5), if_neg n90]
              refine sp_X10_tell (by omega) hX hL hR hSc hI hlt ?_
              intro σ1 hT1
              dsimp only [kR]
              refine drf_of rfl ?_
              intro g e
              refine sX10_copyOut_99 ?_
              obtain ⟨-, -, -, -, -, ⟨u0, -, -, -, -, -, u6, u7, -⟩, -⟩ := id hT1
              have hF2 : Fi (tl [5]) σ1 g := by
                rw [e]
                exact Fi.wI (Fi.rf _ _) rfl _ _ _
              have nE : ¬ numE f k = -1 := fun y => by
                have := numE_ok hf hk
                rw [y] at this
                exact absurd this (by decide)
              have hb2 := told_base (k := 3) (c := nI cn) (h := h) (s := shE (S 153 (60 * t + i.toNatClampNeg + k))) (m := numE f k) (num := numE f k) (q := -1) (ρ := ρ) hX hR hSc hI hlt (by rw [if_neg (by decide), nI_clamp (by have := hI.l2; omega)]; exact hT1) hF2 (fun p j => by
                rw [e, hi_wI_at]
                by_cases y6 : p = nRd S ∧ j = 6
                · rw [if_pos y6, if_pos (Or.inl rfl), if_neg (fun y => by omega), y6.1, y6.2]
                  exact u6
                · rw [if_neg y6]
                  by_cases y7 : p = nRd S ∧ j = 7
                  · rw [if_pos y7, if_neg nE, if_pos y7]
                  · rw [if_neg y7, if_neg y7])
              obtain ⟨b1, b2, b3, b4, b5⟩ := hb2
              obtain ⟨q1, q2⟩ := told_plain (k := 3) (c := nI cn) (h := h) (s := shE (S 153 (60 * t + i.toNatClampNeg + k))) (m := numE f k) (num := numE f k) (q := -1) hS hCC hI hlt (by decide) b1
              rw [← eb] at b3 b4 b5 q1 q2
              have hA := SA.bk (c := nI cn) (h := h) (f := f) (t := t) (i := i) (k := k) hI
              have b6 : CTp g (bkS (nI cn) h f t i k S) := hCT.tr b1 hA (by decide) (by decide) (by decide)
              have z19 : (bkS (nI cn) h f t i k S) 12 19 = 0 := by
                rw [eb, (SA.add hI).k (j := 19) rfl, h0]
              refine hQ g 0 b1 (by decide) z19 (fun σ'' e3 => ?_) (fun _ => i0)
              rw [e3, wI_id g (by rw [b5.2.2, z19]; rfl)]
              exact ⟨⟨b2, b3, q1, q2, b4⟩, b5, b6⟩
            · have n90 : S 12 8 = 90 := by
                rw [e90] at c6 ⊢
                have := mt (c_lt (n := nRd S) (N := 90) (by omega) (by omega)).mpr c6
                rw [hI.n8, show nRd S = 90 by omega]
              exact stp 4 (by decide) (by decide) (by unfold bkS; rw [if_neg c1, if_neg e2, if_neg c4, if_neg (fun y => y c5), if_pos n90])
          · exact stp 3 (by decide) (by decide) (by unfold bkS; rw [if_neg c1, if_neg e2, if_neg c4, if_pos c5])
    · rw [lgc_lt, fa_lt64, eP, e0L] at c2
      rw [t2, lgc_lt, fa_lt64, eP, Int32.toInt_toInt64] at c3
      refine f29 (Or.inr fun y => c3 ?_)
      rw [fa_lt, fb_subI (by omega) (by omega), ek] at y
      omega
  · exact stp 1 (by decide) (by decide) (by unfold bkS; rw [if_pos c1])
theorem bk_c {d t b N cn : Nat} {h f i : Int32} {ρ : List Nat} {Q : XV → XH → Prop} (hd : 9 ≤ d) (ht : t < 6) (hh : inP h 0 5) (hf : inP f 1 4) (hN : N ≤ 40) : ∀ (n k rc rs : Nat) (S : SS) (σ : XH), k + n = N → 2 * n ≤ rc → 211 * n ≤ rs → BkI t b (nI cn) S → cn < nCl S → CBk σ S ρ → (k = 0 ∨ S 12 19 = 0 → ¬ i < 0 ∨ k = 0) → (∀ σ', Fr (tl [11, 5, 0, 410, 411]) σ σ' → CBk σ' (bkL (nI cn) h f t i n k S) ρ → Q (vI (nI (nRd (bkL (nI cn) h f t i n k S) - b))) σ') → ¬ S 12 19 < 0 → Ex d rc rs m_X10_book 92 [vR (some (11, 0)), vU, vI h, vI f, vU, vI i, vI (nI N), vR (some (2, cn)), vR (some (10, t)), vI (nI b), vI (nI k)] [] σ Q
  | 0, k, rc, rs, S, σ, hk, h1, h2, hB, hcn, hC, hki, hQ, h19 => by
    obtain ⟨hI, hT, hcl, hb⟩ := id hB
    have l8 := hI.l8
    refine sX10_book_92 ⟨fun y => ?_, fun _ => ?_⟩
    · have := (c_lt (by omega) (by omega)).mp y
      omega
    · refine sX10_book_142 ⟨hC.1.1.k11_2, by omega, sp_size (by omega) hC.1.2.1 ?_⟩
      rw [(EL_len S ρ).2.2.1]
      dsimp only [kI]
      rw [nI_sb hb]
      exact hQ σ (Fr.rf _ _) hC
  | n + 1, k, rc, rs, S, σ, hk, h1, h2, hB, hcn, hC, hki, hQ, h19 => by
    obtain ⟨hI, hT, hcl, hb⟩ := id hB
    have l8 := hI.l8
    have e14 : hi σ 11 0 14 = S 12 19 := by rw [hC.2.1.2.2, if_neg h19]
    refine sX10_book_92 ⟨fun _ => ⟨fun z => ⟨by decide, by omega, by omega, by omega, ?_⟩, fun z => ?_⟩, fun y => absurd ((c_lt (by omega) (by omega)).mpr (by omega)) y⟩
    · rw [e14] at z
      refine sp_X10_copyOut (by omega) ht (by omega) hcn hC hB hh hf z ((hki (Or.inr z)).elim Or.inr Or.inl) ?_
      intro σ1 x k1 k2 k3 k4 k5
      dsimp only [kI]
      intro g e
      rw [nI_1]
      have hst := hB.step (h := h) (f := f) (i := i) (k := k) hh hf (by omega)
      have hA := SA.bk (c := nI cn) (h := h) (f := f) (t := t) (i := i) (k := k) hI
      have e2 : bkL (nI cn) h f t i (n + 1) k S = bkL (nI cn) h f t i n (k + 1) (bkS (nI cn) h f t i k S) := if_pos z
      rw [e2] at hQ
      refine bk_c hd ht hh hf hN n (k + 1) _ _ (bkS (nI cn) h f t i k S) g (by omega) (by omega) (by omega) hst (by simp only [nCl, hA.k (j := 2) rfl]; exact hcn) (k4 g e) (fun y => Or.inl ?_) (fun σ' p1 p2 => hQ σ' ((k1.trans (by rw [e]; exact Fr.wI (Fr.rf _ _) (by decide) _ _ _)).trans p1) p2) (by rw [k3]; exact k2)
      exact y.elim (fun q => absurd q (by omega)) k5
    · rw [e14] at z
      refine sX10_book_142 ⟨hC.1.1.k11_2, by omega, sp_size (by omega) hC.1.2.1 ?_⟩
      rw [(EL_len S ρ).2.2.1]
      dsimp only [kI]
      rw [nI_sb hb]
      have e2 : bkL (nI cn) h f t i (n + 1) k S = S := if_neg z
      rw [e2] at hQ
      exact hQ σ (Fr.rf _ _) hC
theorem sp_X10_book {d : Nat} {c h f t i n : Int32} {S : SS} {ρ : List Nat} {σ : XH} {Q : XV → XH → Prop} (hd : 10 ≤ d) (hC : CBk σ S ρ) (hI : SInv S) (hT : TpI S) (hQ : ∀ σ', Fr (tl [11, 5, 0, 410, 411]) σ σ' → CBk σ' (bookF S c h f t i n).2 ρ → Q (vI (bookF S c h f t i n).1) σ') : Ec d 80 8440 m_X10_book [vR (some (11, 0)), vI c, vI h, vI f, vI t, vI i, vI n] σ Q := by
  unfold bookF at hQ
  obtain ⟨hCB, hSc, hCT⟩ := id hC
  obtain ⟨hX, hL, hS, hCC, hR⟩ := id hCB
  have l2 := hI.l2
  have l8 := hI.l8
  have f32 : ¬ (isCl S c ∧ inP h 0 5 ∧ inP t 0 5) → Ex d 80 8440 m_X10_book 32 [vU, vU, vU, vU, vU, vU, vU, vU, vU, vU, vU] [] σ Q := fun z => by
    rw [if_neg z] at hQ
    exact sX10_book_32 (hQ σ (Fr.rf _ _) hC)
  refine Ec_of mo_X10_book.1 (Nat.le_of_ble_eq_true rfl) ?_
  refine sX10_book_0 ?_
  unfold bX10_book_0
  refine ⟨by omega, sp_X10_clockAt (by omega) hX hL hI.n2 (by omega) (fun cn hcn eq z1 => ⟨by omega, ?_⟩) (fun z1 => ⟨by omega, ?_⟩)⟩
  · refine sp_X10_tapeAt (by omega) hX (fun t' ht et z3 => br_f some_ne ⟨by omega, ?_⟩) (fun z3 => br_f some_ne ⟨by omega, ?_⟩)
    · refine sp_X10_isHand (by omega) (fun z2 => br_f (by decide) (br_f some_ne ⟨by omega, ?_⟩)) (fun z2 => br_t rfl (f32 (fun y => z2 y.2.1)))
      rw [if_pos ⟨z1, z2, z3⟩] at hQ
      have f52 : ¬ (inP f 1 4 ∧ inP n 1 40) → Ex d 80 8440 m_X10_book 52 [vU, vU, vU, vU, vU, vU, vU, vU, vU, vU, vU] [] σ Q := fun z => by
        rw [if_neg z] at hQ
        exact sX10_book_52 (hQ σ (Fr.rf _ _) hC)
      refine sp_X10_isEdgeNumber (by omega) (fun z4 => br_f (by decide) ⟨by omega, ?_⟩) (fun z4 => br_t rfl (f52 (fun y => z4 y.1)))
      refine sp_X10_within (fun z5 => br_f (by decide) (drf_of rfl ⟨by omega, ?_⟩)) (fun z5 => br_t rfl (f52 (fun y => z5 y.2)))
      rw [if_pos ⟨z4, z5⟩] at hQ
      have eg : gS S 151 t = S 151 t' := by rw [et]; exact gS_nI S 151 (by omega)
      have ec : t.toNatClampNeg = t' := by rw [et, nI_clamp (by omega)]
      rw [eg, ec] at hQ
      have f75 : ¬ (¬ S 151 t' < 0 ∧ ¬ S 151 t' = 3) → Ex d 80 8440 m_X10_book 75 [vR (some (11, 0)), vU, vI h, vI f, vU, vI i, vI n, vR (some (2, cn)), vR (some (10, t')), vU, vU] [] σ Q := fun z => by
        rw [if_neg z] at hQ
        refine sX10_book_75 ⟨hX.k11_2, by omega, sp_size (by omega) hL ?_⟩
        rw [(EL_len S ρ).2.2.1]
        dsimp only [kI]
        intro g e
        obtain ⟨en, h40⟩ := bk_n z5
        rw [eq] at hQ
        have hB := BkI.start (t := t') hI hT (hI.isCl z1)
        rw [eq] at hB
        have ek2 : nCl (up2 S 12 19 0) = nCl S := by simp only [nCl, up2_k S 12 0 (show 2 ≠ 19 by decide)]
        have ek8 : nRd (up2 S 12 19 0) = nRd S := by simp only [nRd, up2_k S 12 0 (show 8 ≠ 19 by decide)]
        have hF0 : Fr (tl [11, 5, 0, 410, 411]) σ g := by
          rw [e]
          exact Fr.wI (Fr.rf _ _) (by decide) _ _ _
        have := bk_c (ρ := ρ) (Q := Q) (i := i) (cn := cn) (t := t') (b := nRd S) (h := h) (f := f) (by omega : 9 ≤ d) ht z2 z4 h40 n.toNatClampNeg 0 80 8440 (up2 S 12 19 0) g (by omega) (by omega) (by omega) hB (by rw [ek2]; exact hcn) (by rw [e]; exact hC.w19 (by decide)) (fun _ => Or.inr rfl) (fun σ' p1 p2 => hQ σ' (hF0.trans p1) p2) (by rw [up2_eq]; decide)
        rw [← en] at this
        exact this
      refine sp_X9_holdsRow hCT ht (fun c1 => br_f (by decide) (drf_of rfl ?_)) (fun c1 => br_t rfl (f75 (fun y => y.1 c1)))
      rw [(hCT t' ht).1]
      refine ⟨fun c2 => f75 (fun y => y.2 c2), fun c2 => ?_⟩
      rw [if_pos ⟨c1, c2⟩] at hQ
      exact hQ σ (Fr.rf _ _) hC
    · refine sp_X10_isHand (by omega) (fun z2 => br_f (by decide) (br_t rfl (f32 (fun y => z3 y.2.2)))) (fun z2 => br_t rfl (f32 (fun y => z2 y.2.1)))
  · refine sp_X10_tapeAt (by omega) hX (fun t' ht et z3 => br_t rfl (f32 (fun y => z1 y.1))) (fun z3 => br_t rfl (f32 (fun y => z1 y.1)))
