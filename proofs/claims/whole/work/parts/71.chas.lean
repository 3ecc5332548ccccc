/-! ===== the class: what a house has ===== -/
/-- how many readings are withdrawn -/
def gon (S : SS) : Nat → Nat
  | 0 => 0
  | r + 1 => gon S r + (if 0 < S 129 r then 1 else 0)
/-- the orders of all that was told, written and withdrawn -/
def ordC (S : SS) : Nat := nRd S + nLe S + gon S (nRd S)
def OrI (S : SS) : Prop := S 12 3 = nI (ordC S) ∧ (∀ r, r < nRd S → ∃ a : Nat, S 128 r = nI a ∧ 1 ≤ a ∧ a ≤ ordC S) ∧ (∀ k, k < nLe S → ∃ b : Nat, S 133 k = nI b ∧ 1 ≤ b ∧ b ≤ ordC S) ∧ (∀ r k, r < nRd S → k < nLe S → ¬ S 133 k = S 128 r) ∧ (∀ r, r < nRd S → 0 < S 129 r → ∃ g : Nat, S 129 r = nI g ∧ g ≤ ordC S ∧ S 128 r < S 129 r)
theorem gon_le (S : SS) : ∀ n, gon S n ≤ n
  | 0 => Nat.le_refl 0
  | n + 1 => by
    have := gon_le S n
    show gon S n + (if 0 < S 129 n then 1 else 0) ≤ n + 1
    split <;> omega
theorem ordC_le {S : SS} (hI : SInv S) : ordC S ≤ 240 := by
  have := gon_le S (nRd S)
  have := hI.l8
  have := hI.l20
  unfold ordC
  omega
/-- the latest written of what a house heard of a station by a day -/
def hrd (S : SS) (h day : Int32) (s : Nat) : Nat → Int32
  | 0 => 0
  | k + 1 => if S 131 k = h ∧ ¬ day < S 132 k ∧ S 130 k = nI s then mxI (hrd S h day s k) (S 133 k) else hrd S h day s k
theorem hrd_s (S : SS) (h day : Int32) (s k : Nat) : hrd S h day s (k + 1) = if S 131 k = h ∧ ¬ day < S 132 k ∧ S 130 k = nI s then mxI (hrd S h day s k) (S 133 k) else hrd S h day s k := rfl
theorem mx_toInt (a b : Int32) : (mxI a b).toInt = max a.toInt b.toInt := by
  unfold mxI
  split
  · rename_i c
    first
      | (rw [fa_lt] at c; omega)
      | skip
  · rename_i c
    first
      | (rw [fa_lt] at c; omega)
      | skip
theorem hrd_nn {S : SS} {h day : Int32} {s : Nat} : ∀ k, 0 ≤ (hrd S h day s k).toInt
  | 0 => by
    show 0 ≤ (0 : Int32).toInt
    decide
  | k + 1 => by
    have ih := hrd_nn (S := S) (h := h) (day := day) (s := s) k
    rw [hrd_s]
    split
    · rw [mx_toInt]
      omega
    · exact ih
theorem has_eq {S : SS} {h day : Int32} {r s : Nat} (hs : S 118 (S 121 r).toNatClampNeg = nI s) (h0 : 0 ≤ (S 128 r).toInt) (hlr : r < 100000) : ∀ k, k ≤ 1000 → (∀ j, j < k → ¬ S 133 j = S 128 r) → hasF S h (nI r) day k = (if S 128 r < hrd S h day s k then (if 0 < S 129 r ∧ S 129 r < hrd S h day s k then 2 else 1) else 0)
  | 0, _, _ => by
    have : ¬ S 128 r < hrd S h day s 0 := by
      rw [fa_lt]
      show ¬ (S 128 r).toInt < (0 : Int32).toInt
      have e0 : (0 : Int32).toInt = 0 := by decide
      rw [e0]
      omega
    rw [if_neg this]
    rfl
  | k + 1, hk, hd => by
    have ih := has_eq (h := h) (day := day) hs h0 hlr k (by omega) (fun j hj => hd j (by omega))
    have hne := hd k (by omega)
    have g : ∀ q, gS S q (nI k) = S q k := fun q => gS_nI S q (by omega)
    have g2 : ∀ q, gS S q (nI r) = S q r := fun q => gS_nI S q hlr
    have g3 : gS S 118 (S 121 r) = nI s := hs
    rw [hrd_s]
    unfold hasF
    rw [ih]
    simp only [g, g2, g3]
    have hne' : ¬ (S 133 k).toInt = (S 128 r).toInt := fun y => hne (Int32.toInt_inj.mp y)
    have e0 : (0 : Int32).toInt = 0 := by decide
    have n12 : ¬ (1 : Int32) = 2 := by decide
    have n02 : ¬ (0 : Int32) = 2 := by decide
    have nn := hrd_nn (S := S) (h := h) (day := day) (s := s) k
    by_cases c1 : S 131 k = h ∧ ¬ day < S 132 k ∧ S 130 k = nI s
    · have em := mx_toInt (hrd S h day s k) (S 133 k)
      rw [if_pos c1]
      by_cases c2 : S 133 k < S 128 r
      · rw [if_neg (fun y => y.2.2.2 c2)]
        rw [fa_lt] at c2
        by_cases c3 : S 128 r < hrd S h day s k
        · have e : mxI (hrd S h day s k) (S 133 k) = hrd S h day s k := by
            apply Int32.toInt_inj.mp
            rw [fa_lt] at c3
            omega
          rw [e]
        · have : ¬ S 128 r < mxI (hrd S h day s k) (S 133 k) := by
            rw [fa_lt] at c3 ⊢
            omega
          rw [if_neg c3, if_neg this]
      · rw [if_pos ⟨c1.1, c1.2.2, c1.2.1, c2⟩]
        rw [fa_lt] at c2
        have c4 : S 128 r < mxI (hrd S h day s k) (S 133 k) := by
          rw [fa_lt]
          omega
        rw [if_pos c4]
        by_cases c5 : 0 < S 129 r
        · have c5' := c5
          rw [fa_lt, e0] at c5'
          by_cases c6 : S 129 r < S 133 k
          · have c6' := c6
            rw [fa_lt] at c6'
            have c7 : S 129 r < mxI (hrd S h day s k) (S 133 k) := by
              rw [fa_lt]
              omega
            rw [if_pos (Or.inl ⟨c5, c6⟩), if_pos ⟨c5, c7⟩]
          · have c6' := c6
            rw [fa_lt] at c6'
            by_cases c8 : S 129 r < hrd S h day s k
            · have c8' := c8
              rw [fa_lt] at c8'
              have c7 : S 129 r < mxI (hrd S h day s k) (S 133 k) := by
                rw [fa_lt]
                omega
              have c9 : S 128 r < hrd S h day s k ∨ ¬ S 128 r < hrd S h day s k := Classical.em _
              rcases c9 with c9 | c9
              · have eX : (if S 128 r < hrd S h day s k then (if 0 < S 129 r ∧ S 129 r < hrd S h day s k then (2 : Int32) else 1) else 0) = 2 := by rw [if_pos c9, if_pos ⟨c5, c8⟩]
                rw [eX, if_pos (Or.inr rfl), if_pos ⟨c5, c7⟩]
              · have c9' := c9
                rw [fa_lt] at c9'
                exfalso
                omega
            · have c8' := c8
              rw [fa_lt] at c8'
              have c7 : ¬ S 129 r < mxI (hrd S h day s k) (S 133 k) := by
                rw [fa_lt]
                omega
              have eX : ¬ (if S 128 r < hrd S h day s k then (if 0 < S 129 r ∧ S 129 r < hrd S h day s k then (2 : Int32) else 1) else 0) = 2 := by
                by_cases c9 : S 128 r < hrd S h day s k
                · rw [if_pos c9, if_neg (fun y => c8 y.2)]
                  exact n12
                · rw [if_neg c9]
                  exact n02
              rw [if_neg (fun y => y.elim (fun q => c6 q.2) eX), if_neg (fun y => c7 y.2)]
        · have eX : ¬ (if S 128 r < hrd S h day s k then (if 0 < S 129 r ∧ S 129 r < hrd S h day s k then (2 : Int32) else 1) else 0) = 2 := by
            by_cases c9 : S 128 r < hrd S h day s k
            · rw [if_pos c9, if_neg (fun y => c5 y.1)]
              exact n12
            · rw [if_neg c9]
              exact n02
          rw [if_neg (fun y => y.elim (fun q => c5 q.1) eX), if_neg (fun y => c5 y.1)]
    · rw [if_neg c1, if_neg (fun y => c1 ⟨y.1, y.2.2.1, y.2.1⟩)]
theorem sp_hearFrom {d : Nat} {a w : Int32} {σ : XH} {Q : XV → XH → Prop} (hd : 1 ≤ d) (hX : CFX σ) (hQ : ∀ σ', Fi (tl [112]) σ σ' → (∀ s, s < 11 → hi σ' 112 0 s = if a = nI s then mxI (hi σ 112 0 s) w else hi σ 112 0 s) → Q vU σ') : Ec d 0 0 m_X8_hearFrom [vR (some (9, 0)), vI a, vI w] σ Q := by
  have f29 : ∀ σ', (σ' = σ ∧ ∀ s, s < 11 → ¬ a = nI s) ∨ (Fi (tl [112]) σ σ' ∧ (∀ s, s < 11 → hi σ' 112 0 s = if a = nI s then mxI (hi σ 112 0 s) w else hi σ 112 0 s)) → Ex d 0 0 m_X8_hearFrom 29 [vU, vU, vU] [] σ' Q := fun σ' y => by
    refine sX8_hearFrom_29 ?_
    rcases y with ⟨e, y⟩ | ⟨y1, y2⟩
    · rw [e]
      exact hQ σ (Fi.rf _ _) (fun s hs => by rw [if_neg (y s hs)])
    · exact hQ σ' y1 y2
  refine Ec_of mo_X8_hearFrom.1 (Nat.le_of_ble_eq_true rfl) ?_
  refine sX8_hearFrom_0 ?_
  unfold bX8_hearFrom_0
  rw [hX.n112]
  refine ⟨fun c => f29 σ (Or.inl ⟨rfl, fun s hs y => ?_⟩), fun c => ⟨hX.k9_5, fun c2 => ⟨hX.k9_5, hX.k9_5, ?_, hd, ?_⟩, fun c2 => f29 σ (Or.inl ⟨rfl, fun s hs y => ?_⟩)⟩⟩
  · rw [y] at c
    exact neg_nn (by omega) c
  · have ea := nI_of_nn c
    rw [ea, show Int32.ofNat 11 = nI 11 from rfl] at c2
    have hlt : a.toNatClampNeg < 11 := by
      have h31 : a.toNatClampNeg < 2 ^ 31 := Int32.toNatClampNeg_lt a
      exact (nI_ltI h31 (by omega)).mp c2
    rw [ea]
    exact vp_in_nI hlt (by omega)
  · have ea := nI_of_nn c
    rw [ea, show Int32.ofNat 11 = nI 11 from rfl] at c2
    have hlt : a.toNatClampNeg < 11 := by
      have h31 : a.toNatClampNeg < 2 ^ 31 := Int32.toNatClampNeg_lt a
      exact (nI_ltI h31 (by omega)).mp c2
    refine sp_maxI ⟨?_, fun g e => f29 g (Or.inr ⟨?_, fun s hs => ?_⟩)⟩
    · rw [hX.n112, ea]
      exact vp_in_nI hlt (by omega)
    · rw [e]
      exact Fi.wI (Fi.rf _ _) rfl _ _ _
    · rw [e, hi_wI_at]
      by_cases y : a = nI s
      · have ys : a.toNatClampNeg = s := by rw [y, nI_clamp (by omega)]
        rw [if_pos y, if_pos ⟨rfl, ys.symm⟩, ys]
      · rw [if_neg y, if_neg (fun q => y (by rw [q.2]; exact ea))]
  · rw [y, show Int32.ofNat 11 = nI 11 from rfl] at c2
    exact c2 ((c_lt (by omega) (by omega)).mpr hs)
theorem sp_heardFrom {d s : Nat} {σ : XH} {Q : XV → XH → Prop} (hX : CFX σ) (hs : s < 11) (hQ : Q (vI (hi σ 112 0 s)) σ) : Ec d 0 0 m_X8_heardFrom [vR (some (9, 0)), vI (nI s)] σ Q := by
  refine Ec_of mo_X8_heardFrom.1 (Nat.le_of_ble_eq_true rfl) ?_
  refine sX8_heardFrom_0 ?_
  unfold bX8_heardFrom_0
  rw [hX.n112, nI_clamp (by omega)]
  refine ⟨fun c => absurd c (neg_nn (by omega)), fun _ => ⟨hX.k9_5, fun _ => ⟨hX.k9_5, vp_in_nI hs (by omega), ?_⟩, fun c => absurd ((c_lt (by omega) (by omega)).mpr hs) c⟩⟩
  exact sX8_heardFrom_23 hQ
theorem lp_hear {d rc rs : Nat} {h day : Int32} {S : SS} {ρ : List Nat} {Q : XV → XH → Prop} (hd : 3 ≤ d) (hI : SInv S) : ∀ (m k : Nat) (σ : XH), k + m = nLe S → CFX σ → LL σ (EL S ρ) → CLe σ S → (∀ s, s < 11 → hi σ 112 0 s = hrd S h day s k) → (∀ σ', Fi (tl [112]) σ σ' → (∀ s, s < 11 → hi σ' 112 0 s = hrd S h day s (nLe S)) → Q vU σ') → Ex d rc rs m_X10_hear 9 [vR (some (11, 0)), vI h, vI day, vI (nI k), vU] [] σ Q
  | 0, k, σ, hk, hX, hL, hC, hr_, hQ => by
    have l20 := hI.l20
    refine sX10_hear_9 ⟨hX.k11_3, by omega, sp_size (by omega) hL ?_⟩
    rw [(EL_len S ρ).2.2.2.1]
    have ek : k = nLe S := by omega
    refine ⟨fun y => ?_, fun _ => ?_⟩
    · have := (c_lt (by omega) (by omega)).mp y
      omega
    · exact hQ σ (Fi.rf _ _) (fun s hs => by rw [hr_ s hs, ek])
  | m + 1, k, σ, hk, hX, hL, hC, hr_, hQ => by
    have l20 := hI.l20
    have l3 := (EL_len S ρ).2.2.2.1
    refine sX10_hear_9 ⟨hX.k11_3, by omega, sp_size (by omega) hL ?_⟩
    rw [l3]
    refine ⟨fun _ => ⟨hX.k11_3, by omega, ?_⟩, fun y => absurd ((c_lt (by omega) (by omega)).mpr (by omega)) y⟩
    have hkl : k < nLe S := by omega
    refine sp_get (z := (3, k)) (by omega) (by omega) hL rfl (by simp [EL, hkl]) (by rw [l3]; omega) ?_
    obtain ⟨v0, v1, v2, v3⟩ := hC.2 k hkl
    have f68 : ∀ σ1, Fi (tl [112]) σ σ1 → (∀ s, s < 11 → hi σ1 112 0 s = hrd S h day s (k + 1)) → Ex d rc rs m_X10_hear 68 [vR (some (11, 0)), vI h, vI day, vI (nI k), vU] [] σ1 Q := fun σ1 k1 k2 => by
      refine sX10_hear_68 ?_
      unfold bX10_hear_68
      rw [nI_1]
      exact lp_hear hd hI m (k + 1) σ1 (by omega) (hX.fi k1 rfl rfl rfl) (hL.fr k1.fr rfl rfl rfl rfl) (hC.tr k1.fr (SA.rf (tl []) (tl []) S) (by decide) (by decide) (by decide)) k2 (fun σ' p1 p2 => hQ σ' (k1.trans p1) p2)
    have no : ¬ (S 131 k = h ∧ ¬ day < S 132 k) → Ex d rc rs m_X10_hear 68 [vR (some (11, 0)), vI h, vI day, vI (nI k), vU] [] σ Q := fun y => by
      refine f68 σ (Fi.rf _ _) (fun s hs => ?_)
      rw [hr_ s hs, hrd_s, if_neg (fun q => y ⟨q.1, q.2.1⟩)]
    dsimp only [kR]
    refine cst_of rfl (drf_of rfl ?_)
    rw [v1]
    refine ⟨fun c1 => drf_of rfl ?_, fun c1 => no (fun q => c1 q.1)⟩
    rw [v3]
    refine ⟨fun c2 => no (fun q => q.2 c2), fun c2 => ⟨hX.k11_10, drf_of rfl (drf_of rfl ?_)⟩⟩
    rw [v0, v2]
    refine ⟨by omega, sp_hearFrom (by omega) hX (fun σ1 k1 k2 => ?_)⟩
    refine f68 σ1 k1 (fun s hs => ?_)
    rw [k2 s hs, hr_ s hs, hrd_s]
    by_cases c3 : S 130 k = nI s
    · rw [if_pos c3, if_pos ⟨c1, c2, c3⟩]
    · rw [if_neg c3, if_neg (fun q => c3 q.2.2)]
theorem sp_X10_hear {d : Nat} {h day : Int32} {S : SS} {ρ : List Nat} {σ : XH} {Q : XV → XH → Prop} (hd : 4 ≤ d) (hI : SInv S) (hX : CFX σ) (hL : LL σ (EL S ρ)) (hC : CLe σ S) (hQ : ∀ σ', Fi (tl [112]) σ σ' → (∀ s, s < 11 → hi σ' 112 0 s = hrd S h day s (nLe S)) → Q vU σ') : Ec d 0 0 m_X10_hear [vR (some (11, 0)), vI h, vI day] σ Q := by
  refine Ec_of mo_X10_hear.1 (Nat.le_of_ble_eq_true rfl) ?_
  refine sX10_hear_0 ⟨hX.k11_10, by omega, ?_⟩
  refine Ec_of mo_X8_forgetHeard.1 (Nat.le_of_ble_eq_true rfl) ?_
  refine sX8_forgetHeard_0 ⟨hX.k9_5, by omega, ?_⟩
  refine sp_fill (s := 112) (n := 11) (by omega) (by omega) hX.n112 ?_
  intro σ1 k1 _ k3
  refine lp_hear (by omega) hI (nLe S) 0 σ1 (by omega) (hX.fi k1 rfl rfl rfl) (hL.fr k1.fr rfl rfl rfl rfl) (hC.tr k1.fr (SA.rf (tl []) (tl []) S) (by decide) (by decide) (by decide)) (fun s hs => k3 s hs) (fun σ' p1 p2 => hQ σ' (k1.trans p1) p2)
theorem sp_X10_has {d : Nat} {h r day : Int32} {S : SS} {ρ : List Nat} {σ : XH} {Q : XV → XH → Prop} (hd : 5 ≤ d) (hB : CBase σ S ρ) (hC : CLe σ S) (hI : SInv S) (hO : OrI S) (hQ : ∀ σ', Fi (tl [112]) σ σ' → Q (vI (hasG S h r day)) σ') : Ec d 0 0 m_X10_has [vR (some (11, 0)), vI h, vI r, vI day] σ Q := by
  obtain ⟨hX, hL, hS, hCC, hR⟩ := id hB
  unfold hasG at hQ
  have l8 := hI.l8
  have l11 := hI.l1
  have l20 := hI.l20
  have f19 : ¬ (inP h 0 2 ∧ isRd S r) → Ex d 0 0 m_X10_has 19 [vU, vU, vU, vU, vU, vU] [] σ Q := fun z => by
    rw [if_neg z] at hQ
    exact sX10_has_19 (hQ σ (Fi.rf _ _))
  refine Ec_of mo_X10_has.1 (Nat.le_of_ble_eq_true rfl) ?_
  refine sX10_has_0 ?_
  unfold bX10_has_0
  refine ⟨by omega, sp_X10_readingAt (by omega) hX hL hI.n8 hI.l8 (fun q hlq eq z => ⟨by omega, ?_⟩) (fun z => ⟨by omega, ?_⟩)⟩
  · refine sp_X10_isHouse (by omega) (fun z2 => br_f (by decide) (br_f some_ne ⟨by omega, ?_⟩)) (fun z2 => br_t rfl (f19 (fun y => z2 y.1)))
    rw [if_pos ⟨z2, z⟩] at hQ
    refine sp_X10_isDay (by omega) (fun z3 => br_f (by decide) ⟨by omega, ?_⟩) (fun z3 => br_t rfl ?_)
    · rw [if_pos z3] at hQ
      refine sp_X10_hear (by omega) hI hX hL hC (fun σ1 k1 k2 => ?_)
      have hX1 : CFX σ1 := hX.fi k1 rfl rfl rfl
      have j2 := (hI.r hlq).2.1
      obtain ⟨d0, d1, d2, d3, d4, d5, d6, d7, d8, d9, d10⟩ := hR.2 q hlq
      have hcl := vp_lt j2
      obtain ⟨u0, u1, -⟩ := hCC.2.2.2 (S 121 q).toNatClampNeg hcl
      have vs := (hI.c hcl).1
      have hsl := vp_lt vs
      obtain ⟨s0, -⟩ := hS.2.2 _ hsl
      have es : S 118 (S 121 q).toNatClampNeg = nI (S 118 (S 121 q).toNatClampNeg).toNatClampNeg := nI_of_nn (vp_nn vs)
      dsimp only [kU]
      refine ⟨hX1.k11_10, drf_of rfl (drf_of (by rw [k1.r]; exact d2) (drf_of (by rw [k1.r]; exact u1) ⟨by omega, ?_⟩))⟩
      rw [k1.i (s := 8) rfl, s0]
      refine sp_heardFrom hX1 (by omega) ?_
      rw [k2 _ (by omega)]
      have ok := (hO.2.1 q hlq)
      obtain ⟨a, ea, a1, a2⟩ := ok
      have := ordC_le hI
      have he := has_eq (S := S) (h := h) (day := day) (r := q) es (by rw [ea, nI_toInt (by omega)]; omega) (by omega) (nLe S) (by omega) (fun j hj => hO.2.2.2.1 q j hlq hj)
      have hQ1 := hQ σ1 k1
      rw [eq, he] at hQ1
      generalize hrd S h day _ (nLe S) = hv at *
      dsimp only [kI]
      refine drf_of rfl ?_
      rw [k1.i (s := 5) rfl, d9]
      have f91 : Q (vI 1) σ1 → Ex d 0 0 m_X10_has 91 [vU, vU, vU, vU, vU, vU] [] σ1 Q := fun y => by
        refine sX10_has_91 ?_
        refine sX10_has_92 ?_
        exact y
      refine ⟨fun c1 => drf_of rfl ⟨by omega, ?_⟩, fun c1 => ?_⟩
      · rw [if_pos c1] at hQ1
        have hR1 : CRd σ1 S := hR.tr k1.fr (SA.rf (tl []) (tl []) S) (by decide) (by decide) (by decide)
        refine sp_X4_isWithdrawn hR1 hlq (fun c2 => br_f (by decide) ?_) (fun c2 => br_t rfl (f91 ?_))
        · refine sX10_has_77 (drf_of rfl ?_)
          rw [k1.i (s := 5) rfl, d10]
          refine ⟨fun c3 => ?_, fun c3 => f91 ?_⟩
          · refine sX10_has_92 ?_
            rw [if_pos ⟨c2, c3⟩] at hQ1
            exact hQ1
          · rw [if_neg (fun y => c3 y.2)] at hQ1
            exact hQ1
        · rw [if_neg (fun y => c2 y.1)] at hQ1
          exact hQ1
      · rw [if_neg c1] at hQ1
        exact hQ1
    · rw [if_neg z3] at hQ
      exact hQ σ (Fi.rf _ _)
  · refine sp_X10_isHouse (by omega) (fun z2 => br_f (by decide) (br_t rfl (f19 (fun y => z y.2)))) (fun z2 => br_t rfl (f19 (fun y => z2 y.1)))
