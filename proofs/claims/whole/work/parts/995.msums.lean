/-! ===== bounds of what is counted ===== -/
theorem asO_bd {S : SS} (hI : SInv S) (hS : StI S) {r : Int32} (v : vp_in r (nRd S)) (b : Int32) : Bd 6000000 (asO S b r) := by
  have h0 := seO_bd hI hS v 0
  have h1 := seO_bd hI hS v 1
  unfold asO
  split
  · split
    · exact Bd.no _
    · rename_i z
      split
      · exact h0
      · split
        · exact h1
        · right
          have g0 := h0.resolve_left (fun q => z (Or.inl q))
          have g1 := h1.resolve_left (fun q => z (Or.inr q))
          have e2 : (2 : Int64).toInt = 2 := by decide
          have es : ((seO S r 0).toInt64 + (seO S r 1).toInt64).toInt = (seO S r 0).toInt + (seO S r 1).toInt := by
            rw [fb_addL (by rw [Int32.toInt_toInt64, Int32.toInt_toInt64]; omega) (by rw [Int32.toInt_toInt64, Int32.toInt_toInt64]; omega), Int32.toInt_toInt64, Int32.toInt_toInt64]
          have ed : (dwn ((seO S r 0).toInt64 + (seO S r 1).toInt64) 2).toInt = ((seO S r 0).toInt + (seO S r 1).toInt) / 2 := by
            rw [dwn_floor (by rw [e2]; omega), e2, es]
          rw [Int64.toInt_toInt32, ed, fb_bmod (by omega) (by omega)]
          omega
  · exact h0
theorem lv_bd {S : SS} (hI : SInv S) (hS : StI S) {r : Nat} (hr : r < nRd S) (hk : isSk (S 120 (oN S r))) : -99 ≤ (lvF S r).toInt ∧ (lvF S r).toInt ≤ 99 := by
  obtain ⟨n, n1, n4, en, enn⟩ := nu_at hI hr hk
  obtain ⟨hst, est⟩ := st_at hI hr
  have h11 := hI.l1
  have h := hS.2.2 (4 * stF S r + n - 1) (by omega)
  have e : lvF S r = S 146 (4 * stF S r + n - 1) := by
    unfold lvF
    rw [enn]
  rw [e]
  rw [inP_iff, fa_lt, fa_lt] at h
  have e1 : (-99 : Int32).toInt = -99 := by decide
  have e2 : (99 : Int32).toInt = 99 := by decide
  omega
theorem lt_bd {S : SS} (hI : SInv S) (hS : StI S) (hT : TbI S) {h d : Int32} {r : Nat} (hr : r < nRd S) (hk : isSk (S 120 (oN S r))) (hv : ¬ vlF S h d r = NOi) : -7000000 ≤ (ltF S h d r).toInt ∧ (ltF S h d r).toInt ≤ 7000000 := by
  obtain ⟨n, n1, n4, en, enn⟩ := nu_at hI hr hk
  have hv2 := (asO_bd hI hS (vp_in_nI hr (by have := hI.l8; omega)) ((ctR S h d).1 32)).resolve_left hv
  have hv3 : -6000000 ≤ (vlF S h d r).toInt ∧ (vlF S h d r).toInt ≤ 6000000 := hv2
  have ht := tm_rng (hT n n4)
  unfold ltF
  rw [enn, fb_subI (by omega) (by omega)]
  omega
theorem wt_bd {S : SS} (hI : SInv S) (hU : RuI S) {h d : Int32} {r : Nat} (hr : r < nRd S) : 0 ≤ (wtF S h d r).toInt ∧ (wtF S h d r).toInt ≤ 99 := by
  have vh : vp_in (S 122 r) 6 := inP_c (hI.r hr).2.2.1 (by decide) (by decide)
  exact (ctR_rb hI hU h d).1 _ (vp_lt vh)
theorem mul_bd {x y a b : Int} (hx : -a ≤ x ∧ x ≤ a) (hy : -b ≤ y ∧ y ≤ b) (ha : 0 ≤ a) (hb : 0 ≤ b) : -(a * b) ≤ x * y ∧ x * y ≤ a * b := by
  have h : x.natAbs * y.natAbs ≤ a.natAbs * b.natAbs := Nat.mul_le_mul (by omega) (by omega)
  have e1 : (x * y).natAbs = x.natAbs * y.natAbs := Int.natAbs_mul x y
  have e2 : (a * b).natAbs = a.natAbs * b.natAbs := Int.natAbs_mul a b
  have hab : 0 ≤ a * b := Int.mul_nonneg ha hb
  omega
theorem smF_bd {S : SS} (hI : SInv S) (hU : RuI S) (hS : StI S) (hT : TbI S) {h d out : Int32} : ∀ k, k ≤ (CL S h d).length → (-(6860700000000 * (k : Int)) ≤ (smF S h d (CL S h d) out k).1.toInt ∧ (smF S h d (CL S h d) out k).1.toInt ≤ 6860700000000 * (k : Int)) ∧ (0 ≤ (smF S h d (CL S h d) out k).2.toInt ∧ (smF S h d (CL S h d) out k).2.toInt ≤ 970299 * (k : Int))
  | 0, _ => by
    show (-(6860700000000 * ((0 : Nat) : Int)) ≤ (0 : Int64).toInt ∧ (0 : Int64).toInt ≤ 6860700000000 * ((0 : Nat) : Int)) ∧ (0 ≤ (0 : Int64).toInt ∧ (0 : Int64).toInt ≤ 970299 * ((0 : Nat) : Int))
    decide
  | k + 1, hk => by
    have ih := smF_bd hI hU hS hT (h := h) (d := d) (out := out) k (by omega)
    have hl := CL_len hI h d
    have hg := getD_at (L := CL S h d) (k := k) (by omega)
    unfold smF
    generalize (CL S h d).getD k 0 = r at hg
    have hrd := CL_rd hg
    obtain ⟨hsk, hw0, hv0⟩ := ctL_good _ _ (List.mem_of_getElem? hg)
    have w := wt_bd hI hU (h := h) (d := d) hrd
    have l := lv_bd hI hS hrd hsk
    have t := lt_bd hI hS hT hrd hsk hv0
    generalize smF S h d (CL S h d) out k = z at *
    have e100 : (100 : Int64).toInt = 100 := by decide
    have p1 : (100 * (wtF S h d r).toInt64).toInt = 100 * (wtF S h d r).toInt := by
      rw [fb_mulL (by rw [e100, Int32.toInt_toInt64]; omega) (by rw [e100, Int32.toInt_toInt64]; omega), e100, Int32.toInt_toInt64]
    have b2 := mul_bd (x := 100 * (wtF S h d r).toInt) (y := (lvF S r).toInt) (a := 9900) (b := 99) (by omega) l (by omega) (by omega)
    have p2 : ((100 * (wtF S h d r).toInt64) * (lvF S r).toInt64).toInt = 100 * (wtF S h d r).toInt * (lvF S r).toInt := by
      rw [fb_mulL (by rw [p1, Int32.toInt_toInt64]; omega) (by rw [p1, Int32.toInt_toInt64]; omega), p1, Int32.toInt_toInt64]
    have b3 := mul_bd (x := 100 * (wtF S h d r).toInt * (lvF S r).toInt) (y := (ltF S h d r).toInt) (a := 980100) (b := 7000000) (by omega) t (by omega) (by omega)
    have p3 : (((100 * (wtF S h d r).toInt64) * (lvF S r).toInt64) * (ltF S h d r).toInt64).toInt = 100 * (wtF S h d r).toInt * (lvF S r).toInt * (ltF S h d r).toInt := by
      rw [fb_mulL (by rw [p2, Int32.toInt_toInt64]; omega) (by rw [p2, Int32.toInt_toInt64]; omega), p2, Int32.toInt_toInt64]
    have c2 := mul_bd (x := (wtF S h d r).toInt) (y := (lvF S r).toInt) (a := 99) (b := 99) (by omega) l (by omega) (by omega)
    have q2 : ((wtF S h d r).toInt64 * (lvF S r).toInt64).toInt = (wtF S h d r).toInt * (lvF S r).toInt := by
      rw [fb_mulL (by rw [Int32.toInt_toInt64, Int32.toInt_toInt64]; omega) (by rw [Int32.toInt_toInt64, Int32.toInt_toInt64]; omega), Int32.toInt_toInt64, Int32.toInt_toInt64]
    have c3 := mul_bd (x := (wtF S h d r).toInt * (lvF S r).toInt) (y := (lvF S r).toInt) (a := 9801) (b := 99) (by omega) l (by omega) (by omega)
    have q3 : (((wtF S h d r).toInt64 * (lvF S r).toInt64) * (lvF S r).toInt64).toInt = (wtF S h d r).toInt * (lvF S r).toInt * (lvF S r).toInt := by
      rw [fb_mulL (by rw [q2, Int32.toInt_toInt64]; omega) (by rw [q2, Int32.toInt_toInt64]; omega), q2, Int32.toInt_toInt64]
    have nn : 0 ≤ (wtF S h d r).toInt * (lvF S r).toInt * (lvF S r).toInt := by
      rw [Int.mul_assoc]
      refine Int.mul_nonneg w.1 ?_
      rcases Int.le_total 0 (lvF S r).toInt with y | y
      · exact Int.mul_nonneg y y
      · exact Int.mul_nonneg_of_nonpos_of_nonpos y y
    split
    · constructor <;> omega
    · have s1 : (z.1 + ((100 * (wtF S h d r).toInt64) * (lvF S r).toInt64) * (ltF S h d r).toInt64).toInt = z.1.toInt + 100 * (wtF S h d r).toInt * (lvF S r).toInt * (ltF S h d r).toInt := by
        rw [fb_addL (by rw [p3]; omega) (by rw [p3]; omega), p3]
      have s2 : (z.2 + ((wtF S h d r).toInt64 * (lvF S r).toInt64) * (lvF S r).toInt64).toInt = z.2.toInt + (wtF S h d r).toInt * (lvF S r).toInt * (lvF S r).toInt := by
        rw [fb_addL (by rw [q3]; omega) (by rw [q3]; omega), q3]
      rw [s1, s2]
      constructor <;> omega
/-! ===== the common divisor ===== -/
def gcL (A B : Int64) : Int64 := Int64.ofInt ((Nat.gcd A.toInt.natAbs B.toInt.natAbs : Nat) : Int)
theorem remL {x y : Int64} (hx : 0 < x.toInt) (hy : 0 ≤ y.toInt) : (y - y / x * x).toInt = y.toInt % x.toInt := by
  have r := fb_rngL y
  have ed := div_t64 (a := y) hx
  rw [tdiv_pos _ hx, if_pos (Or.inl hy)] at ed
  have e1 := Int.emod_add_mul_ediv y.toInt x.toInt
  have e2 : y.toInt / x.toInt * x.toInt = x.toInt * (y.toInt / x.toInt) := Int.mul_comm _ _
  have e3 := Int.emod_nonneg y.toInt (show x.toInt ≠ 0 by omega)
  have e4 : 0 ≤ x.toInt * (y.toInt / x.toInt) := Int.mul_nonneg (by omega) (Int.ediv_nonneg hy (by omega))
  have em : (y / x * x).toInt = x.toInt * (y.toInt / x.toInt) := by
    rw [fb_mulL (by rw [ed, e2]; omega) (by rw [ed, e2]; omega), ed, e2]
  rw [fb_subL (by rw [em]; omega) (by rw [em]; omega), em]
  omega
theorem ofI64 {x : Int64} {n : Nat} (h : x.toInt = (n : Int)) : Int64.ofInt (n : Int) = x := by
  rw [← h]
  exact Int64.ofInt_toInt x
theorem z64 {x : Int64} : x = 0 ↔ x.toInt = 0 := by
  rw [fa_eq64]
  have e0 : (0 : Int64).toInt = 0 := by decide
  rw [e0]
theorem lp_common {d rc rs : Nat} {σ : XH} {Q : XV → XH → Prop} : ∀ (f a b : Nat) (x y : Int64), a ≤ f → x.toInt = (a : Int) → y.toInt = (b : Int) → Q (vL (Int64.ofInt ((Nat.gcd a b : Nat) : Int))) σ → Ex d rc rs m_X11_common 17 [vU, vU, vU, vU, vU, vL x, vU, vL y, vU, vU, vU] [] σ Q := by
  intro f
  induction f with
  | zero =>
    intro a b x y haf hx hy hQ
    have ha : a = 0 := by omega
    subst ha
    rw [Nat.gcd_zero_left, ofI64 hy] at hQ
    refine sX11_common_17 ?_
    unfold bX11_common_17
    rw [lgc_eq]
    exact ⟨fun _ => hQ, fun z => absurd (z64.mpr (by rw [hx]; rfl)) z⟩
  | succ f ih =>
    intro a b x y haf hx hy hQ
    refine sX11_common_17 ?_
    unfold bX11_common_17
    rw [lgc_eq]
    refine ⟨fun z => ?_, fun z => ⟨z, ?_⟩⟩
    · have h0 := z64.mp z
      have ha : a = 0 := by omega
      subst ha
      rw [Nat.gcd_zero_left, ofI64 hy] at hQ
      exact hQ
    · have hne : ¬ a = 0 := fun q => z (z64.mpr (by rw [hx, q]; rfl))
      have hm := Nat.mod_lt b (show 0 < a by omega)
      refine ih (b % a) a (y - y / x * x) x (by omega) ?_ hx ?_
      · rw [remL (by omega) (by omega), hx, hy]
        rfl
      · rw [← Nat.gcd_rec]
        exact hQ
theorem abs_n {A : Int64} (h : -9223372036854775808 < A.toInt) : (if A < 0 then -A else A).toInt = (A.toInt.natAbs : Int) := by
  have e0 : (0 : Int64).toInt = 0 := by decide
  have r := fb_rngL A
  split
  · rename_i z
    rw [fa_lt64, e0] at z
    have : (-A).toInt = -A.toInt := by
      rw [Int64.toInt_neg, fb_bmodL (by omega) (by omega)]
    rw [this]
    omega
  · rename_i z
    rw [fa_lt64, e0] at z
    omega
theorem sp_X11_common {d : Nat} {A B : Int64} {σ : XH} {Q : XV → XH → Prop} (hA : -9223372036854775808 < A.toInt) (hB : 0 < B.toInt) (hQ : Q (vL (gcL A B)) σ) : Ec d 0 0 m_X11_common [vR (some (12, 0)), vL A, vL B] σ Q := by
  have ha := abs_n hA
  have hb : B.toInt = (B.toInt.natAbs : Int) := by omega
  refine Ec_of mo_X11_common.1 (Nat.le_of_ble_eq_true rfl) ?_
  refine sX11_common_0 ?_
  unfold bX11_common_0
  rw [lgc_lt]
  have go : ∀ x : Int64, x = (if A < 0 then -A else A) → Ex d 0 0 m_X11_common 12 [vU, vU, vU, vL B, vU, vU, vU, vU, vU, vU, vU] [vL x] σ Q := fun x ex => by
    refine sX11_common_12 ?_
    unfold bX11_common_12
    rw [ex]
    exact lp_common _ _ _ _ _ (Nat.le_refl _) ha hb hQ
  refine ⟨fun z => go _ (by rw [if_pos z]), fun z => go _ (by rw [if_neg z])⟩
theorem gcL_pos {A B : Int64} (hB : 0 < B.toInt) : 0 < (gcL A B).toInt := by
  have r := fb_rngL B
  have h1 : 0 < Nat.gcd A.toInt.natAbs B.toInt.natAbs := Nat.gcd_pos_of_pos_right _ (by omega)
  have h2 : Nat.gcd A.toInt.natAbs B.toInt.natAbs ≤ B.toInt.natAbs := Nat.le_of_dvd (by omega) (Nat.gcd_dvd_right _ _)
  unfold gcL
  rw [Int64.toInt_ofInt, fb_bmodL (by omega) (by omega)]
  omega
