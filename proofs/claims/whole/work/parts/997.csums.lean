/-! ===== sum, distance, rest: the class ===== -/
theorem sp_X10_gathersSum {d : Nat} {h dd : Int32} {S : SS} {ρ : List Nat} {σ : XH} {Q : XV → XH → Prop} (hd : 8 ≤ d) (hI : SInv S) (hO : OrI S) (hSt : StI S) (hU : RuI S) (hC : CCt σ S ρ)
    (q0 : ¬ inP h 0 2 ∨ ¬ inP dd 0 9999 → Q (vI 0) σ)
    (q1 : ¬ (¬ inP h 0 2 ∨ ¬ inP dd 0 9999) → 0 < (smA S h dd 0).2 → ∀ σ', Fi (tl [9, 107, 108, 109, 110, 111, 112]) σ σ' → TY σ' S h dd (CL S h dd) → Q (vI 1) (TW σ' (smA S h dd 0).1 (smA S h dd 0).2))
    (q2 : ¬ (¬ inP h 0 2 ∨ ¬ inP dd 0 9999) → ¬ 0 < (smA S h dd 0).2 → ∀ σ', Fi (tl [9, 107, 108, 109, 110, 111, 112]) σ σ' → TY σ' S h dd (CL S h dd) → Q (vI 0) (TW σ' (smA S h dd 0).1 (smA S h dd 0).2)) : Ec d 0 0 m_X10_gathersSum [vR (some (11, 0)), vI h, vI dd] σ Q := by
  have hX := hC.1.1
  refine Ec_of mo_X10_gathersSum.1 (Nat.le_of_ble_eq_true rfl) ?_
  refine sX10_gathersSum_0 ⟨by omega, sp_X10_isHouse (by omega) (fun c1 => br_f (by decide) ⟨by omega, sp_X10_isDay (by omega) (fun c2 => br_f (by decide) ⟨by omega, sp_X10_gather (by omega) hI hO hSt hU hC (fun σ1 k1 k2 => ?_)⟩) (fun c2 => br_t rfl (sX10_gathersSum_14 ⟨Or.inl rfl, q0 (Or.inr c2)⟩))⟩) (fun c1 => br_t rfl (sX10_gathersSum_14 ⟨Or.inl rfl, q0 (Or.inl c1)⟩))⟩
  have hX1 : CFX σ1 := hX.fi k1 rfl rfl rfl
  have nn : ¬ (¬ inP h 0 2 ∨ ¬ inP dd 0 9999) := fun z => z.elim (fun y => y c1) (fun y => y c2)
  exact ⟨hX1.k11_10, by omega, sp_X8_solves (by omega) hX1 hI k2 (fun z => ⟨Or.inr rfl, q1 nn z σ1 k1 k2⟩) (fun z => ⟨Or.inl rfl, q2 nn z σ1 k1 k2⟩)⟩
theorem lp_cdiv {d rc rs : Nat} {σ : XH} {Q : XV → XH → Prop} : ∀ (f i a b : Nat) (x y : Int64), i + f + 1 ≤ 200 → b ≤ a → a * b < 2 ^ f → x.toInt = (a : Int) → y.toInt = (b : Int) → Q (vL (Int64.ofInt ((Nat.gcd b a : Nat) : Int))) σ → Ex d rc rs m_X10_commonDivisor 9 [vU, vU, vU, vU, vL x, vU, vL y, vU, vI (nI i), vU, vU] [] σ Q := by
  intro f
  have fin : ∀ (i a : Nat) (x y : Int64), i < 200 → x.toInt = (a : Int) → y.toInt = 0 → Q (vL (Int64.ofInt ((Nat.gcd 0 a : Nat) : Int))) σ → Ex d rc rs m_X10_commonDivisor 9 [vU, vU, vU, vU, vL x, vU, vL y, vU, vI (nI i), vU, vU] [] σ Q := fun i a x y hi_ hx hy hQ => by
    rw [Nat.gcd_zero_left, ofI64 hx] at hQ
    refine sX10_commonDivisor_9 ?_
    unfold bX10_commonDivisor_9
    rw [lgc_eq]
    exact ⟨fun _ => ⟨fun _ => sX10_commonDivisor_45 hQ, fun z => absurd (z64.mpr hy) z⟩, fun z => absurd ((c_lt (n := i) (N := 200) (by omega) (by omega)).mpr hi_) z⟩
  induction f with
  | zero =>
    intro i a b x y hif hba hab hx hy hQ
    have hb : b = 0 := by
      rcases Nat.eq_zero_or_pos b with z | z
      · exact z
      · have : 1 ≤ a * b := Nat.mul_pos (by omega) z
        rw [Nat.pow_zero] at hab
        omega
    subst hb
    exact fin i a x y (by omega) hx hy hQ
  | succ f ih =>
    intro i a b x y hif hba hab hx hy hQ
    rcases Nat.eq_zero_or_pos b with z | z
    · subst z
      exact fin i a x y (by omega) hx hy hQ
    · refine sX10_commonDivisor_9 ?_
      unfold bX10_commonDivisor_9
      rw [lgc_eq]
      have hne : ¬ y = 0 := fun q => by
        have := z64.mp q
        omega
      refine ⟨fun _ => ⟨fun q => absurd q hne, fun _ => ⟨hne, ?_⟩⟩, fun q => absurd ((c_lt (n := i) (N := 200) (by omega) (by omega)).mpr (by omega)) q⟩
      rw [nI_1]
      have hm := Nat.mod_lt a z
      have hdm := Nat.div_add_mod a b
      have hq1 : 1 ≤ a / b := (Nat.le_div_iff_mul_le z).mpr (by omega)
      have hbq : b ≤ b * (a / b) := Nat.le_mul_of_pos_right b hq1
      have h2r : 2 * (a % b) ≤ a := by omega
      have hmul : b * (2 * (a % b)) ≤ b * a := Nat.mul_le_mul_left b h2r
      have e1 : b * (2 * (a % b)) = 2 * (b * (a % b)) := by rw [Nat.mul_left_comm]
      have e2 : b * a = a * b := Nat.mul_comm b a
      have hp : (2 : Nat) ^ (f + 1) = 2 * 2 ^ f := by rw [Nat.pow_succ, Nat.mul_comm]
      refine ih (i + 1) b (a % b) y (x - x / y * y) (by omega) (by omega) (by omega) hy ?_ ?_
      · rw [remL (by omega) (by omega), hx, hy]
        rfl
      · rw [← Nat.gcd_rec]
        exact hQ
theorem sp_X10_commonDivisor {d : Nat} {A B x : Int64} {σ : XH} {Q : XV → XH → Prop} (hx : x.toInt = (A.toInt.natAbs : Int)) (hA : A.toInt.natAbs < 2 ^ 50) (hB : 0 < B.toInt) (hB2 : B.toInt < 2 ^ 27) (hQ : Q (vL (gcL A B)) σ) : Ec d 0 0 m_X10_commonDivisor [vL x, vL B] σ Q := by
  have hb : B.toInt = (B.toInt.natAbs : Int) := by omega
  have hbn : B.toInt.natAbs < 2 ^ 27 := by omega
  have hprod : A.toInt.natAbs * B.toInt.natAbs < 2 ^ 77 := by
    have h1 : A.toInt.natAbs * B.toInt.natAbs ≤ 2 ^ 50 * B.toInt.natAbs := Nat.mul_le_mul_right _ (by omega)
    have h2 : 2 ^ 50 * B.toInt.natAbs < 2 ^ 50 * 2 ^ 27 := Nat.mul_lt_mul_of_pos_left hbn (by decide)
    have e : (2 : Nat) ^ 77 = 2 ^ 50 * 2 ^ 27 := by decide
    omega
  refine Ec_of mo_X10_commonDivisor.1 (Nat.le_of_ble_eq_true rfl) ?_
  refine sX10_commonDivisor_0 ?_
  unfold bX10_commonDivisor_0
  unfold gcL at hQ
  by_cases c : B.toInt.natAbs ≤ A.toInt.natAbs
  · refine lp_cdiv 77 0 A.toInt.natAbs B.toInt.natAbs x B (by omega) c hprod hx hb ?_
    rw [Nat.gcd_comm]
    exact hQ
  · refine sX10_commonDivisor_9 ?_
    unfold bX10_commonDivisor_9
    rw [lgc_eq]
    have hne : ¬ B = 0 := fun q => by
      have := z64.mp q
      omega
    refine ⟨fun _ => ⟨fun q => absurd q hne, fun _ => ⟨hne, ?_⟩⟩, fun q => absurd (by decide) q⟩
    have hmod : (A.toInt.natAbs : Nat) % B.toInt.natAbs = A.toInt.natAbs := Nat.mod_eq_of_lt (by omega)
    refine lp_cdiv 77 1 B.toInt.natAbs A.toInt.natAbs B (x - x / B * B) (by omega) (by omega) (by rw [Nat.mul_comm]; exact hprod) hb ?_ hQ
    rw [remL hB (by omega), hx, hb]
    have e : ((A.toInt.natAbs : Int)) % ((B.toInt.natAbs : Int)) = ((A.toInt.natAbs % B.toInt.natAbs : Nat) : Int) := rfl
    rw [e, hmod]
theorem sp_X10_sum {d : Nat} {h dd w : Int32} {S : SS} {ρ : List Nat} {σ : XH} {Q : XV → XH → Prop} (hd : 9 ≤ d) (hI : SInv S) (hO : OrI S) (hSt : StI S) (hTb : TbI S) (hU : RuI S) (hC : CCt σ S ρ) (hQ : ∀ σ', Fi (tl [9, 107, 108, 109, 110, 111, 112]) σ σ' → Q (vL (sumG S h dd w)) σ') : Ec d 0 0 m_X10_sum [vR (some (11, 0)), vI h, vI dd, vI w] σ Q := by
  have hX := hC.1.1
  have hb := smA_bd hI hU hSt hTb h dd 0
  unfold sumG at hQ
  have tw : ∀ {σ1 : XH}, Fi (tl [9, 107, 108, 109, 110, 111, 112]) σ σ1 → Fi (tl [9, 107, 108, 109, 110, 111, 112]) σ (TW σ1 (smA S h dd 0).1 (smA S h dd 0).2) := fun k => k.trans ((TW_fi _ _ _).sub (tl_sub (by decide)))
  refine Ec_of mo_X10_sum.1 (Nat.le_of_ble_eq_true rfl) ?_
  refine sX10_sum_0 ⟨by omega, sp_X10_within (fun c3 => br_f (by decide) ⟨by omega, sp_X10_gathersSum (by omega) hI hO hSt hU hC (fun c => br_t rfl (sX10_sum_18 ?_)) (fun c z σ1 k1 k2 => br_f (by decide) ?_) (fun c z σ1 k1 k2 => br_t rfl (sX10_sum_18 ?_))⟩) (fun c3 => br_t rfl (sX10_sum_18 ?_))⟩
  · rw [if_pos (c.elim Or.inl (fun y => Or.inr (Or.inl y)))] at hQ
    exact hQ σ (Fi.rf _ _)
  · have hq := hQ _ (tw k1)
    rw [if_neg (fun q => q.elim (fun y => c (Or.inl y)) (fun q => q.elim (fun y => c (Or.inr y)) (fun y => y c3))), if_neg (fun y => y z)] at hq
    have hX1 : CFX σ1 := hX.fi k1 rfl rfl rfl
    have hX2 := hX1.TW (smA S h dd 0).1 (smA S h dd 0).2
    rw [TW_8]
    refine ⟨hX2.k11_10, by omega, sp_absL ⟨hX2.k11_10, by omega, ?_⟩⟩
    rw [TW_9]
    have hab : (abL (smA S h dd 0).1).toInt = ((smA S h dd 0).1.toInt.natAbs : Int) := abs_n (by omega)
    refine sp_X10_commonDivisor (A := (smA S h dd 0).1) hab (by omega) (pos64.mp z) (by omega) ?_
    dsimp only [kL]
    rw [lgc_gt, TW_8, TW_9]
    have hg := gcL_pos (A := (smA S h dd 0).1) (pos64.mp z)
    have hne : ¬ gcL (smA S h dd 0).1 (smA S h dd 0).2 = 0 := fun y => by
      rw [y] at hg
      exact absurd hg (by decide)
    refine ⟨fun _ => ⟨fun y => ⟨hX2.k11_10, hne, sX10_sum_82 ?_⟩, fun y => ⟨hX2.k11_10, hne, sX10_sum_82 ?_⟩⟩, fun y => absurd (pos64.mpr hg) y⟩
    · rw [if_pos y] at hq; exact hq
    · rw [if_neg y] at hq; exact hq
  · have hq := hQ _ (tw k1)
    rw [if_neg (fun q => q.elim (fun y => c (Or.inl y)) (fun q => q.elim (fun y => c (Or.inr y)) (fun y => y c3))), if_pos z] at hq
    exact hq
  · rw [if_pos (Or.inr (Or.inr c3))] at hQ
    exact hQ σ (Fi.rf _ _)
theorem sp_X8_together {d : Nat} {h dd p : Int32} {σ : XH} {S : SS} {Q : XV → XH → Prop} (hd : 2 ≤ d) (hX : CFX σ) (hI : SInv S) (hS : StI S) (hY : TY σ S h dd (CL S h dd)) (hp : 0 ≤ p.toInt ∧ p.toInt ≤ 99999) (hQ : Q (vL (tgF S h dd p (CL S h dd) (CL S h dd).length)) σ) : Ec d 0 0 m_X8_together [vR (some (9, 0)), vI p] σ Q := by
  have hl := CL_len hI h dd
  have lp : ∀ (m k : Nat), k + m = (CL S h dd).length → Ex d 0 0 m_X8_together 5 [vR (some (9, 0)), vI p, vL (tgF S h dd p (CL S h dd) k), vU, vI (nI k), vU, vU] [] σ Q := by
    intro m
    induction m with
    | zero =>
      intro k hkm
      have ek : k = (CL S h dd).length := by omega
      refine sX8_together_5 ?_
      unfold bX8_together_5
      rw [hY.1, ek]
      refine ⟨fun q => ?_, fun _ => hQ⟩
      have := (c_lt (by omega) (by omega)).mp q
      omega
    | succ m ih =>
      intro k hkm
      have hk : k < (CL S h dd).length := by omega
      obtain ⟨y1, y2, y3, y4, y5⟩ := hY.2 k _ (getD_at hk)
      refine sX8_together_5 ?_
      unfold bX8_together_5
      rw [hY.1]
      refine ⟨fun _ => ⟨by omega, sp_X8_restAt (by omega) hX hI hS hY hk hp ⟨hX.k9_2, vp_at hX.n109 (vp_in_nI (by omega) (by omega)), ?_⟩⟩, fun q => absurd ((c_lt (by omega) (by omega)).mpr hk) q⟩
      rw [nI_clamp (by omega), y3, nI_1]
      exact ih (k + 1) (by omega)
  refine Ec_of mo_X8_together.1 (Nat.le_of_ble_eq_true rfl) ?_
  refine sX8_together_0 ?_
  unfold bX8_together_0
  exact lp (CL S h dd).length 0 (by omega)
theorem sp_X10_distance {d : Nat} {h dd w : Int32} {S : SS} {ρ : List Nat} {σ : XH} {Q : XV → XH → Prop} (hd : 9 ≤ d) (hI : SInv S) (hO : OrI S) (hSt : StI S) (hU : RuI S) (hC : CCt σ S ρ) (hQ : ∀ σ', Fi (tl [9, 107, 108, 109, 110, 111, 112]) σ σ' → Q (vI (distanceG S h dd w)) σ') : Ec d 0 0 m_X10_distance [vR (some (11, 0)), vI h, vI dd, vI w] σ Q := by
  have hX := hC.1.1
  unfold distanceG at hQ
  have tw : ∀ {σ1 : XH}, Fi (tl [9, 107, 108, 109, 110, 111, 112]) σ σ1 → Fi (tl [9, 107, 108, 109, 110, 111, 112]) σ (TW σ1 (smA S h dd 0).1 (smA S h dd 0).2) := fun k => k.trans ((TW_fi _ _ _).sub (tl_sub (by decide)))
  refine Ec_of mo_X10_distance.1 (Nat.le_of_ble_eq_true rfl) ?_
  refine sX10_distance_0 ⟨by omega, sp_X10_within (fun c3 => br_f (by decide) ⟨by omega, sp_X10_gathersSum (by omega) hI hO hSt hU hC (fun c => br_t rfl (sX10_distance_18 ?_)) (fun c z σ1 k1 k2 => br_f (by decide) ?_) (fun c z σ1 k1 k2 => br_t rfl (sX10_distance_18 ?_))⟩) (fun c3 => br_t rfl (sX10_distance_18 ?_))⟩
  · rw [if_pos (c.elim Or.inl (fun y => Or.inr (Or.inl y)))] at hQ
    exact hQ σ (Fi.rf _ _)
  · have hq := hQ _ (tw k1)
    rw [if_neg (fun q => q.elim (fun y => c (Or.inl y)) (fun q => q.elim (fun y => c (Or.inr y)) (fun y => y c3))), if_neg (fun y => y z)] at hq
    have hX1 : CFX σ1 := hX.fi k1 rfl rfl rfl
    have hX2 := hX1.TW (smA S h dd 0).1 (smA S h dd 0).2
    refine ⟨hX2.k11_10, by omega, sp_X8_bestDistance (by omega) z ?_⟩
    refine ⟨fun y => sX10_distance_53 ?_, fun y => ⟨hX2.k11_10, by omega, sp_X8_together (by omega) hX2 hI hSt (k2.TW _ _) (ds_rng _ _) ⟨by decide, sX10_distance_53 ?_⟩⟩⟩
    · rw [if_pos y] at hq; exact hq
    · rw [if_neg y] at hq; exact hq
  · have hq := hQ _ (tw k1)
    rw [if_neg (fun q => q.elim (fun y => c (Or.inl y)) (fun q => q.elim (fun y => c (Or.inr y)) (fun y => y c3))), if_pos z] at hq
    exact hq
  · rw [if_pos (Or.inr (Or.inr c3))] at hQ
    exact hQ σ (Fi.rf _ _)
theorem p_rng {p : Int32} (h : inP p 0 99999) : 0 ≤ p.toInt ∧ p.toInt ≤ 99999 := by
  rw [inP_iff, fa_lt, fa_lt] at h
  have e0 : (0 : Int32).toInt = 0 := by decide
  have e1 : (99999 : Int32).toInt = 99999 := by decide
  omega
theorem sp_X10_rest {d : Nat} {h dd x p : Int32} {S : SS} {ρ : List Nat} {σ : XH} {Q : XV → XH → Prop} (hd : 9 ≤ d) (hI : SInv S) (hO : OrI S) (hSt : StI S) (hU : RuI S) (hC : CCt σ S ρ) (hQ : ∀ σ', Fi (tl [9, 107, 108, 109, 110, 111, 112]) σ σ' → Q (vI (restG S h dd x p)) σ') : Ec d 0 0 m_X10_rest [vR (some (11, 0)), vI h, vI dd, vI x, vI p] σ Q := by
  have hl := CL_len hI h dd
  have hX := hC.1.1
  unfold restG at hQ
  refine Ec_of mo_X10_rest.1 (Nat.le_of_ble_eq_true rfl) ?_
  refine sX10_rest_0 ⟨by omega, sp_X10_within (fun c4 => br_f (by decide) ⟨by omega, sp_X10_gatheredAt (by omega) hI hO hSt hU hC (fun c => ?_) (fun c σ1 k1 k2 => ?_)⟩) (fun c4 => br_t rfl ?_)⟩
  · rw [if_pos (c.elim Or.inl (fun y => Or.inr (Or.inl y)))] at hQ
    exact ⟨fun _ => sX10_rest_44 (hQ σ (Fi.rf _ _)), fun z => absurd (by decide) z⟩
  · have hq := hQ σ1 k1
    rw [if_neg (fun q => q.elim (fun y => c (Or.inl y)) (fun q => q.elim (fun y => c (Or.inr y)) (fun y => y c4)))] at hq
    have hX1 : CFX σ1 := hX.fi k1 rfl rfl rfl
    refine ⟨fun z => sX10_rest_44 ?_, fun z => ⟨hX1.k11_10, by omega, ?_⟩⟩
    · rw [if_pos z] at hq; exact hq
    · rw [if_neg z] at hq
      rcases plL_in (CL S h dd) 0 x with e | ⟨j, r, p1, p2, p3⟩
      · rw [e] at z
        exact absurd (by decide) z
      · rw [Nat.zero_add] at p3
        rw [p3] at hq ⊢
        have hj := (List.getElem?_eq_some_iff.mp p1).1
        rw [nI_clamp (by omega)] at hq
        exact sp_X8_restAt (by omega) hX1 hI hSt k2 hj (p_rng c4) (sX10_rest_44 hq)
  · rw [if_pos (Or.inr (Or.inr c4))] at hQ
    exact hQ σ (Fi.rf _ _)
