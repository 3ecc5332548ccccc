/-! ===== the class: small methods ===== -/
theorem sp_X10_within {d : Nat} {a b c : Int32} {σ : XH} {Q : XV → XH → Prop}   (h1 : inP a b c → Q (vI 1) σ) (h0 : ¬ (inP a b c) → Q (vI 0) σ) : Ec d 0 0 m_X10_within [vI a, vI b, vI c] σ Q := by
  refine Ec_of mo_X10_within.1 (Nat.le_of_ble_eq_true rfl) ?_
  refine sX10_within_0 ?_
  unfold bX10_within_0
  refine ⟨fun c2 => ?_, fun c2 => ?_⟩
  · refine sX10_within_14 ?_
    unfold bX10_within_14
    refine sX10_within_15 ?_
    unfold bX10_within_15
    refine ⟨by simp, ?_⟩
    first | refine h1 ?_ | refine h0 ?_
    rw [inP_iff]
    simp_all
  · refine ⟨fun c7 => ?_, fun c7 => ?_⟩
    · refine sX10_within_14 ?_
      unfold bX10_within_14
      refine sX10_within_15 ?_
      unfold bX10_within_15
      refine ⟨by simp, ?_⟩
      first | refine h1 ?_ | refine h0 ?_
      rw [inP_iff]
      simp_all
    · refine sX10_within_15 ?_
      unfold bX10_within_15
      refine ⟨by simp, ?_⟩
      first | refine h1 ?_ | refine h0 ?_
      rw [inP_iff]
      simp_all
theorem sp_X10_isTime {d : Nat} {a : Int32} {σ : XH} {Q : XV → XH → Prop} (hd : 1 ≤ d)  (h1 : inP a 0 999999 → Q (vI 1) σ) (h0 : ¬ (inP a 0 999999) → Q (vI 0) σ) : Ec d 0 0 m_X10_isTime [vI a] σ Q := by
  refine Ec_of mo_X10_isTime.1 (Nat.le_of_ble_eq_true rfl) ?_
  refine sX10_isTime_0 ?_
  unfold bX10_isTime_0
  refine ⟨by omega, ?_⟩
  refine sp_X10_within (fun c => ?_) (fun c => ?_)
  · refine ⟨by decide, ?_⟩
    exact h1 c
  · refine ⟨by decide, ?_⟩
    exact h0 c
theorem sp_X10_isDay {d : Nat} {a : Int32} {σ : XH} {Q : XV → XH → Prop} (hd : 1 ≤ d)  (h1 : inP a 0 9999 → Q (vI 1) σ) (h0 : ¬ (inP a 0 9999) → Q (vI 0) σ) : Ec d 0 0 m_X10_isDay [vI a] σ Q := by
  refine Ec_of mo_X10_isDay.1 (Nat.le_of_ble_eq_true rfl) ?_
  refine sX10_isDay_0 ?_
  unfold bX10_isDay_0
  refine ⟨by omega, ?_⟩
  refine sp_X10_within (fun c => ?_) (fun c => ?_)
  · refine ⟨by decide, ?_⟩
    exact h1 c
  · refine ⟨by decide, ?_⟩
    exact h0 c
theorem sp_X10_isHand {d : Nat} {a : Int32} {σ : XH} {Q : XV → XH → Prop} (hd : 1 ≤ d)  (h1 : inP a 0 5 → Q (vI 1) σ) (h0 : ¬ (inP a 0 5) → Q (vI 0) σ) : Ec d 0 0 m_X10_isHand [vI a] σ Q := by
  refine Ec_of mo_X10_isHand.1 (Nat.le_of_ble_eq_true rfl) ?_
  refine sX10_isHand_0 ?_
  unfold bX10_isHand_0
  refine ⟨by omega, ?_⟩
  refine sp_X10_within (fun c => ?_) (fun c => ?_)
  · refine ⟨by decide, ?_⟩
    exact h1 c
  · refine ⟨by decide, ?_⟩
    exact h0 c
theorem sp_X10_isHouse {d : Nat} {a : Int32} {σ : XH} {Q : XV → XH → Prop} (hd : 1 ≤ d)  (h1 : inP a 0 2 → Q (vI 1) σ) (h0 : ¬ (inP a 0 2) → Q (vI 0) σ) : Ec d 0 0 m_X10_isHouse [vI a] σ Q := by
  refine Ec_of mo_X10_isHouse.1 (Nat.le_of_ble_eq_true rfl) ?_
  refine sX10_isHouse_0 ?_
  unfold bX10_isHouse_0
  refine ⟨by omega, ?_⟩
  refine sp_X10_within (fun c => ?_) (fun c => ?_)
  · refine ⟨by decide, ?_⟩
    exact h1 c
  · refine ⟨by decide, ?_⟩
    exact h0 c
theorem sp_X10_isEdgeNumber {d : Nat} {a : Int32} {σ : XH} {Q : XV → XH → Prop} (hd : 1 ≤ d)  (h1 : inP a 1 4 → Q (vI 1) σ) (h0 : ¬ (inP a 1 4) → Q (vI 0) σ) : Ec d 0 0 m_X10_isEdgeNumber [vI a] σ Q := by
  refine Ec_of mo_X10_isEdgeNumber.1 (Nat.le_of_ble_eq_true rfl) ?_
  refine sX10_isEdgeNumber_0 ?_
  unfold bX10_isEdgeNumber_0
  refine ⟨by omega, ?_⟩
  refine sp_X10_within (fun c => ?_) (fun c => ?_)
  · refine ⟨by decide, ?_⟩
    exact h1 c
  · refine ⟨by decide, ?_⟩
    exact h0 c
theorem drf_of {r : Option XO} {ci i : Nat} {K : Nat → Prop} (e : r = some (ci, i)) (h : K i) : drf r ci K := by
  rw [e, drf_lit]
  exact h
theorem cst_of {r : Option XO} {ci i : Nat} {K : Option XO → Prop} (e : r = some (ci, i)) (h : K (some (ci, i))) : cst r ci K := by
  rw [e, cst_lit]
  exact h
theorem gS_nI (S : SS) (s : Nat) {r : Nat} (h : r < 100000) : gS S s (nI r) = S s r := by
  show S s (nI r).toNatClampNeg = S s r
  rw [nI_clamp (by omega)]
theorem some_ne {o : XO} : ¬ (some o : Option XO) = none := fun z => by cases z
theorem lp_under {d rc rs j : Nat} {k x y i : Int32} {σ : XH} {Q : XV → XH → Prop} (hX : CFX σ) (hx : x = nI j) (hj : aboveC[j]? = some y) (hi8 : i < 8) (h1 : x = k → Q (vI 1) σ) (hn : ¬ x = k → Ex d rc rs m_X10_isUnder 4 [vU, vI k, vI y, vI (i + 1)] [] σ Q) : Ex d rc rs m_X10_isUnder 4 [vU, vI k, vI x, vI i] [] σ Q := by
  have hlt : j < 8 := (List.getElem?_eq_some_iff.mp hj).1
  subst hx
  refine sX10_isUnder_4 ?_
  unfold bX10_isUnder_4
  refine br_t hi8 (br_f (nI_pos (by omega)) (br_t (nI_lt (b := 8) hlt (by omega)) ⟨fun c => ⟨Or.inr rfl, h1 c⟩, fun c => ⟨?_, ?_⟩⟩))
  · rw [hX.n500]
    exact vp_in_nI hlt (by omega)
  · rw [nI_clamp (by omega), hX.2.2.2.2.1 j y hj]
    exact hn c
theorem lp_under0 {d rc rs : Nat} {k i : Int32} {σ : XH} {Q : XV → XH → Prop} (h0 : Q (vI 0) σ) : Ex d rc rs m_X10_isUnder 4 [vU, vI k, vI (-1), vI i] [] σ Q := by
  have e : Ex d rc rs m_X10_isUnder 39 [vU, vU, vU, vU] [] σ Q := by
    refine sX10_isUnder_39 ?_
    exact ⟨Or.inl rfl, h0⟩
  refine sX10_isUnder_4 ?_
  unfold bX10_isUnder_4
  exact ⟨fun _ => br_t (by decide) e, fun _ => e⟩
def undP (x k : Int32) : Prop := x = k ∨ k = 0 ∨ (x = 4 ∧ k = 3)
theorem sp_X10_isUnder {d : Nat} {x k : Int32} {σ : XH} {Q : XV → XH → Prop} (hX : CFX σ) (hx : inP x 0 7) (h1 : undP x k → Q (vI 1) σ) (h0 : ¬ undP x k → Q (vI 0) σ) : Ec d 0 0 m_X10_isUnder [vI x, vI k] σ Q := by
  refine Ec_of mo_X10_isUnder.1 (Nat.le_of_ble_eq_true rfl) ?_
  refine sX10_isUnder_0 ?_
  unfold bX10_isUnder_0
  have up0 : ∀ i : Int32, i < 8 → ¬ x = k → (¬ (x = 4 ∧ k = 3)) → Ex d 0 0 m_X10_isUnder 4 [vU, vI k, vI 0, vI i] [] σ Q := fun i hi c1 c2 =>
    lp_under (j := 0) (y := -1) hX nI_0.symm rfl hi (fun c => h1 (Or.inr (Or.inl c.symm))) (fun c => lp_under0 (h0 (fun z => z.elim c1 (fun z => z.elim (fun z => c z.symm) c2))))
  have hv := vp_in_nI (n := 0) (N := 1) (by omega) (by omega)
  rw [inP_iff] at hx
  obtain ⟨j, hj, e⟩ := nI_of2 (M := 7) (n := 7) (by decide) hx.1 (by rw [fa_le]; have := hx.2; rw [fa_lt] at this; omega)
  subst e
  have go : ∀ y : Int32, aboveC[j]? = some y → (y = 0 → ¬ nI j = 4 → Ex d 0 0 m_X10_isUnder 4 [vU, vI k, vI (nI j), vI 0] [] σ Q) := fun y hy ey h4 => by
    subst ey
    exact lp_under hX rfl hy (by decide) (fun c => h1 (Or.inl c)) (fun c => up0 _ (by decide) c (fun z => h4 z.1))
  match j, hj with
  | 0, _ => exact lp_under (j := 0) (y := -1) hX rfl rfl (by decide) (fun c => h1 (Or.inl c)) (fun c => lp_under0 (h0 (fun z => z.elim c (fun z => z.elim (fun z => c (by rw [z]; decide)) (fun z => absurd z.1 (by decide))))))
  | 1, _ => exact go 0 rfl rfl (by decide)
  | 2, _ => exact go 0 rfl rfl (by decide)
  | 3, _ => exact go 0 rfl rfl (by decide)
  | 5, _ => exact go 0 rfl rfl (by decide)
  | 6, _ => exact go 0 rfl rfl (by decide)
  | 7, _ => exact go 0 rfl rfl (by decide)
  | 4, _ =>
    refine lp_under (j := 4) (y := 3) hX rfl rfl (by decide) (fun c => h1 (Or.inl c)) (fun c => ?_)
    refine lp_under (j := 3) (y := 0) hX (by decide) rfl (by decide) (fun c3 => h1 (Or.inr (Or.inr ⟨by decide, c3.symm⟩))) (fun c3 => ?_)
    exact up0 _ (by decide) c (fun z => c3 z.2.symm)

abbrev fitP (k s m : Int32) : Prop := if k = 1 then inP m 0 999999 else if k = 2 then inP m 0 999999 else if k = 3 then inP m 1 4 else if k = 4 then inP m s 999999 else if k = 5 then 0 < m ∧ inP (m / 1000) 1 4 ∧ inP (m - m / 1000 * 1000) 401 599 else False
theorem sp_X10_fitsKind {d : Nat} {a b c : Int32} {σ : XH} {Q : XV → XH → Prop} (hd : 2 ≤ d) (h1 : fitP a b c → Q (vI 1) σ) (h0 : ¬ (fitP a b c) → Q (vI 0) σ) : Ec d 0 0 m_X10_fitsKind [vI a, vI b, vI c] σ Q := by
  refine Ec_of mo_X10_fitsKind.1 (Nat.le_of_ble_eq_true rfl) ?_
  refine sX10_fitsKind_0 ?_
  unfold bX10_fitsKind_0
  refine ⟨fun e1_1 => ?_, fun e1_1 => ?_⟩
  · refine ⟨by omega, ?_⟩
    refine sp_X10_isTime (by omega) (fun c => ?_) (fun c => ?_)
    · refine ⟨by simp, ?_⟩
      first | refine h1 ?_ | refine h0 ?_
      first | (simp_all [inP, fitP]; done) | ((try simp only [inP] at *); simp (config := {decide := true}) only [fitP, inP, *, if_true, if_false, true_and, and_true, false_and, and_false, true_or, or_true, false_or, or_false, not_true, not_false_iff, and_self, Classical.not_not, eq_self, ite_self, reduceIte]; done)
    · refine ⟨by simp, ?_⟩
      first | refine h1 ?_ | refine h0 ?_
      first | (simp_all [inP, fitP]; done) | ((try simp only [inP] at *); simp (config := {decide := true}) only [fitP, inP, *, if_true, if_false, true_and, and_true, false_and, and_false, true_or, or_true, false_or, or_false, not_true, not_false_iff, and_self, Classical.not_not, eq_self, ite_self, reduceIte]; done)
  · refine ⟨fun e1_2 => ?_, fun e1_2 => ?_⟩
    · refine ⟨by omega, ?_⟩
      refine sp_X10_isTime (by omega) (fun c => ?_) (fun c => ?_)
      · refine ⟨by simp, ?_⟩
        first | refine h1 ?_ | refine h0 ?_
        first | (simp_all [inP, fitP]; done) | ((try simp only [inP] at *); simp (config := {decide := true}) only [fitP, inP, *, if_true, if_false, true_and, and_true, false_and, and_false, true_or, or_true, false_or, or_false, not_true, not_false_iff, and_self, Classical.not_not, eq_self, ite_self, reduceIte]; done)
      · refine ⟨by simp, ?_⟩
        first | refine h1 ?_ | refine h0 ?_
        first | (simp_all [inP, fitP]; done) | ((try simp only [inP] at *); simp (config := {decide := true}) only [fitP, inP, *, if_true, if_false, true_and, and_true, false_and, and_false, true_or, or_true, false_or, or_false, not_true, not_false_iff, and_self, Classical.not_not, eq_self, ite_self, reduceIte]; done)
    · refine ⟨fun e1_3 => ?_, fun e1_3 => ?_⟩
      · refine ⟨by omega, ?_⟩
        refine sp_X10_isEdgeNumber (by omega) (fun c => ?_) (fun c => ?_)
        · refine ⟨by simp, ?_⟩
          first | refine h1 ?_ | refine h0 ?_
          first | (simp_all [inP, fitP]; done) | ((try simp only [inP] at *); simp (config := {decide := true}) only [fitP, inP, *, if_true, if_false, true_and, and_true, false_and, and_false, true_or, or_true, false_or, or_false, not_true, not_false_iff, and_self, Classical.not_not, eq_self, ite_self, reduceIte]; done)
        · refine ⟨by simp, ?_⟩
          first | refine h1 ?_ | refine h0 ?_
          first | (simp_all [inP, fitP]; done) | ((try simp only [inP] at *); simp (config := {decide := true}) only [fitP, inP, *, if_true, if_false, true_and, and_true, false_and, and_false, true_or, or_true, false_or, or_false, not_true, not_false_iff, and_self, Classical.not_not, eq_self, ite_self, reduceIte]; done)
      · refine ⟨fun e1_4 => ?_, fun e1_4 => ?_⟩
        · refine ⟨by omega, ?_⟩
          refine sp_X10_within  (fun c => ?_) (fun c => ?_)
          · refine ⟨by simp, ?_⟩
            first | refine h1 ?_ | refine h0 ?_
            first | (simp_all [inP, fitP]; done) | ((try simp only [inP] at *); simp (config := {decide := true}) only [fitP, inP, *, if_true, if_false, true_and, and_true, false_and, and_false, true_or, or_true, false_or, or_false, not_true, not_false_iff, and_self, Classical.not_not, eq_self, ite_self, reduceIte]; done)
          · refine ⟨by simp, ?_⟩
            first | refine h1 ?_ | refine h0 ?_
            first | (simp_all [inP, fitP]; done) | ((try simp only [inP] at *); simp (config := {decide := true}) only [fitP, inP, *, if_true, if_false, true_and, and_true, false_and, and_false, true_or, or_true, false_or, or_false, not_true, not_false_iff, and_self, Classical.not_not, eq_self, ite_self, reduceIte]; done)
        · refine ⟨fun e1_5 => ?_, fun e1_5 => ?_⟩
          · refine ⟨fun c56 => ?_, fun c56 => ?_⟩
            · refine ⟨by decide, ?_⟩
              refine ⟨by omega, ?_⟩
              refine sp_X10_isEdgeNumber (by omega) (fun c => ?_) (fun c => ?_)
              · refine br_f (by decide) ?_
                refine sX10_fitsKind_70 ?_
                unfold bX10_fitsKind_70
                refine ⟨by decide, ?_⟩
                refine ⟨by omega, ?_⟩
                refine sp_X10_within  (fun c => ?_) (fun c => ?_)
                · refine br_f (by decide) ?_
                  refine sX10_fitsKind_92 ?_
                  unfold bX10_fitsKind_92
                  refine ⟨by simp, ?_⟩
                  first | refine h1 ?_ | refine h0 ?_
                  first | (simp_all [inP, fitP]; done) | ((try simp only [inP] at *); simp (config := {decide := true}) only [fitP, inP, *, if_true, if_false, true_and, and_true, false_and, and_false, true_or, or_true, false_or, or_false, not_true, not_false_iff, and_self, Classical.not_not, eq_self, ite_self, reduceIte]; done)
                · refine br_t (rfl) ?_
                  refine sX10_fitsKind_91 ?_
                  unfold bX10_fitsKind_91
                  refine sX10_fitsKind_92 ?_
                  unfold bX10_fitsKind_92
                  refine ⟨by simp, ?_⟩
                  first | refine h1 ?_ | refine h0 ?_
                  first | (simp_all [inP, fitP]; done) | ((try simp only [inP] at *); simp (config := {decide := true}) only [fitP, inP, *, if_true, if_false, true_and, and_true, false_and, and_false, true_or, or_true, false_or, or_false, not_true, not_false_iff, and_self, Classical.not_not, eq_self, ite_self, reduceIte]; done)
              · refine br_t (rfl) ?_
                refine sX10_fitsKind_91 ?_
                unfold bX10_fitsKind_91
                refine sX10_fitsKind_92 ?_
                unfold bX10_fitsKind_92
                refine ⟨by simp, ?_⟩
                first | refine h1 ?_ | refine h0 ?_
                first | (simp_all [inP, fitP]; done) | ((try simp only [inP] at *); simp (config := {decide := true}) only [fitP, inP, *, if_true, if_false, true_and, and_true, false_and, and_false, true_or, or_true, false_or, or_false, not_true, not_false_iff, and_self, Classical.not_not, eq_self, ite_self, reduceIte]; done)
            · refine sX10_fitsKind_91 ?_
              unfold bX10_fitsKind_91
              refine sX10_fitsKind_92 ?_
              unfold bX10_fitsKind_92
              refine ⟨by simp, ?_⟩
              first | refine h1 ?_ | refine h0 ?_
              first | (simp_all [inP, fitP]; done) | ((try simp only [inP] at *); simp (config := {decide := true}) only [fitP, inP, *, if_true, if_false, true_and, and_true, false_and, and_false, true_or, or_true, false_or, or_false, not_true, not_false_iff, and_self, Classical.not_not, eq_self, ite_self, reduceIte]; done)
          · refine ⟨by simp, ?_⟩
            first | refine h1 ?_ | refine h0 ?_
            first | (simp_all [inP, fitP]; done) | ((try simp only [inP] at *); simp (config := {decide := true}) only [fitP, inP, *, if_true, if_false, true_and, and_true, false_and, and_false, true_or, or_true, false_or, or_false, not_true, not_false_iff, and_self, Classical.not_not, eq_self, ite_self, reduceIte]; done)
theorem sp_X10_stationAt {d : Nat} {x : Int32} {S : SS} {ρ : List Nat} {σ : XH} {Q : XV → XH → Prop} (hd : 3 ≤ d) (hX : CFX σ) (hL : LL σ (EL S ρ)) (e : S 12 1 = nI (nSt S)) (en : nSt S ≤ 90) (h1 : ∀ r, r < nSt S → x = nI r → isSt S x → Q (vR (some (8, r))) σ) (h0 : ¬ isSt S x → Q (vR none) σ) : Ec d 0 0 m_X10_stationAt [vR (some (11, 0)), vI x] σ Q := by
  have hlen : (EL S ρ 0).length = nSt S := by simp [EL]
  refine Ec_of mo_X10_stationAt.1 (Nat.le_of_ble_eq_true rfl) ?_
  refine sX10_stationAt_0 ?_
  unfold bX10_stationAt_0
  refine ⟨hX.k11_0, by omega, ?_⟩
  refine sp_size (by omega) hL ?_
  refine ⟨by omega, ?_⟩
  rw [hlen]
  refine sp_X10_within (fun c => ?_) (fun c => ?_)
  · refine br_f (by decide) ⟨hX.k11_0, by omega, ?_⟩
    have hv := (inP_nI (by omega)).mp c
    obtain ⟨r, hr, e2⟩ := nI_of (vp_nn hv)
    subst e2
    have hlt := vp_lt hv
    rw [nI_clamp hr] at hlt
    refine sp_get (z := (8, r)) (by omega) (by omega) hL rfl ?_ (by rw [hlen]; omega) ?_
    · simp [EL, hlt]
    · dsimp only [kR]
      refine cst_of rfl ?_
      refine sX10_stationAt_32 ?_
      refine h1 r hlt rfl ?_
      show inP (nI r) 0 (S 12 1 - 1)
      rw [e]
      exact c
  · refine br_t rfl ?_
    refine sX10_stationAt_32 ?_
    refine h0 (fun z => c ?_)
    have z2 : inP x 0 (S 12 1 - 1) := z
    rw [e] at z2
    exact z2
theorem sp_X10_clockAt {d : Nat} {x : Int32} {S : SS} {ρ : List Nat} {σ : XH} {Q : XV → XH → Prop} (hd : 3 ≤ d) (hX : CFX σ) (hL : LL σ (EL S ρ)) (e : S 12 2 = nI (nCl S)) (en : nCl S ≤ 90) (h1 : ∀ r, r < nCl S → x = nI r → isCl S x → Q (vR (some (2, r))) σ) (h0 : ¬ isCl S x → Q (vR none) σ) : Ec d 0 0 m_X10_clockAt [vR (some (11, 0)), vI x] σ Q := by
  have hlen : (EL S ρ 1).length = nCl S := by simp [EL]
  refine Ec_of mo_X10_clockAt.1 (Nat.le_of_ble_eq_true rfl) ?_
  refine sX10_clockAt_0 ?_
  unfold bX10_clockAt_0
  refine ⟨hX.k11_1, by omega, ?_⟩
  refine sp_size (by omega) hL ?_
  refine ⟨by omega, ?_⟩
  rw [hlen]
  refine sp_X10_within (fun c => ?_) (fun c => ?_)
  · refine br_f (by decide) ⟨hX.k11_1, by omega, ?_⟩
    have hv := (inP_nI (by omega)).mp c
    obtain ⟨r, hr, e2⟩ := nI_of (vp_nn hv)
    subst e2
    have hlt := vp_lt hv
    rw [nI_clamp hr] at hlt
    refine sp_get (z := (2, r)) (by omega) (by omega) hL rfl ?_ (by rw [hlen]; omega) ?_
    · simp [EL, hlt]
    · dsimp only [kR]
      refine cst_of rfl ?_
      refine sX10_clockAt_32 ?_
      refine h1 r hlt rfl ?_
      show inP (nI r) 0 (S 12 2 - 1)
      rw [e]
      exact c
  · refine br_t rfl ?_
    refine sX10_clockAt_32 ?_
    refine h0 (fun z => c ?_)
    have z2 : inP x 0 (S 12 2 - 1) := z
    rw [e] at z2
    exact z2
theorem sp_X10_readingAt {d : Nat} {x : Int32} {S : SS} {ρ : List Nat} {σ : XH} {Q : XV → XH → Prop} (hd : 3 ≤ d) (hX : CFX σ) (hL : LL σ (EL S ρ)) (e : S 12 8 = nI (nRd S)) (en : nRd S ≤ 90) (h1 : ∀ r, r < nRd S → x = nI r → isRd S x → Q (vR (some (5, r))) σ) (h0 : ¬ isRd S x → Q (vR none) σ) : Ec d 0 0 m_X10_readingAt [vR (some (11, 0)), vI x] σ Q := by
  have hlen : (EL S ρ 2).length = nRd S := by simp [EL]
  refine Ec_of mo_X10_readingAt.1 (Nat.le_of_ble_eq_true rfl) ?_
  refine sX10_readingAt_0 ?_
  unfold bX10_readingAt_0
  refine ⟨hX.k11_2, by omega, ?_⟩
  refine sp_size (by omega) hL ?_
  refine ⟨by omega, ?_⟩
  rw [hlen]
  refine sp_X10_within (fun c => ?_) (fun c => ?_)
  · refine br_f (by decide) ⟨hX.k11_2, by omega, ?_⟩
    have hv := (inP_nI (by omega)).mp c
    obtain ⟨r, hr, e2⟩ := nI_of (vp_nn hv)
    subst e2
    have hlt := vp_lt hv
    rw [nI_clamp hr] at hlt
    refine sp_get (z := (5, r)) (by omega) (by omega) hL rfl ?_ (by rw [hlen]; omega) ?_
    · simp [EL, hlt]
    · dsimp only [kR]
      refine cst_of rfl ?_
      refine sX10_readingAt_32 ?_
      refine h1 r hlt rfl ?_
      show inP (nI r) 0 (S 12 8 - 1)
      rw [e]
      exact c
  · refine br_t rfl ?_
    refine sX10_readingAt_32 ?_
    refine h0 (fun z => c ?_)
    have z2 : inP x 0 (S 12 8 - 1) := z
    rw [e] at z2
    exact z2
theorem sp_X10_tapeAt {d : Nat} {x : Int32} {σ : XH} {Q : XV → XH → Prop} (hd : 1 ≤ d) (hX : CFX σ) (h1 : ∀ t, t < 6 → x = nI t → inP x 0 5 → Q (vR (some (10, t))) σ) (h0 : ¬ inP x 0 5 → Q (vR none) σ) : Ec d 0 0 m_X10_tapeAt [vR (some (11, 0)), vI x] σ Q := by
  refine Ec_of mo_X10_tapeAt.1 (Nat.le_of_ble_eq_true rfl) ?_
  refine sX10_tapeAt_0 ?_
  unfold bX10_tapeAt_0
  refine ⟨hX.k11_6, by omega, ?_⟩
  rw [hX.n400, show Int32.ofNat 6 - 1 = 5 by decide]
  refine sp_X10_within (fun c => ?_) (fun c => ?_)
  · have hv : vp_in x 6 := inP_c c (by decide) (by decide)
    obtain ⟨r, hr, e2⟩ := nI_of (vp_nn hv)
    subst e2
    have hlt := vp_lt hv
    rw [nI_clamp hr] at hlt
    refine br_f (by decide) ⟨hX.k11_6, vp_at hX.n400 hv, ?_⟩
    refine sX10_tapeAt_25 ?_
    unfold bX10_tapeAt_25
    rw [nI_clamp hr, hX.t400 hlt]
    exact h1 r hlt rfl c
  · refine br_t rfl ?_
    refine sX10_tapeAt_25 ?_
    exact h0 c
/-! readings -/
def kN (S : SS) (r : Nat) : Int32 := if 0 < S 129 r then 7 else S 120 r
def oN (S : SS) (r : Nat) : Nat := if S 120 r = 6 then (S 127 r).toNatClampNeg else r
theorem kN_eq (S : SS) {r : Nat} (h : r < 100000) : kNow S (nI r) = kN S r := by simp only [kNow, gS_nI S _ h, kN]
theorem sp_X4_isWithdrawn {d r : Nat} {S : SS} {σ : XH} {Q : XV → XH → Prop} (hC : CRd σ S) (hr : r < nRd S) (h1 : 0 < S 129 r → Q (vI 1) σ) (h0 : ¬ 0 < S 129 r → Q (vI 0) σ) : Ec d 0 0 m_X4_isWithdrawn [vR (some (5, r))] σ Q := by
  obtain ⟨g0, g1, g2, g3, g4, g5, g6, g7, g8, g9, g10⟩ := hC.2 r hr
  refine Ec_of mo_X4_isWithdrawn.1 (Nat.le_of_ble_eq_true rfl) ?_
  refine sX4_isWithdrawn_0 ?_
  unfold bX4_isWithdrawn_0
  rw [g10]
  refine ⟨fun c => ?_, fun c => ?_⟩
  · refine sX4_isWithdrawn_12 ?_
    exact ⟨Or.inr rfl, h1 c⟩
  · refine sX4_isWithdrawn_12 ?_
    exact ⟨Or.inl rfl, h0 c⟩
theorem sp_X4_kindNow {d r : Nat} {S : SS} {σ : XH} {Q : XV → XH → Prop} (hd : 1 ≤ d) (hC : CRd σ S) (hr : r < nRd S) (h : Q (vI (kN S r)) σ) : Ec d 0 0 m_X4_kindNow [vR (some (5, r))] σ Q := by
  obtain ⟨g0, g1, g2, g3, g4, g5, g6, g7, g8, g9, g10⟩ := hC.2 r hr
  refine Ec_of mo_X4_kindNow.1 (Nat.le_of_ble_eq_true rfl) ?_
  refine sX4_kindNow_0 ?_
  unfold bX4_kindNow_0
  unfold kN at h
  refine ⟨by omega, ?_⟩
  refine sp_X4_isWithdrawn hC hr (fun c => ?_) (fun c => ?_)
  · refine br_f (by decide) ?_
    refine sX4_kindNow_16 ?_
    rw [if_pos c] at h
    exact h
  · refine br_t rfl ?_
    refine sX4_kindNow_16 ?_
    rw [if_neg c] at h
    rw [g1]
    exact h
theorem sp_X4_origin {d r : Nat} {S : SS} {σ : XH} {Q : XV → XH → Prop} (hC : CRd σ S) (hr : r < nRd S) (h : Q (vR (some (5, oN S r))) σ) : Ec d 0 0 m_X4_origin [vR (some (5, r))] σ Q := by
  obtain ⟨g0, g1, g2, g3, g4, g5, g6, g7, g8, g9, g10⟩ := hC.2 r hr
  refine Ec_of mo_X4_origin.1 (Nat.le_of_ble_eq_true rfl) ?_
  refine sX4_origin_0 ?_
  unfold bX4_origin_0
  unfold oN at h
  rw [g5]
  by_cases c : S 120 r = 6
  · rw [if_pos c] at h
    rw [if_pos c]
    refine br_f some_ne ?_
    refine sX4_origin_15 ?_
    exact h
  · rw [if_neg c] at h
    rw [if_neg c]
    refine br_t rfl ?_
    refine sX4_origin_15 ?_
    exact h
/-- of a reading, by its number as a natural -/
theorem SInv.rd {S : SS} (h : SInv S) {r : Nat} (hr : r < nRd S) : RdI S (nI r) := h.2.2.2.2.2.2.2.2.2 (nI r) (vp_in_nI hr (by have := h.2.2.1.2; omega))
theorem SInv.n8 {S : SS} (h : SInv S) : S 12 8 = nI (nRd S) := h.2.2.1.1
theorem SInv.l8 {S : SS} (h : SInv S) : nRd S ≤ 90 := h.2.2.1.2
theorem SInv.n1 {S : SS} (h : SInv S) : S 12 1 = nI (nSt S) := h.1.1
theorem SInv.l1 {S : SS} (h : SInv S) : nSt S ≤ 11 := h.1.2
theorem SInv.n2 {S : SS} (h : SInv S) : S 12 2 = nI (nCl S) := h.2.1.1
theorem SInv.l2 {S : SS} (h : SInv S) : nCl S ≤ 12 := h.2.1.2
theorem SInv.n20 {S : SS} (h : SInv S) : S 12 20 = nI (nLe S) := h.2.2.2.1.1
theorem SInv.l20 {S : SS} (h : SInv S) : nLe S ≤ 60 := h.2.2.2.1.2
theorem SInv.n25 {S : SS} (h : SInv S) : S 12 25 = nI (nRu S) := h.2.2.2.2.1.1
theorem SInv.l25 {S : SS} (h : SInv S) : nRu S ≤ 12 := h.2.2.2.2.1.2
theorem SInv.n26 {S : SS} (h : SInv S) : S 12 26 = nI (nFd S) := h.2.2.2.2.2.1.1
theorem SInv.l26 {S : SS} (h : SInv S) : nFd S ≤ 140 := h.2.2.2.2.2.1.2
theorem SInv.n59 {S : SS} (h : SInv S) : S 12 59 = nI (nPl S) := h.2.2.2.2.2.2.1.1
theorem SInv.l59 {S : SS} (h : SInv S) : nPl S ≤ 9 := h.2.2.2.2.2.2.1.2
/-- of a reading: kind, clock, hand, time, source -/
theorem SInv.r {S : SS} (h : SInv S) {r : Nat} (hr : r < nRd S) : inP (S 120 r) 1 6 ∧ vp_in (S 121 r) (nCl S) ∧ inP (S 122 r) 0 5 ∧ inP (S 123 r) 0 999999 ∧ (S 120 r = 6 → vp_in (S 127 r) r ∧ ¬ S 120 (S 127 r).toNatClampNeg = 6) ∧ (S 120 r = 4 → inP (S 124 r) 0 999999) ∧ (S 120 r = 5 → inP (S 124 r) (-99) 99) ∧ ((S 120 r = 1 ∨ S 120 r = 2) → inP (S 124 r) 0 999999) ∧ ((S 120 r = 3 ∨ S 120 r = 4 ∨ S 120 r = 5) → inP (S 125 r) 1 4) ∧ (¬ (S 120 r = 3 ∨ S 120 r = 4 ∨ S 120 r = 5) → S 125 r = -1) ∧ (S 120 r = 6 → S 121 r = S 121 (S 127 r).toNatClampNeg ∧ S 122 r = S 122 (S 127 r).toNatClampNeg) ∧ (¬ S 120 r = 6 → S 127 r = -1) ∧ ¬ S 129 r < 0 := by
  have hh := h.rd hr
  have h90 := h.l8
  unfold RdI at hh
  simp only [gS, nI_clamp (show r < 2 ^ 31 by omega)] at hh
  exact hh
theorem oN_lt {S : SS} (h : SInv S) {r : Nat} (hr : r < nRd S) : oN S r < nRd S := by
  unfold oN
  split
  · rename_i c
    have := vp_lt ((h.r hr).2.2.2.2.1 c).1
    omega
  · exact hr
theorem sp_X4_isOfEdge {d r : Nat} {S : SS} {σ : XH} {Q : XV → XH → Prop} (hd : 1 ≤ d) (hX : CFX σ) (hI : SInv S) (hC : CRd σ S) (hr : r < nRd S) (h1 : isSk (S 120 (oN S r)) → Q (vI 1) σ) (h0 : ¬ isSk (S 120 (oN S r)) → Q (vI 0) σ) : Ec d 0 0 m_X4_isOfEdge [vR (some (5, r))] σ Q := by
  have ho := oN_lt hI hr
  obtain ⟨g0, g1, g2, g3, g4, g5, g6, g7, g8, g9, g10⟩ := hC.2 _ ho
  have hk : inP (S 120 (oN S r)) 0 7 := by
    have := (hI.r ho).1
    rw [inP_iff] at *
    rw [fa_lt, fa_lt] at *
    have a1 : (1 : Int32).toInt = 1 := by decide
    have a2 : (6 : Int32).toInt = 6 := by decide
    have a3 : (0 : Int32).toInt = 0 := by decide
    have a4 : (7 : Int32).toInt = 7 := by decide
    omega
  refine Ec_of mo_X4_isOfEdge.1 (Nat.le_of_ble_eq_true rfl) ?_
  refine sX4_isOfEdge_0 ?_
  unfold bX4_isOfEdge_0
  have yes : isSk (S 120 (oN S r)) → Ex d 0 0 m_X4_isOfEdge 25 [vU] [] σ Q := fun z => by
    refine sX4_isOfEdge_25 ?_
    refine sX4_isOfEdge_30 ?_
    exact ⟨Or.inr rfl, h1 z⟩
  refine ⟨by omega, ?_⟩
  refine sp_X4_origin hC hr ?_
  dsimp only [kR]
  refine drf_of rfl ⟨by omega, ?_⟩
  rw [g1]
  refine sp_X10_isUnder hX hk (fun c => ?_) (fun c => ?_)
  · refine br_f (by decide) (yes ?_)
    unfold undP at c
    unfold isSk
    rcases c with c | c | c
    · exact Or.inl c
    · exact absurd c (by decide)
    · exact Or.inr (Or.inl c.1)
  · refine br_t rfl ⟨by omega, ?_⟩
    refine sp_X4_origin hC hr ?_
    dsimp only [kR]
    refine drf_of rfl ?_
    rw [g1]
    refine ⟨fun c5 => yes (Or.inr (Or.inr c5)), fun c5 => ?_⟩
    refine sX4_isOfEdge_30 ?_
    refine ⟨Or.inl rfl, h0 ?_⟩
    unfold undP at c
    unfold isSk
    intro z
    rcases z with z | z | z
    · exact c (Or.inl z)
    · exact c (Or.inr (Or.inr ⟨z, rfl⟩))
    · exact c5 z
/-! clocks, stations -/
theorem sp_X1_hasStopped {d c : Nat} {S : SS} {σ : XH} {Q : XV → XH → Prop} (hC : CCl σ S) (hc : c < nCl S) (hv : inP (S 119 c) (-1) 999999) (h1 : ¬ S 119 c < 0 → Q (vI 1) σ) (h0 : S 119 c < 0 → Q (vI 0) σ) : Ec d 0 0 m_X1_hasStopped [vR (some (2, c))] σ Q := by
  obtain ⟨g0, g1, g2, g3, g4, g5, g6, g7⟩ := hC.2.2.2 c hc
  refine Ec_of mo_X1_hasStopped.1 (Nat.le_of_ble_eq_true rfl) ?_
  refine sX1_hasStopped_0 ?_
  unfold bX1_hasStopped_0
  rw [g6]
  rw [inP_iff] at hv
  by_cases q : S 119 c < 0
  · rw [if_pos q]
    refine br_t rfl ?_
    refine sX1_hasStopped_14 ?_
    exact ⟨Or.inl rfl, h0 q⟩
  · rw [if_neg q]
    refine br_f (fun z => ?_) ?_
    · rw [z] at q
      exact q (by decide)
    · refine sX1_hasStopped_14 ?_
      exact ⟨Or.inr rfl, h1 q⟩

