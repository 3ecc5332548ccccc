/-! ===== the class: telling a reading ===== -/
theorem CFX.fr11 {T : Nat → Bool} {σ σ' : XH} (h : CFX σ) (hF : Fr T σ σ') (t : ∀ s, s ∈ [1, 7, 9, 10, 100, 107, 108, 109, 110, 111, 112, 113, 114, 115, 200, 400, 500, 501, 513] → T s = false) (r11 : hr σ' 11 = hr σ 11) (c11 : hc σ' 11 = hc σ 11) : CFX σ' :=
  h.tr (fun q hq => by
    by_cases e : q.1 = 11
    · rw [e, r11]
    · have : T q.1 = false := t q.1 (by
        have h2 : ∀ q, q ∈ cLk → q.1 = 11 ∨ q.1 ∈ [1, 7, 9, 10, 100, 107, 108, 109, 110, 111, 112, 113, 114, 115, 200, 400, 500, 501, 513] := by decide
        exact (h2 q hq).resolve_left e)
      rw [hF.r this]) (fun q hq => by
    have : T q.1 = false := t q.1 (by revert q; decide)
    rw [hF.n this]) (fun i _ => ⟨by rw [hF.r (t 10 (by decide))], by rw [hF.n (t 114 (by decide))]⟩) ⟨hF.c (t 10 (by decide)), hF.c (t 114 (by decide)), c11, hF.c (t 7 (by decide)), hF.c (t 9 (by decide)), hF.c (t 1 (by decide))⟩ (hF.i (t 500 (by decide))) (hF.i (t 501 (by decide))) (hF.i (t 513 (by decide))) (hF.n (t 513 (by decide)))
def TL (σ σ' : XH) (S : SS) (ρ : List Nat) (n : Nat) (kd : Int32) (c : Option XO) (hd sh : Int32) (src : Option XO) : Prop :=
  Fr (tl [11, 5, 0, 410, 411]) σ σ' ∧ hr σ' 11 = hr σ 11 ∧ hc σ' 11 = hc σ 11 ∧ hc σ' 5 = n + 1 ∧ (∀ r, r ≠ n → hi σ' 5 r = hi σ 5 r ∧ hr σ' 5 r = hr σ 5 r) ∧
  (hi σ' 5 n 0 = nI n ∧ hi σ' 5 n 1 = kd ∧ hr σ' 5 n 2 = c ∧ hi σ' 5 n 3 = hd ∧ hi σ' 5 n 4 = sh ∧ hr σ' 5 n 5 = src ∧ hi σ' 5 n 6 = 0 ∧ hi σ' 5 n 7 = 0 ∧ hi σ' 5 n 8 = S 12 0 ∧ hi σ' 5 n 9 = S 12 3 + 1 ∧ hi σ' 5 n 10 = 0) ∧
  (∀ j, hi σ' 11 0 j = if j = 13 then S 12 3 + 1 else hi σ 11 0 j) ∧ LL σ' (fun i => if i = 2 then EL S ρ 2 ++ [(5, n)] else EL S ρ i)
theorem sp_X10_tell {d : Nat} {kd hd sh : Int32} {c src : Option XO} {S : SS} {ρ : List Nat} {σ : XH} {Q : XV → XH → Prop} (hd7 : 7 ≤ d) (hX : CFX σ) (hL : LL σ (EL S ρ)) (hR : CRd σ S) (hSc : CSc σ S) (hI : SInv S) (hn : nRd S < 90) (h : ∀ σ', TL σ σ' S ρ (nRd S) kd c hd sh src → Q (vR (some (5, nRd S))) σ') : Ec d 2 211 m_X10_tell [vR (some (11, 0)), vI kd, vR c, vI hd, vI sh, vR src] σ Q := by
  have l2 := (EL_len S ρ).2.2.1
  have hc5 := hR.1
  refine Ec_of mo_X10_tell.1 (Nat.le_of_ble_eq_true rfl) ?_
  refine sX10_tell_0 ?_
  unfold bX10_tell_0
  intro g1 e1
  refine ⟨by omega, by omega, ?_⟩
  intro g2 e2
  have en : hc g1 5 = nRd S := by rw [e1]; exact hc5
  have hF2 : Fr (tl [11, 5]) σ g2 := by
    rw [e2, e1]
    exact Fr.nwO (Fr.wI (Fr.rf _ _) (by decide) _ _ _) (by decide)
  have hr2 : hr g2 = hr σ := by rw [e2, e1]; rfl
  have hL2 : LL g2 (EL S ρ) := hL.fr hF2 rfl rfl rfl rfl
  refine ⟨by rw [hr2]; exact hX.k11_2, by omega, sp_size (by omega) hL2 ?_⟩
  rw [l2, en]
  refine ⟨by omega, ?_⟩
  refine Ec_of mo_X4_init.1 (Nat.le_of_ble_eq_true rfl) ?_
  refine sX4_init_0 ?_
  refine ⟨by omega, ?_⟩
  intro a1 f1 a2 f2 a3 f3 a4 f4 a5 f5 a6 f6 a7 f7 a8 f8
  refine sX4_init_44 ?_
  intro b1 k1 b2 k2 b3 k3
  intro m1 p1
  intro m2 p2
  -- the cells so far
  have hF : Fr (tl [11, 5]) σ m2 := by
    rw [p2, p1, k3, k2, k1, f8, f7, f6, f5, f4, f3, f2, f1]
    repeat (first | exact hF2 | refine Fr.wI ?_ (by decide) _ _ _ | refine Fr.wR ?_ (by decide) _ _ _)
  have i11 : ∀ j, hi m2 11 0 j = if j = 13 then S 12 3 + 1 else hi σ 11 0 j := fun j => by
    rw [p2, hi_wI_ne _ _ _ _ (by decide), p1, hi_wI_ne _ _ _ _ (by decide), k3]
    show hi b2 11 0 j = _
    rw [k2, hi_wI_ne _ _ _ _ (by decide), k1, hi_wI_ne _ _ _ _ (by decide), f8]
    show hi a7 11 0 j = _
    rw [f7, hi_wI_ne _ _ _ _ (by decide), f6, hi_wI_ne _ _ _ _ (by decide), f5, hi_wI_ne _ _ _ _ (by decide), f4, hi_wI_ne _ _ _ _ (by decide), f3, hi_wI_ne _ _ _ _ (by decide), f2, hi_wI_ne _ _ _ _ (by decide), f1, hi_wI_ne _ _ _ _ (by decide), e2]
    show hi g1 11 0 j = _
    rw [e1, hi_wI_at, hSc.2.1]
    by_cases e : j = 13
    · rw [if_pos ⟨rfl, e⟩, if_pos e]
    · rw [if_neg (fun y => e y.2), if_neg e]
  have i11b : ∀ j, hi b3 11 0 j = if j = 13 then S 12 3 + 1 else hi σ 11 0 j := fun j => by
    have := i11 j
    rw [p2, hi_wI_ne _ _ _ _ (by decide), p1, hi_wI_ne _ _ _ _ (by decide)] at this
    exact this
  have i11c : ∀ j, hi m1 11 0 j = if j = 13 then S 12 3 + 1 else hi σ 11 0 j := fun j => by
    have := i11 j
    rw [p2, hi_wI_ne _ _ _ _ (by decide)] at this
    exact this
  have v8 : hi b3 11 0 12 = S 12 0 := by rw [i11b, if_neg (by decide)]; exact hSc.1
  have v9 : hi m1 11 0 13 = S 12 3 + 1 := by rw [i11c, if_pos rfl]
  rw [v8] at p1
  rw [v9] at p2
  have i5 : ∀ r j, hi m2 5 r j = if r = nRd S then (if j = 9 then S 12 3 + 1 else if j = 8 then S 12 0 else if j = 4 then sh else if j = 3 then hd else if j = 1 then kd else if j = 0 then nI (nRd S) else if j = 10 ∨ j = 7 ∨ j = 6 then 0 else hi σ 5 r j) else hi σ 5 r j := fun r j => by
    have e5 : ∀ r j, hi g2 5 r j = hi σ 5 r j := fun r j => by
      rw [e2]
      show hi g1 5 r j = _
      rw [e1, hi_wI_ne _ _ _ _ (by decide)]
    rw [p2, hi_wI_at, p1, hi_wI_at, k3]
    show (if r = nRd S ∧ j = 9 then _ else if r = nRd S ∧ j = 8 then _ else hi b2 5 r j) = _
    rw [k2, hi_wI_at, k1, hi_wI_at, f8]
    show (if r = nRd S ∧ j = 9 then _ else if r = nRd S ∧ j = 8 then _ else if r = nRd S ∧ j = 4 then _ else if r = nRd S ∧ j = 3 then _ else hi a7 5 r j) = _
    rw [f7, hi_wI_at, f6, hi_wI_at, f5, hi_wI_at, f4, hi_wI_at, f3, hi_wI_at, f2, hi_wI_at, f1, hi_wI_at, e5]
    by_cases c1 : r = nRd S
    · simp only [c1, true_and, if_true]
      by_cases c2 : j = 9
      · subst c2
        simp only [Nat.reduceEqDiff, if_true, if_false, reduceIte]
      by_cases c3 : j = 8
      · subst c3
        simp only [Nat.reduceEqDiff, if_true, if_false, true_or, or_true, reduceIte]
      by_cases c4 : j = 4
      · subst c4
        simp only [Nat.reduceEqDiff, if_true, if_false, true_or, or_true, reduceIte]
      by_cases c5 : j = 3
      · subst c5
        simp only [Nat.reduceEqDiff, if_true, if_false, true_or, or_true, reduceIte]
      by_cases c6 : j = 1
      · subst c6
        simp only [Nat.reduceEqDiff, if_true, if_false, true_or, or_true, reduceIte]
      by_cases c7 : j = 0
      · subst c7
        simp only [Nat.reduceEqDiff, if_true, if_false, true_or, or_true, reduceIte]
      by_cases c8 : j = 10
      · subst c8
        simp only [Nat.reduceEqDiff, if_true, if_false, true_or, or_true, reduceIte]
      by_cases c9 : j = 7
      · subst c9
        simp only [Nat.reduceEqDiff, if_true, if_false, true_or, or_true, reduceIte]
      by_cases c10 : j = 6
      · subst c10
        simp only [Nat.reduceEqDiff, if_true, if_false, true_or, or_true, reduceIte]
      simp only [c2, c3, c4, c5, c6, c7, c8, c9, c10, if_false, or_self]
    · simp only [c1, false_and, if_false]
  have r5 : ∀ r j, hr m2 5 r j = if r = nRd S ∧ j = 5 then src else if r = nRd S ∧ j = 2 then c else hr σ 5 r j := fun r j => by
    rw [p2, p1, k3]
    show hr (wR b2 5 (nRd S) 5 src) 5 r j = _
    rw [hr_wR_at, k2, k1, f8]
    show (if r = nRd S ∧ j = 5 then _ else hr (wR a7 5 (nRd S) 2 c) 5 r j) = _
    rw [hr_wR_at, f7, f6, f5, f4, f3, f2, f1]
    show (if r = nRd S ∧ j = 5 then _ else if r = nRd S ∧ j = 2 then _ else hr g2 5 r j) = _
    rw [hr2]
  have r11 : hr m2 11 = hr σ 11 := by
    rw [p2, p1, k3]
    show hr (wR b2 5 (nRd S) 5 src) 11 = _
    rw [hr_wR_ne _ _ _ _ (by decide), k2, k1, f8]
    show hr (wR a7 5 (nRd S) 2 c) 11 = _
    rw [hr_wR_ne _ _ _ _ (by decide), f7, f6, f5, f4, f3, f2, f1]
    show hr g2 11 = _
    rw [hr2]
  have cc : ∀ s, hc m2 s = if s = 5 then hc σ 5 + 1 else hc σ s := fun s => by
    rw [p2, hc_wI, p1, hc_wI, k3, hc_wR, k2, hc_wI, k1, hc_wI, f8, hc_wR, f7, hc_wI, f6, hc_wI, f5, hc_wI, f4, hc_wI, f3, hc_wI, f2, hc_wI, f1, hc_wI, e2, hc_nwO, e1, hc_wI]
  have hL3 : LL m2 (EL S ρ) := hL.fr hF rfl rfl rfl rfl
  refine sX10_tell_51 ?_
  unfold bX10_tell_51
  refine ⟨by rw [r11]; exact hX.k11_2, by omega, by omega, by omega, ?_⟩
  refine sp_add (by omega) (by omega) (show 5 < 13 by omega) hL3 (by rw [l2]; omega) ?_
  intro σ' q1 q2
  have w5 : hi σ' 5 = hi m2 5 := q2.i rfl
  have x5 : hr σ' 5 = hr m2 5 := q2.r rfl
  have w11 : hi σ' 11 = hi m2 11 := q2.i rfl
  refine h σ' ⟨(hF.sub (tl_sub (by decide))).trans (q2.sub (tl_sub (by decide))), (q2.r rfl).trans r11, ?_, ?_, fun r hr_ => ⟨?_, ?_⟩, ?_, ?_, q1⟩
  · rw [q2.c rfl, cc, if_neg (by decide)]
  · rw [q2.c rfl, cc, if_pos rfl, hc5]
  · funext j
    rw [w5, i5, if_neg hr_]
  · funext j
    rw [x5, r5, if_neg (fun y => hr_ y.1), if_neg (fun y => hr_ y.1)]
  · rw [w5, x5]
    simp only [i5, r5, Nat.reduceEqDiff, if_true, if_false, true_and, and_true, and_false, true_or, or_true, or_false, false_or, and_self, reduceIte]
  · intro j
    rw [w11]
    exact i11 j
/-- what the reference's state is behind an adding -/
theorem addF_s {S : SS} {k c h s m n q : Int32} {N : Nat} (h8 : S 12 8 = nI N) (hN : N < 100000) :
    (∀ p, (addF S k c h s m n q).2 120 p = if p = N then k else S 120 p) ∧ (∀ p, (addF S k c h s m n q).2 121 p = if p = N then c else S 121 p) ∧ (∀ p, (addF S k c h s m n q).2 122 p = if p = N then h else S 122 p) ∧ (∀ p, (addF S k c h s m n q).2 123 p = if p = N then s else S 123 p) ∧ (∀ p, (addF S k c h s m n q).2 124 p = if p = N then m else S 124 p) ∧ (∀ p, (addF S k c h s m n q).2 125 p = if p = N then n else S 125 p) ∧ (∀ p, (addF S k c h s m n q).2 126 p = if p = N then S 12 0 else S 126 p) ∧ (∀ p, (addF S k c h s m n q).2 127 p = if p = N then q else S 127 p) ∧ (∀ p, (addF S k c h s m n q).2 128 p = if p = N then S 12 3 + 1 else S 128 p) ∧ (∀ p, (addF S k c h s m n q).2 129 p = if p = N then 0 else S 129 p) ∧
    (∀ p, (addF S k c h s m n q).2 12 p = if p = 8 then nI (N + 1) else if p = 3 then S 12 3 + 1 else S 12 p) ∧ ∀ t, t ∉ [12, 120, 121, 122, 123, 124, 125, 126, 127, 128, 129] → (addF S k c h s m n q).2 t = S t := by
  have e : (S 12 8).toNatClampNeg = N := by rw [h8, nI_clamp (by omega)]
  unfold addF
  dsimp only
  rw [e]
  refine ⟨fun p => ?_, fun p => ?_, fun p => ?_, fun p => ?_, fun p => ?_, fun p => ?_, fun p => ?_, fun p => ?_, fun p => ?_, fun p => ?_, fun p => ?_, fun t ht => ?_⟩
  all_goals first
    | (simp only [up2, Nat.reduceEqDiff, false_and, if_false, true_and]; done)
    | skip
  · simp only [up2, Nat.reduceEqDiff, false_and, if_false, true_and, h8, nI_1]
  · simp only [List.mem_cons, List.mem_nil_iff, not_or] at ht
    obtain ⟨t1, t2, t3, t4, t5, t6, t7, t8, t9, t10, t11, -⟩ := ht
    funext p
    simp only [up2, t1, t2, t3, t4, t5, t6, t7, t8, t9, t10, t11, false_and, if_false]
