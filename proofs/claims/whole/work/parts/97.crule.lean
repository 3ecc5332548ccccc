/-! ===== the class: a new rule's cell ===== -/
def FrT (t : Nat) (σ σ' : XH) : Prop := ∀ s i, i ≠ t → hi σ' s i = hi σ s i ∧ hr σ' s i = hr σ s i ∧ hn σ' s i = hn σ s i
theorem FrT.rf (t : Nat) (σ : XH) : FrT t σ σ := fun _ _ _ => ⟨rfl, rfl, rfl⟩
theorem FrT.trans {t : Nat} {a b c : XH} (h : FrT t a b) (k : FrT t b c) : FrT t a c := fun s i hi_ => ⟨(k s i hi_).1.trans (h s i hi_).1, (k s i hi_).2.1.trans (h s i hi_).2.1, (k s i hi_).2.2.trans (h s i hi_).2.2⟩
theorem FrT.wI {t : Nat} {a b : XH} (h : FrT t a b) (s k : Nat) (x : Int32) : FrT t a (wI b s t k x) := h.trans fun s' i hi_ => ⟨funext fun j => by rw [hi_wI', if_neg (fun z => hi_ z.2.1)], rfl, rfl⟩
theorem FrT.wR {t : Nat} {a b : XH} (h : FrT t a b) (s k : Nat) (x : Option XO) : FrT t a (wR b s t k x) := h.trans fun s' i hi_ => ⟨rfl, funext fun j => by rw [hr_wR', if_neg (fun z => hi_ z.2.1)], rfl⟩
theorem FrT.nwA {t : Nat} {a b : XH} (h : FrT t a b) (s n : Nat) (e : hc b s = t) : FrT t a (nwA b s n) := h.trans fun s' i hi_ => ⟨rfl, rfl, by rw [hn_nwA, if_neg (fun z => hi_ (z.2.trans e))]⟩
theorem mx0 {n : Nat} (hn : n < 1000) : mxI 0 (nI n) = nI n := by
  unfold mxI
  by_cases c : n = 0
  · subst c
    rfl
  · rw [if_pos (pos_nI (by omega) hn)]
theorem sp_X5_init {d t n : Nat} {num h dd : Int32} {σ : XH} {Q : XV → XH → Prop} (hd : 2 ≤ d) (hn140 : n ≤ 140) (c3 : hc σ 103 = t) (c4 : hc σ 104 = t) (c5 : hc σ 105 = t)
    (hQ : ∀ σ', Fr (tl [6, 103, 104, 105]) σ σ' → FrT t σ σ' → hc σ' 6 = hc σ 6 → hc σ' 103 = t + 1 → hc σ' 104 = t + 1 → hc σ' 105 = t + 1 → hi σ' 6 t 0 = num → hi σ' 6 t 1 = h → hi σ' 6 t 2 = dd → RR σ' t n rt0 → Q vU σ') : Ec d 3 286 m_X5_init [vR (some (6, t)), vI num, vI h, vI dd, vI (nI n)] σ Q := by
  refine Ec_of mo_X5_init.1 (Nat.le_of_ble_eq_true rfl) ?_
  refine sX5_init_0 ?_
  unfold bX5_init_0
  have e6 : (6 : Int32).toNatClampNeg = 6 := by decide
  rw [c3, e6]
  refine ⟨by omega, by decide, by omega, by omega, by omega, ?_⟩
  intro h1 e1
  have n1 : hn h1 103 t = 6 := by rw [e1, hn_nwA, if_pos ⟨rfl, c3.symm⟩]
  refine ⟨vp_at n1 (vp_in_nI (n := 0) (by omega) (by omega)), ?_⟩
  intro h2 e2
  have n2 : hn h2 103 t = 6 := by rw [e2]; exact n1
  refine ⟨vp_at n2 (vp_in_nI (n := 1) (by omega) (by omega)), ?_⟩
  intro h3 e3
  have n3 : hn h3 103 t = 6 := by rw [e3]; exact n2
  refine ⟨vp_at n3 (vp_in_nI (n := 2) (by omega) (by omega)), ?_⟩
  intro h4 e4
  have n4 : hn h4 103 t = 6 := by rw [e4]; exact n3
  refine ⟨vp_at n4 (vp_in_nI (n := 3) (by omega) (by omega)), ?_⟩
  intro h5 e5
  have n5 : hn h5 103 t = 6 := by rw [e5]; exact n4
  refine ⟨vp_at n5 (vp_in_nI (n := 4) (by omega) (by omega)), ?_⟩
  intro h6 e6'
  have n6 : hn h6 103 t = 6 := by rw [e6']; exact n5
  refine ⟨vp_at n6 (vp_in_nI (n := 5) (by omega) (by omega)), ?_⟩
  intro h7 e7 h8 e8
  -- what the first part left
  have f8 : Fr (tl [6, 103, 104, 105]) σ h8 := by
    rw [e8, e7, e6', e5, e4, e3, e2, e1]
    exact Fr.wR (Fr.wI (Fr.wI (Fr.wI (Fr.wI (Fr.wI (Fr.wI (Fr.nwA (Fr.rf _ _) (by decide) _) (by decide) _ _ _) (by decide) _ _ _) (by decide) _ _ _) (by decide) _ _ _) (by decide) _ _ _) (by decide) _ _ _) (by decide) _ _ _
  have t8 : FrT t σ h8 := by
    rw [e8, e7, e6', e5, e4, e3, e2, e1]
    exact (((((((FrT.rf t σ).nwA 103 6 c3).wI 103 _ _).wI 103 _ _).wI 103 _ _).wI 103 _ _).wI 103 _ _).wI 103 _ _ |>.wR 6 _ _
  have k8 : hc h8 6 = hc σ 6 ∧ hc h8 103 = t + 1 ∧ hc h8 104 = t ∧ hc h8 105 = t := by
    rw [e8, e7, e6', e5, e4, e3, e2, e1]
    refine ⟨?_, ?_, ?_, ?_⟩
    · show hc (nwA σ 103 6) 6 = _
      rw [hc_nwA, if_neg (by decide)]
    · show hc (nwA σ 103 6) 103 = _
      rw [hc_nwA, if_pos rfl, c3]
    · show hc (nwA σ 103 6) 104 = _
      rw [hc_nwA, if_neg (by decide), c4]
    · show hc (nwA σ 103 6) 105 = _
      rw [hc_nwA, if_neg (by decide), c5]
  have r8 : hr h8 6 t 3 = some (103, t) := by rw [e8, hr_wR_eq]
  have n8 : hn h8 103 t = 6 := by rw [e8, e7]; exact n6
  have w8 : ∀ j, j < 6 → hi h8 103 t j = 1 := fun j hj => by
    rw [e8, e7, e6', e5, e4, e3, e2]
    show hi (wI (wI (wI (wI (wI (wI h1 103 t 0 1) 103 t 1 1) 103 t 2 1) 103 t 3 1) 103 t 4 1) 103 t 5 1) 103 t j = 1
    simp only [hi_wI_at, true_and]
    match j, hj with
    | 0, _ => rfl
    | 1, _ => rfl
    | 2, _ => rfl
    | 3, _ => rfl
    | 4, _ => rfl
    | 5, _ => rfl
  clear e1 e2 e3 e4 e5 e6' e7 e8 n1 n2 n3 n4 n5 n6
  clear h1 h2 h3 h4 h5 h6 h7
  refine sX5_init_36 ?_
  intro a1 u1 a2 u2 a3 u3 a4 u4 a5 u5
  refine ⟨Or.inl rfl, ?_⟩
  intro a6 u6
  refine ⟨Or.inl rfl, ?_⟩
  intro a7 u7 a8 u8
  refine sX5_init_79 ?_
  intro a9 u9 b1 v1
  have f9 : Fr (tl [6, 103, 104, 105]) σ b1 := by
    rw [v1, u9, u8, u7, u6, u5, u4, u3, u2, u1]
    exact Fr.wI (Fr.wI (Fr.wI (Fr.wI (Fr.wI (Fr.wI (Fr.wI (Fr.wI (Fr.wI (Fr.wI f8 (by decide) _ _ _) (by decide) _ _ _) (by decide) _ _ _) (by decide) _ _ _) (by decide) _ _ _) (by decide) _ _ _) (by decide) _ _ _) (by decide) _ _ _) (by decide) _ _ _) (by decide) _ _ _
  have t9 : FrT t σ b1 := by
    rw [v1, u9, u8, u7, u6, u5, u4, u3, u2, u1]
    exact ((((((((((t8.wI 6 _ _).wI 6 _ _).wI 6 _ _).wI 6 _ _).wI 6 _ _).wI 6 _ _).wI 6 _ _).wI 6 _ _).wI 6 _ _).wI 6 _ _)
  have k9 : hc b1 = hc h8 := by rw [v1, u9, u8, u7, u6, u5, u4, u3, u2, u1]; rfl
  have r9 : hr b1 = hr h8 := by rw [v1, u9, u8, u7, u6, u5, u4, u3, u2, u1]; rfl
  have n9 : hn b1 = hn h8 := by rw [v1, u9, u8, u7, u6, u5, u4, u3, u2, u1]; rfl
  have w9 : hi b1 103 = hi h8 103 := by
    rw [v1, u9, u8, u7, u6, u5, u4, u3, u2, u1]
    iterate 10 rw [hi_wI_ne _ _ _ _ (by decide)]
  have i9 : ∀ j, hi b1 6 t j = if j = 2 then dd else if j = 1 then h else if j = 0 then num else if j = 12 then 0 else if j = 11 then 0 else if j = 10 then 0 else if j = 9 then 9999 else if j = 8 then 1 else if j = 7 then 30 else if j = 6 then 0 else hi h8 6 t j := fun j => by
    rw [v1, u9, u8, u7, u6, u5, u4, u3, u2, u1]
    simp only [hi_wI_at, true_and]
  clear u1 u2 u3 u4 u5 u6 u7 u8 u9 v1
  clear a1 a2 a3 a4 a5 a6 a7 a8 a9
  refine ⟨by omega, sp_maxI ?_⟩
  dsimp only [kI]
  rw [mx0 (by omega), nI_clamp (by omega)]
  refine ⟨neg_nn (by omega), by omega, by omega, by omega, ?_⟩
  intro b2 v2 b3 v3
  rw [show hc b1 104 = t by rw [k9]; exact k8.2.2.1] at v3
  refine ⟨neg_nn (by omega), by omega, by omega, by omega, ?_⟩
  intro b4 v4 b5 v5
  have kb3 : ∀ s, hc b3 s = if s = 104 then t + 1 else hc h8 s := fun s => by
    rw [v3, v2]
    show hc (nwA b1 104 n) s = _
    rw [hc_nwA, k9, k8.2.2.1]
  rw [show hc b3 105 = t by rw [kb3, if_neg (by decide)]; exact k8.2.2.2] at v5
  have kb5 : ∀ s, hc b5 s = if s = 105 then t + 1 else if s = 104 then t + 1 else hc h8 s := fun s => by
    rw [v5, v4]
    show hc (nwA b3 105 n) s = _
    rw [hc_nwA]
    by_cases c : s = 105
    · rw [if_pos c, if_pos c, kb3, if_neg (by decide), k8.2.2.2]
    · rw [if_neg c, if_neg c, kb3]
  have fr5 : Fr (tl [6, 103, 104, 105]) σ b5 := by
    rw [v5, v4, v3, v2]
    exact Fr.wR (Fr.nwA (Fr.wR (Fr.nwA f9 (by decide) _) (by decide) _ _ _) (by decide) _) (by decide) _ _ _
  have ft5 : FrT t σ b5 := by
    have q3 : FrT t σ b3 := by
      rw [v3, v2]
      exact (t9.nwA 104 n (by rw [k9]; exact k8.2.2.1)).wR 6 _ _
    rw [v5, v4]
    exact (q3.nwA 105 n (by rw [kb3, if_neg (by decide)]; exact k8.2.2.2)).wR 6 _ _
  have ii5 : ∀ s i j, hi b5 s i j = hi b1 s i j := fun s i j => by rw [v5, v4, v3, v2]; rfl
  have r5 : ∀ j, hr b5 6 t j = if j = 5 then some (105, t) else if j = 4 then some (104, t) else hr h8 6 t j := fun j => by
    have e : hr b5 = hr (wR (wR b1 6 t 4 (some (104, t))) 6 t 5 (some (105, t))) := by rw [v5, v4, v3, v2]; rfl
    rw [e, hr_wR_at, hr_wR_at, r9]
    simp only [true_and]
  have nn5 : hn b5 103 t = 6 ∧ hn b5 104 t = n ∧ hn b5 105 t = n := by
    have hcb1 : hc b1 104 = t := by rw [k9]; exact k8.2.2.1
    have hcb3 : hc b3 105 = t := by rw [kb3, if_neg (by decide)]; exact k8.2.2.2
    have e : ∀ s, hn b5 s t = if s = 105 then n else if s = 104 then n else hn h8 s t := fun s => by
      rw [v5, v4]
      show hn (nwA b3 105 n) s t = _
      rw [hn_nwA, hcb3]
      by_cases c : s = 105
      · rw [if_pos ⟨c, rfl⟩, if_pos c]
      · rw [if_neg (fun z => c z.1), if_neg c, v3, v2]
        show hn (nwA b1 104 n) s t = _
        rw [hn_nwA, hcb1]
        by_cases c2 : s = 104
        · rw [if_pos ⟨c2, rfl⟩, if_pos c2]
        · rw [if_neg (fun z => c2 z.1), if_neg c2, n9]
    exact ⟨by rw [e]; exact n8, by rw [e]; rfl, by rw [e]; rfl⟩
  refine sX5_init_113 ?_
  refine hQ b5 fr5 ft5 ?_ ?_ ?_ ?_ ?_ ?_ ?_ ?_
  · rw [kb5, if_neg (by decide), if_neg (by decide)]; exact k8.1
  · rw [kb5, if_neg (by decide), if_neg (by decide)]; exact k8.2.1
  · rw [kb5, if_neg (by decide), if_pos rfl]
  · rw [kb5, if_pos rfl]
  · rw [ii5, i9]; rfl
  · rw [ii5, i9]; rfl
  · rw [ii5, i9]; rfl
  · refine ⟨⟨?_, ?_, nn5.2.1, nn5.2.2, hn140, Nat.zero_le _, ?_, fun k z hz => ?_⟩, fun j hj => ?_, ?_, nn5.1, fun j hj => ?_⟩
    · rw [r5]; rfl
    · rw [r5]; rfl
    · rw [ii5, i9]; rfl
    · cases hz
    · have hj' : j = 31 ∨ j = 32 ∨ j = 33 ∨ j = 34 ∨ j = 35 ∨ j = 36 := by simpa using hj
      rw [ii5, i9]
      rcases hj' with q | q | q | q | q | q <;> subst q <;> rfl
    · rw [r5, if_neg (by decide), if_neg (by decide)]
      exact r8
    · rw [ii5, w9, w8 j hj]
      show 1 = if 100 + j = 31 then _ else _
      rw [if_neg (by omega), if_neg (by omega), if_neg (by omega), if_neg (by omega)]
