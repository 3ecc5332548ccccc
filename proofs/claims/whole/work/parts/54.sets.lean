/-! ===== places: the best set ===== -/
def woF (S : SS) (x : Int32) : Nat → Int32
  | 0 => 0
  | k + 1 => if (x >>> (nI k &&& 31)) &&& 1 = 1 then woF S x k + S 148 k * S 147 k * S 147 k else woF S x k
def coF (S : SS) (x : Int32) : Nat → Int32
  | 0 => 0
  | k + 1 => if (x >>> (nI k &&& 31)) &&& 1 = 1 then coF S x k + S 149 k else coF S x k
def knt : Nat → Int32 → Option Int32
  | 0, x => if x = 0 then some 0 else none
  | f + 1, x => if x = 0 then some 0 else (knt f (x &&& (x - 1))).map (1 + ·)
def allB (f : Nat → Bool) : Nat → Nat → Bool
  | 0, s => f s
  | d + 1, s => allB f d s && allB f d (s + 2 ^ d)
theorem allB_ok {f : Nat → Bool} : ∀ (d s : Nat), allB f d s = true → ∀ i, i < 2 ^ d → f (s + i) = true
  | 0, s, h, i, hi => by
    have e : i = 0 := by
      rw [Nat.pow_zero] at hi
      omega
    rw [e]
    exact h
  | d + 1, s, h, i, hi => by
    unfold allB at h
    rw [Bool.and_eq_true] at h
    rw [Nat.pow_succ] at hi
    by_cases c : i < 2 ^ d
    · exact allB_ok d s h.1 i c
    · have := allB_ok d (s + 2 ^ d) h.2 (i - 2 ^ d) (by omega)
      rw [show s + 2 ^ d + (i - 2 ^ d) = s + i by omega] at this
      exact this
theorem knt_b : allB (fun s => decide (knt 12 (nI s) = some (bcE (nI s)))) 12 0 = true := by decide +kernel
theorem knt_bc : ∀ s, s < 4096 → knt 12 (nI s) = some (bcE (nI s)) := fun s hs => by
  have := allB_ok 12 0 knt_b s hs
  rw [Nat.zero_add] at this
  exact of_decide_eq_true this
theorem lp_X11_ones {d rc rs : Nat} {σ : XH} {Q : XV → XH → Prop} : ∀ (f : Nat) (x y c : Int32), knt f x = some c → Q (vI (y + c)) σ → Ex d rc rs m_X11_ones 4 [vU, vU, vI y, vI x] [] σ Q := by
  intro f
  induction f with
  | zero =>
    intro x y c h hq
    unfold knt at h
    by_cases z : x = 0
    · rw [if_pos z] at h
      cases h
      refine sX11_ones_4 ?_
      unfold bX11_ones_4
      rw [Int32.add_zero] at hq
      exact br_t z hq
    · rw [if_neg z] at h
      cases h
  | succ f ih =>
    intro x y c h hq
    unfold knt at h
    by_cases z : x = 0
    · rw [if_pos z] at h
      cases h
      refine sX11_ones_4 ?_
      unfold bX11_ones_4
      rw [Int32.add_zero] at hq
      exact br_t z hq
    · rw [if_neg z] at h
      cases e : knt f (x &&& (x - 1)) with
      | none =>
        rw [e] at h
        cases h
      | some c2 =>
        rw [e] at h
        have h2 : c = 1 + c2 := by
          cases h
          rfl
        refine sX11_ones_4 ?_
        unfold bX11_ones_4
        refine br_f z (ih _ _ c2 e ?_)
        rw [h2, ← Int32.add_assoc] at hq
        exact hq
theorem sp_X11_ones {d s : Nat} {σ : XH} {Q : XV → XH → Prop} (hs : s < 4096) (h : Q (vI (bcE (nI s))) σ) : Ec d 0 0 m_X11_ones [vR (some (12, 0)), vI (nI s)] σ Q := by
  refine Ec_of mo_X11_ones.1 (Nat.le_of_ble_eq_true rfl) ?_
  refine sX11_ones_0 ?_
  unfold bX11_ones_0
  refine lp_X11_ones 12 _ _ _ (knt_bc s hs) ?_
  rw [Int32.zero_add]
  exact h
theorem lp_X11_worthOf {d rc rs : Nat} {x : Int32} {σ : XH} {S : SS} {Q : XV → XH → Prop} (hM : MI σ) (hI : SInv S) (h : Q (vI (woF S x (nPl S))) (up σ S)) : ∀ (m k : Nat) (a : Int32), k + m = nPl S → a = woF S x k → Ex d rc rs m_X11_worthOf 4 [vR (some (12, 0)), vI x, vI a, vI (nI k)] [] (up σ S) Q := by
  have h9 := hI.l59
  intro m
  induction m with
  | zero =>
    intro k a hk ha
    have e : k = nPl S := by omega
    rw [e] at ha ⊢
    refine sX11_worthOf_4 ?_
    unfold bX11_worthOf_4
    rw [hu_12, hI.n59, ha]
    exact br_f (nI_nlt (Nat.le_refl _) (by omega)) h
  | succ m ih =>
    intro k a hk ha
    have vk : vp_in (nI k) 9 := vp_in_nI (by omega) (by omega)
    have nxt : ∀ q : Int32, a + q = woF S x (k + 1) → Ex d rc rs m_X11_worthOf 46 [vR (some (12, 0)), vI x, vU, vI (nI k)] [vI q, vI a] (up σ S) Q := fun q hq => by
      refine sX11_worthOf_46 ?_
      unfold bX11_worthOf_46
      rw [nI_1]
      exact ih (k + 1) _ (by omega) hq
    refine sX11_worthOf_4 ?_
    unfold bX11_worthOf_4
    rw [hu_12, hI.n59]
    refine br_t (nI_lt (by omega) (by omega)) ⟨fun c => ⟨hM.r148, vp_at hM.n148 vk, hM.r147, vp_at hM.n147 vk, hM.r147, vp_at hM.n147 vk, nxt _ ?_⟩, fun c => nxt _ ?_⟩
    · unfold woF
      rw [if_pos c, ha]
      show _ + S 148 (nI k).toNatClampNeg * S 147 (nI k).toNatClampNeg * S 147 (nI k).toNatClampNeg = _ + S 148 k * S 147 k * S 147 k
      rw [nI_clamp (by omega)]
    · unfold woF
      rw [if_neg c, Int32.add_zero, ha]
theorem sp_X11_worthOf {d : Nat} {x : Int32} {σ : XH} {S : SS} {Q : XV → XH → Prop} (hM : MI σ) (hI : SInv S) (h : Q (vI (woF S x (nPl S))) (up σ S)) : Ec d 0 0 m_X11_worthOf [vR (some (12, 0)), vI x] (up σ S) Q := by
  refine Ec_of mo_X11_worthOf.1 (Nat.le_of_ble_eq_true rfl) ?_
  refine sX11_worthOf_0 ?_
  unfold bX11_worthOf_0
  have g := lp_X11_worthOf (d := d) (rc := 0) (rs := 0) hM hI h (nPl S) 0 0 (by omega) rfl
  rw [nI_0] at g
  exact g
theorem lp_X11_costOf {d rc rs : Nat} {x : Int32} {σ : XH} {S : SS} {Q : XV → XH → Prop} (hM : MI σ) (hI : SInv S) (h : Q (vI (coF S x (nPl S))) (up σ S)) : ∀ (m k : Nat) (a : Int32), k + m = nPl S → a = coF S x k → Ex d rc rs m_X11_costOf 4 [vR (some (12, 0)), vI x, vI a, vI (nI k)] [] (up σ S) Q := by
  have h9 := hI.l59
  intro m
  induction m with
  | zero =>
    intro k a hk ha
    have e : k = nPl S := by omega
    rw [e] at ha ⊢
    refine sX11_costOf_4 ?_
    unfold bX11_costOf_4
    rw [hu_12, hI.n59, ha]
    exact br_f (nI_nlt (Nat.le_refl _) (by omega)) h
  | succ m ih =>
    intro k a hk ha
    have vk : vp_in (nI k) 9 := vp_in_nI (by omega) (by omega)
    have nxt : ∀ q : Int32, a + q = coF S x (k + 1) → Ex d rc rs m_X11_costOf 32 [vR (some (12, 0)), vI x, vU, vI (nI k)] [vI q, vI a] (up σ S) Q := fun q hq => by
      refine sX11_costOf_32 ?_
      unfold bX11_costOf_32
      rw [nI_1]
      exact ih (k + 1) _ (by omega) hq
    refine sX11_costOf_4 ?_
    unfold bX11_costOf_4
    rw [hu_12, hI.n59]
    refine br_t (nI_lt (by omega) (by omega)) ⟨fun c => ⟨hM.r149, vp_at hM.n149 vk, nxt _ ?_⟩, fun c => nxt _ ?_⟩
    · unfold coF
      rw [if_pos c, ha]
      show _ + S 149 (nI k).toNatClampNeg = _ + S 149 k
      rw [nI_clamp (by omega)]
    · unfold coF
      rw [if_neg c, Int32.add_zero, ha]
theorem sp_X11_costOf {d : Nat} {x : Int32} {σ : XH} {S : SS} {Q : XV → XH → Prop} (hM : MI σ) (hI : SInv S) (h : Q (vI (coF S x (nPl S))) (up σ S)) : Ec d 0 0 m_X11_costOf [vR (some (12, 0)), vI x] (up σ S) Q := by
  refine Ec_of mo_X11_costOf.1 (Nat.le_of_ble_eq_true rfl) ?_
  refine sX11_costOf_0 ?_
  unfold bX11_costOf_0
  have g := lp_X11_costOf (d := d) (rc := 0) (rs := 0) hM hI h (nPl S) 0 0 (by omega) rfl
  rw [nI_0] at g
  exact g
theorem lp_X10_worthOf {d rc rs : Nat} {x : Int32} {S : SS} {ρ : List Nat} {σ : XH} {Q : XV → XH → Prop} (hd : 3 ≤ d) (hX : CFX σ) (hL : LL σ (EL S ρ)) (hI : SInv S) (hP : CPl σ S) (h : Q (vI (woF S x (nPl S))) σ) : ∀ (m k : Nat) (a : Int32), k + m = nPl S → a = woF S x k → Ex d rc rs m_X10_worthOf 4 [vR (some (11, 0)), vI x, vI a, vI (nI k)] [] σ Q := by
  have h9 := hI.l59
  have l5 := (EL_len S ρ).2.2.2.2.2
  intro m
  induction m with
  | zero =>
    intro k a hk ha
    have e : k = nPl S := by omega
    rw [e] at ha ⊢
    refine sX10_worthOf_4 ?_
    unfold bX10_worthOf_4
    refine ⟨hX.k11_5, by omega, sp_size (by omega) hL ?_⟩
    rw [l5, ha]
    exact br_f (nI_nlt (Nat.le_refl _) (by omega)) h
  | succ m ih =>
    intro k a hk ha
    have hlk : k < nPl S := by omega
    have nxt : ∀ q : Int32, q = woF S x (k + 1) → Ex d rc rs m_X10_worthOf 41 [vR (some (11, 0)), vI x, vI q, vI (nI k)] [] σ Q := fun q hq => by
      refine sX10_worthOf_41 ?_
      unfold bX10_worthOf_41
      rw [nI_1]
      exact ih (k + 1) _ (by omega) hq
    refine sX10_worthOf_4 ?_
    unfold bX10_worthOf_4
    refine ⟨hX.k11_5, by omega, sp_size (by omega) hL ?_⟩
    rw [l5]
    refine br_t (nI_lt (by omega) (by omega)) ⟨fun c => ⟨hX.k11_5, by omega, ?_⟩, fun c => nxt _ ?_⟩
    · refine sp_get (z := (4, k)) (by omega) (by omega) hL rfl (by simp [EL, hlk]) (by rw [l5]; omega) ?_
      dsimp only [kR]
      refine cst_of rfl (drf_of rfl (nxt _ ?_))
      unfold woF
      rw [if_pos c, ha, (hP.2 k hlk).1]
    · unfold woF
      rw [if_neg c, ha]
theorem sp_X10_worthOf {d : Nat} {x : Int32} {S : SS} {ρ : List Nat} {σ : XH} {Q : XV → XH → Prop} (hd : 3 ≤ d) (hX : CFX σ) (hL : LL σ (EL S ρ)) (hI : SInv S) (hP : CPl σ S) (h : Q (vI (woF S x (nPl S))) σ) : Ec d 0 0 m_X10_worthOf [vR (some (11, 0)), vI x] σ Q := by
  refine Ec_of mo_X10_worthOf.1 (Nat.le_of_ble_eq_true rfl) ?_
  refine sX10_worthOf_0 ?_
  unfold bX10_worthOf_0
  have g := lp_X10_worthOf (d := d) (rc := 0) (rs := 0) (by omega) hX hL hI hP h (nPl S) 0 0 (by omega) rfl
  rw [nI_0] at g
  exact g
theorem lp_X10_costOf {d rc rs : Nat} {x : Int32} {S : SS} {ρ : List Nat} {σ : XH} {Q : XV → XH → Prop} (hd : 3 ≤ d) (hX : CFX σ) (hL : LL σ (EL S ρ)) (hI : SInv S) (hP : CPl σ S) (h : Q (vI (coF S x (nPl S))) σ) : ∀ (m k : Nat) (a : Int32), k + m = nPl S → a = coF S x k → Ex d rc rs m_X10_costOf 4 [vR (some (11, 0)), vI x, vI a, vI (nI k)] [] σ Q := by
  have h9 := hI.l59
  have l5 := (EL_len S ρ).2.2.2.2.2
  intro m
  induction m with
  | zero =>
    intro k a hk ha
    have e : k = nPl S := by omega
    rw [e] at ha ⊢
    refine sX10_costOf_4 ?_
    unfold bX10_costOf_4
    refine ⟨hX.k11_5, by omega, sp_size (by omega) hL ?_⟩
    rw [l5, ha]
    exact br_f (nI_nlt (Nat.le_refl _) (by omega)) h
  | succ m ih =>
    intro k a hk ha
    have hlk : k < nPl S := by omega
    have nxt : ∀ q : Int32, q = coF S x (k + 1) → Ex d rc rs m_X10_costOf 41 [vR (some (11, 0)), vI x, vI q, vI (nI k)] [] σ Q := fun q hq => by
      refine sX10_costOf_41 ?_
      unfold bX10_costOf_41
      rw [nI_1]
      exact ih (k + 1) _ (by omega) hq
    refine sX10_costOf_4 ?_
    unfold bX10_costOf_4
    refine ⟨hX.k11_5, by omega, sp_size (by omega) hL ?_⟩
    rw [l5]
    refine br_t (nI_lt (by omega) (by omega)) ⟨fun c => ⟨hX.k11_5, by omega, ?_⟩, fun c => nxt _ ?_⟩
    · refine sp_get (z := (4, k)) (by omega) (by omega) hL rfl (by simp [EL, hlk]) (by rw [l5]; omega) ?_
      dsimp only [kR]
      refine cst_of rfl (drf_of rfl (nxt _ ?_))
      unfold coF
      rw [if_pos c, ha, (hP.2 k hlk).2]
    · unfold coF
      rw [if_neg c, ha]
theorem sp_X10_costOf {d : Nat} {x : Int32} {S : SS} {ρ : List Nat} {σ : XH} {Q : XV → XH → Prop} (hd : 3 ≤ d) (hX : CFX σ) (hL : LL σ (EL S ρ)) (hI : SInv S) (hP : CPl σ S) (h : Q (vI (coF S x (nPl S))) σ) : Ec d 0 0 m_X10_costOf [vR (some (11, 0)), vI x] σ Q := by
  refine Ec_of mo_X10_costOf.1 (Nat.le_of_ble_eq_true rfl) ?_
  refine sX10_costOf_0 ?_
  unfold bX10_costOf_0
  have g := lp_X10_costOf (d := d) (rc := 0) (rs := 0) (by omega) hX hL hI hP h (nPl S) 0 0 (by omega) rfl
  rw [nI_0] at g
  exact g
/-- of places: lever, chance, cost are in their bounds -/
def PInv (S : SS) : Prop := ∀ k, k < nPl S → inP (S 147 k) (-99) 99 ∧ inP (S 148 k) 0 100 ∧ inP (S 149 k) 0 99
theorem woF_bd {S : SS} (hP : PInv S) (hI : SInv S) (x : Int32) : ∀ k, k ≤ nPl S → (woF S x k).toInt.natAbs ≤ k * 980100
  | 0, _ => by
    show (0 : Int32).toInt.natAbs ≤ 0
    decide
  | k + 1, hk => by
    have h9 := hI.l59
    have ih := woF_bd hP hI x k (by omega)
    unfold woF
    split
    · obtain ⟨p1, p2, -⟩ := hP k (by omega)
      rw [inP_iff, fa_lt, fa_lt] at p1 p2
      have e1 : (-99 : Int32).toInt = -99 := by decide
      have e2 : (99 : Int32).toInt = 99 := by decide
      have e3 : (0 : Int32).toInt = 0 := by decide
      have e4 : (100 : Int32).toInt = 100 := by decide
      have a1 : (S 148 k).toInt.natAbs ≤ 100 := by omega
      have a2 : (S 147 k).toInt.natAbs ≤ 99 := by omega
      have m1 : ((S 148 k).toInt * (S 147 k).toInt).natAbs ≤ 9900 := by
        rw [Int.natAbs_mul]
        exact Nat.mul_le_mul a1 a2
      have f1 : (S 148 k * S 147 k).toInt = (S 148 k).toInt * (S 147 k).toInt := fb_mulI (by omega) (by omega)
      have m2 : ((S 148 k).toInt * (S 147 k).toInt * (S 147 k).toInt).natAbs ≤ 980100 := by
        rw [Int.natAbs_mul]
        exact Nat.mul_le_mul m1 a2
      have f2 : (S 148 k * S 147 k * S 147 k).toInt = (S 148 k).toInt * (S 147 k).toInt * (S 147 k).toInt := by
        rw [fb_mulI (by rw [f1]; omega) (by rw [f1]; omega), f1]
      rw [fb_addI (by rw [f2]; omega) (by rw [f2]; omega), f2]
      omega
    · exact Nat.le_trans ih (Nat.mul_le_mul_right _ (Nat.le_succ k))
theorem sp_X10_isBetter {d : Nat} {x y : Int32} {S : SS} {ρ : List Nat} {σ : XH} {Q : XV → XH → Prop} (hd : 4 ≤ d) (hX : CFX σ) (hL : LL σ (EL S ρ)) (hI : SInv S) (hPI : PInv S) (hP : CPl σ S) (h1 : (woF S y (nPl S) < woF S x (nPl S) ∨ woF S x (nPl S) = woF S y (nPl S) ∧ coF S x (nPl S) < coF S y (nPl S)) → Q (vI 1) σ) (h0 : ¬ (woF S y (nPl S) < woF S x (nPl S) ∨ woF S x (nPl S) = woF S y (nPl S) ∧ coF S x (nPl S) < coF S y (nPl S)) → Q (vI 0) σ) : Ec d 0 0 m_X10_isBetter [vR (some (11, 0)), vI x, vI y] σ Q := by
  have h9 := hI.l59
  have b1 := woF_bd hPI hI x (nPl S) (Nat.le_refl _)
  have b2 := woF_bd hPI hI y (nPl S) (Nat.le_refl _)
  have e0 : (0 : Int32).toInt = 0 := by decide
  have es : (woF S x (nPl S) - woF S y (nPl S)).toInt = (woF S x (nPl S)).toInt - (woF S y (nPl S)).toInt := fb_subI (by omega) (by omega)
  have f33 : (woF S y (nPl S) < woF S x (nPl S) ∨ woF S x (nPl S) = woF S y (nPl S) ∧ coF S x (nPl S) < coF S y (nPl S)) → Ex d 0 0 m_X10_isBetter 33 [vU, vU, vU, vU] [] σ Q := fun z => by
    refine sX10_isBetter_33 ?_
    refine sX10_isBetter_38 ?_
    exact ⟨Or.inr rfl, h1 z⟩
  have f37 : ¬ (woF S y (nPl S) < woF S x (nPl S) ∨ woF S x (nPl S) = woF S y (nPl S) ∧ coF S x (nPl S) < coF S y (nPl S)) → Ex d 0 0 m_X10_isBetter 37 [vU, vU, vU, vU] [] σ Q := fun z => by
    refine sX10_isBetter_37 ?_
    refine sX10_isBetter_38 ?_
    exact ⟨Or.inl rfl, h0 z⟩
  refine Ec_of mo_X10_isBetter.1 (Nat.le_of_ble_eq_true rfl) ?_
  refine sX10_isBetter_0 ?_
  unfold bX10_isBetter_0
  refine ⟨by omega, sp_X10_worthOf (by omega) hX hL hI hP ⟨by omega, sp_X10_worthOf (by omega) hX hL hI hP ?_⟩⟩
  refine ⟨fun c => f33 (Or.inl ?_), fun c => ⟨fun c2 => ⟨by omega, sp_X10_costOf (by omega) hX hL hI hP ⟨by omega, sp_X10_costOf (by omega) hX hL hI hP ?_⟩⟩, fun c2 => f37 ?_⟩⟩
  · rw [fa_lt, es, e0] at c
    rw [fa_lt]
    omega
  · have eq : woF S x (nPl S) = woF S y (nPl S) := by
      rw [fa_eq, es, e0] at c2
      rw [fa_eq]
      omega
    refine ⟨fun c3 => f33 (Or.inr ⟨eq, c3⟩), fun c3 => f37 (fun z => z.elim (fun z => ?_) (fun z => c3 z.2))⟩
    rw [eq] at z
    exact i_lt_irr _ z
  · intro z
    rcases z with z | z
    · rw [fa_lt] at z
      rw [fa_lt, es, e0] at c
      omega
    · apply c2
      rw [z.1]
      rw [fa_eq, fb_subI (by omega) (by omega), e0]
      omega
/-- the best of the first so many sets -/
def bsG (S : SS) (many costs w : Int32) : Nat → Int32
  | 0 => -1
  | s + 1 => if bcE (nI s) = many ∧ (w < 0 ∨ (nI s >>> (w &&& 31)) &&& 1 = 0) ∧ ¬ costs < coF S (nI s) (nPl S) ∧ (bsG S many costs w s < 0 ∨ woF S (bsG S many costs w s) (nPl S) < woF S (nI s) (nPl S) ∨ woF S (nI s) (nPl S) = woF S (bsG S many costs w s) (nPl S) ∧ coF S (nI s) (nPl S) < coF S (bsG S many costs w s) (nPl S)) then nI s else bsG S many costs w s
theorem p2_nI : ∀ n, n < 13 → (1 : Int32) <<< (nI n &&& 31) = nI (2 ^ n) := by decide +kernel
theorem p2_le {n : Nat} (h : n ≤ 9) : 2 ^ n ≤ 512 := Nat.pow_le_pow_right (by decide) h
theorem bcE_0 : bcE (nI 0) = 0 := by decide +kernel
theorem bsG_1 {S : SS} {many costs w : Int32} (hm : inP many 1 5) : bsG S many costs w 1 = -1 := by
  unfold bsG
  rw [if_neg]
  · rfl
  · intro z
    have z1 := z.1
    rw [bcE_0] at z1
    rw [← z1] at hm
    exact absurd hm (by decide)
theorem lp_X10_best {d rc rs : Nat} {many costs w : Int32} {S : SS} {ρ : List Nat} {σ : XH} {Q : XV → XH → Prop} (hd : 5 ≤ d) (hX : CFX σ) (hL : LL σ (EL S ρ)) (hI : SInv S) (hPI : PInv S) (hP : CPl σ S) (h : Q (vI (bsG S many costs w (2 ^ nPl S))) σ) : ∀ (m s : Nat) (b : Int32), s + m = 2 ^ nPl S → b = bsG S many costs w s → Ex d rc rs m_X10_bestSet 6 [vR (some (11, 0)), vI many, vI costs, vI w, vI b, vI (nI s), vU] [] σ Q := by
  have h9 := hI.l59
  have l5 := (EL_len S ρ).2.2.2.2.2
  have hp := p2_le h9
  intro m
  induction m with
  | zero =>
    intro s b hs hb
    have e : s = 2 ^ nPl S := by omega
    rw [e] at hb ⊢
    refine sX10_bestSet_6 ?_
    unfold bX10_bestSet_6
    refine ⟨hX.k11_5, by omega, sp_size (by omega) hL ?_⟩
    rw [l5]
    dsimp only [kI]
    rw [p2_nI _ (by omega), hb]
    exact br_f (nI_nlt (Nat.le_refl _) (by omega)) h
  | succ m ih =>
    intro s b hs hb
    have nxt : ∀ q : Int32, q = bsG S many costs w (s + 1) → Ex d rc rs m_X10_bestSet 84 [vR (some (11, 0)), vI many, vI costs, vI w, vI q, vI (nI s), vU] [] σ Q := fun q hq => by
      refine sX10_bestSet_84 ?_
      unfold bX10_bestSet_84
      rw [nI_1]
      exact ih (s + 1) _ (by omega) hq
    have no : ¬ (bcE (nI s) = many ∧ (w < 0 ∨ (nI s >>> (w &&& 31)) &&& 1 = 0) ∧ ¬ costs < coF S (nI s) (nPl S) ∧ (b < 0 ∨ woF S b (nPl S) < woF S (nI s) (nPl S) ∨ woF S (nI s) (nPl S) = woF S b (nPl S) ∧ coF S (nI s) (nPl S) < coF S b (nPl S))) → Ex d rc rs m_X10_bestSet 84 [vR (some (11, 0)), vI many, vI costs, vI w, vI b, vI (nI s), vU] [] σ Q := fun z => nxt b (by
      unfold bsG
      rw [← hb, if_neg z])
    have yes : (bcE (nI s) = many ∧ (w < 0 ∨ (nI s >>> (w &&& 31)) &&& 1 = 0) ∧ ¬ costs < coF S (nI s) (nPl S) ∧ (b < 0 ∨ woF S b (nPl S) < woF S (nI s) (nPl S) ∨ woF S (nI s) (nPl S) = woF S b (nPl S) ∧ coF S (nI s) (nPl S) < coF S b (nPl S))) → Ex d rc rs m_X10_bestSet 80 [vR (some (11, 0)), vI many, vI costs, vI w, vU, vI (nI s), vU] [] σ Q := fun z => by
      refine sX10_bestSet_80 ?_
      refine nxt _ ?_
      unfold bsG
      rw [← hb, if_pos z]
    have f46 : ¬ (bcE (nI s) = many ∧ (w < 0 ∨ (nI s >>> (w &&& 31)) &&& 1 = 0)) → Ex d rc rs m_X10_bestSet 46 [vR (some (11, 0)), vI many, vI costs, vI w, vI b, vI (nI s), vU] [] σ Q := fun z => by
      refine sX10_bestSet_46 ?_
      refine sX10_bestSet_47 ?_
      exact br_t rfl (no (fun y => z ⟨y.1, y.2.1⟩))
    have f42 : bcE (nI s) = many → (w < 0 ∨ (nI s >>> (w &&& 31)) &&& 1 = 0) → Ex d rc rs m_X10_bestSet 42 [vR (some (11, 0)), vI many, vI costs, vI w, vI b, vI (nI s), vU] [] σ Q := fun z1 z2 => by
      refine sX10_bestSet_42 ?_
      refine sX10_bestSet_47 ?_
      refine br_f (by decide) ⟨by omega, sp_X10_costOf (by omega) hX hL hI hP ?_⟩
      refine ⟨fun c => no (fun y => y.2.2.1 c), fun c => ⟨fun c2 => yes ⟨z1, z2, c, Or.inl c2⟩, fun c2 => ⟨by omega, ?_⟩⟩⟩
      exact sp_X10_isBetter (by omega) hX hL hI hPI hP (fun c3 => br_f (by decide) (yes ⟨z1, z2, c, Or.inr c3⟩)) (fun c3 => br_t rfl (no (fun y => y.2.2.2.elim c2 c3)))
    refine sX10_bestSet_6 ?_
    unfold bX10_bestSet_6
    refine ⟨hX.k11_5, by omega, sp_size (by omega) hL ?_⟩
    rw [l5]
    dsimp only [kI]
    rw [p2_nI _ (by omega)]
    refine br_t (nI_lt (by omega) (by omega)) ⟨by omega, sp_bitCount ?_⟩
    exact ⟨fun c => ⟨fun c2 => f42 c (Or.inl c2), fun c2 => ⟨fun c3 => f42 c (Or.inr c3), fun c3 => f46 (fun z => z.2.elim c2 c3)⟩⟩, fun c => f46 (fun z => c z.1)⟩
theorem sp_X10_bestSet {d : Nat} {many costs w : Int32} {S : SS} {ρ : List Nat} {σ : XH} {Q : XV → XH → Prop} (hd : 5 ≤ d) (hX : CFX σ) (hL : LL σ (EL S ρ)) (hI : SInv S) (hPI : PInv S) (hP : CPl σ S) (hm : inP many 1 5) (h : Q (vI (bsG S many costs w (2 ^ nPl S))) σ) : Ec d 0 0 m_X10_bestSet [vR (some (11, 0)), vI many, vI costs, vI w] σ Q := by
  have hp : 1 ≤ 2 ^ nPl S := Nat.one_le_two_pow
  refine Ec_of mo_X10_bestSet.1 (Nat.le_of_ble_eq_true rfl) ?_
  refine sX10_bestSet_0 ?_
  unfold bX10_bestSet_0
  exact lp_X10_best (d := d) (rc := 0) (rs := 0) hd hX hL hI hPI hP h (2 ^ nPl S - 1) 1 (-1) (by omega) (bsG_1 hm).symm
/-- the reference asks with a mask -/
def msk9 (w mk : Int32) : Prop := ∀ s, s < 512 → ((nI s &&& mk = 0) ↔ (w < 0 ∨ (nI s >>> (w &&& 31)) &&& 1 = 0))
theorem msk9_0 : msk9 (-1) 0 := fun s hs => ⟨fun _ => Or.inl (by decide), fun _ => Int32.and_zero⟩
theorem msk9_w : ∀ p, p < 9 → ∀ s, s < 512 → ((nI s &&& (1 : Int32) <<< (nI p &&& 31) = 0) ↔ ((nI s >>> (nI p &&& 31)) &&& 1 = 0)) := by decide +kernel
theorem msk9_p {p : Nat} (hp : p < 9) : msk9 (nI p) ((1 : Int32) <<< (nI p &&& 31)) := fun s hs => (msk9_w p hp s hs).trans ⟨Or.inr, fun z => z.resolve_left (nI_pos (by omega))⟩
theorem lp_X11_best {d rc rs : Nat} {many costs w mk : Int32} {σ : XH} {S : SS} {Q : XV → XH → Prop} (hd : 1 ≤ d) (hM : MI σ) (hI : SInv S) (hmk : msk9 w mk) (h : Q (vI (bsG S many costs w (2 ^ nPl S))) (up σ S)) : ∀ (m s : Nat) (b : Int32), s + m = 2 ^ nPl S → b = bsG S many costs w s → Ex d rc rs m_X11_bestSet 6 [vR (some (12, 0)), vI many, vI costs, vI mk, vI b, vI (nI s)] [] (up σ S) Q := by
  have h9 := hI.l59
  have hp := p2_le h9
  intro m
  induction m with
  | zero =>
    intro s b hs hb
    have e : s = 2 ^ nPl S := by omega
    rw [e] at hb ⊢
    refine sX11_bestSet_6 ?_
    unfold bX11_bestSet_6
    rw [hu_12, hI.n59, p2_nI _ (by omega), hb]
    exact br_f (nI_nlt (Nat.le_refl _) (by omega)) h
  | succ m ih =>
    intro s b hs hb
    have nxt : ∀ q : Int32, q = bsG S many costs w (s + 1) → Ex d rc rs m_X11_bestSet 101 [vR (some (12, 0)), vI many, vI costs, vI mk, vI q, vI (nI s)] [] (up σ S) Q := fun q hq => by
      refine sX11_bestSet_101 ?_
      unfold bX11_bestSet_101
      rw [nI_1]
      exact ih (s + 1) _ (by omega) hq
    have no : ¬ (bcE (nI s) = many ∧ (w < 0 ∨ (nI s >>> (w &&& 31)) &&& 1 = 0) ∧ ¬ costs < coF S (nI s) (nPl S) ∧ (b < 0 ∨ woF S b (nPl S) < woF S (nI s) (nPl S) ∨ woF S (nI s) (nPl S) = woF S b (nPl S) ∧ coF S (nI s) (nPl S) < coF S b (nPl S))) → Ex d rc rs m_X11_bestSet 101 [vR (some (12, 0)), vI many, vI costs, vI mk, vI b, vI (nI s)] [] (up σ S) Q := fun z => nxt b (by
      unfold bsG
      rw [← hb, if_neg z])
    have yes : (bcE (nI s) = many ∧ (w < 0 ∨ (nI s >>> (w &&& 31)) &&& 1 = 0) ∧ ¬ costs < coF S (nI s) (nPl S) ∧ (b < 0 ∨ woF S b (nPl S) < woF S (nI s) (nPl S) ∨ woF S (nI s) (nPl S) = woF S b (nPl S) ∧ coF S (nI s) (nPl S) < coF S b (nPl S))) → Ex d rc rs m_X11_bestSet 97 [vR (some (12, 0)), vI many, vI costs, vI mk, vU, vI (nI s)] [] (up σ S) Q := fun z => by
      refine sX11_bestSet_97 ?_
      refine nxt _ ?_
      unfold bsG
      rw [← hb, if_pos z]
    refine sX11_bestSet_6 ?_
    unfold bX11_bestSet_6
    rw [hu_12, hI.n59, p2_nI _ (by omega)]
    refine br_t (nI_lt (by omega) (by omega)) ⟨by omega, sp_X11_ones (by omega) ?_⟩
    refine ⟨fun c1 => ⟨by omega, sp_X11_costOf hM hI ?_⟩, fun c1 => no (fun z => c1 z.1)⟩
    refine ⟨fun c2 => no (fun z => z.2.2.1 c2), fun c2 => ⟨fun c3 => ?_, fun c3 => no (fun z => c3 ((hmk s (by omega)).mpr z.2.1))⟩⟩
    have c3' := (hmk s (by omega)).mp c3
    refine ⟨fun c4 => yes ⟨c1, c3', c2, Or.inl c4⟩, fun c4 => ⟨by omega, sp_X11_worthOf hM hI ⟨by omega, sp_X11_worthOf hM hI ?_⟩⟩⟩
    refine ⟨fun c5 => yes ⟨c1, c3', c2, Or.inr (Or.inl c5)⟩, fun c5 => ?_⟩
    refine sX11_bestSet_67 ?_
    refine ⟨by omega, sp_X11_worthOf hM hI ⟨by omega, sp_X11_worthOf hM hI ?_⟩⟩
    refine ⟨fun c6 => ⟨by omega, sp_X11_costOf hM hI ⟨by omega, sp_X11_costOf hM hI ?_⟩⟩, fun c6 => no (fun z => z.2.2.2.elim c4 (fun z => z.elim c5 (fun z => c6 z.1)))⟩
    exact ⟨fun c7 => yes ⟨c1, c3', c2, Or.inr (Or.inr ⟨c6, c7⟩)⟩, fun c7 => no (fun z => z.2.2.2.elim c4 (fun z => z.elim c5 (fun z => c7 z.2)))⟩
theorem sp_X11_bestSet {d : Nat} {many costs w mk : Int32} {σ : XH} {S : SS} {Q : XV → XH → Prop} (hd : 1 ≤ d) (hM : MI σ) (hI : SInv S) (hmk : msk9 w mk) (h : Q (vI (bsG S many costs w (2 ^ nPl S))) (up σ S)) : Ec d 0 0 m_X11_bestSet [vR (some (12, 0)), vI many, vI costs, vI mk] (up σ S) Q := by
  refine Ec_of mo_X11_bestSet.1 (Nat.le_of_ble_eq_true rfl) ?_
  refine sX11_bestSet_0 ?_
  unfold bX11_bestSet_0
  have g := lp_X11_best (d := d) (rc := 0) (rs := 0) hd hM hI hmk h (2 ^ nPl S) 0 (-1) (by omega) rfl
  rw [nI_0] at g
  exact g
def goG (S : SS) (many costs what : Int32) : Int32 := if inP what 0 2 then (if inP many 1 5 ∧ inP costs 0 400 then (if bsG S many costs (-1) (2 ^ nPl S) < 0 then -3 else if what = 0 then woF S (bsG S many costs (-1) (2 ^ nPl S)) (nPl S) else if what = 1 then bsG S many costs (-1) (2 ^ nPl S) else coF S (bsG S many costs (-1) (2 ^ nPl S)) (nPl S)) else -2) else -1
def lostG (S : SS) (many costs p : Int32) : Int32 := if inP p 0 (S 12 59 - 1) then (if inP many 1 5 ∧ inP costs 0 400 then (if bsG S many costs (-1) (2 ^ nPl S) < 0 ∨ bsG S many costs p (2 ^ nPl S) < 0 then -3 else woF S (bsG S many costs (-1) (2 ^ nPl S)) (nPl S) - woF S (bsG S many costs p (2 ^ nPl S)) (nPl S)) else -2) else -1
theorem sp_X10_go {d : Nat} {many costs what : Int32} {S : SS} {ρ : List Nat} {σ : XH} {Q : XV → XH → Prop} (hd : 6 ≤ d) (hX : CFX σ) (hL : LL σ (EL S ρ)) (hI : SInv S) (hPI : PInv S) (hP : CPl σ S) (h : Q (vI (goG S many costs what)) σ) : Ec d 0 0 m_X10_go [vR (some (11, 0)), vI many, vI costs, vI what] σ Q := by
  unfold goG at h
  have bad : inP what 0 2 → ¬ (inP many 1 5 ∧ inP costs 0 400) → Ex d 0 0 m_X10_go 31 [vU, vU, vU, vU, vU] [] σ Q := fun z1 z2 => by
    rw [if_pos z1, if_neg z2] at h
    refine sX10_go_31 ?_
    exact h
  refine Ec_of mo_X10_go.1 (Nat.le_of_ble_eq_true rfl) ?_
  refine sX10_go_0 ?_
  unfold bX10_go_0
  refine ⟨by omega, sp_X10_within (fun z => br_f (by decide) ⟨by omega, ?_⟩) (fun z => br_t rfl ?_)⟩
  · refine sp_X10_within (fun z2 => br_f (by decide) ⟨by omega, ?_⟩) (fun z2 => br_t rfl (bad z (fun y => z2 y.1)))
    refine sp_X10_within (fun z3 => br_f (by decide) ⟨by omega, ?_⟩) (fun z3 => br_t rfl (bad z (fun y => z3 y.2)))
    rw [if_pos z, if_pos ⟨z2, z3⟩] at h
    refine sp_X10_bestSet (by omega) hX hL hI hPI hP z2 ?_
    refine ⟨fun c => ?_, fun c => ⟨fun e => ⟨by omega, ?_⟩, fun n0 => ⟨fun e => ?_, fun n1 => ⟨by omega, ?_⟩⟩⟩⟩
    · rw [if_pos c] at h
      exact h
    · rw [if_neg c, if_pos e] at h
      exact sp_X10_worthOf (by omega) hX hL hI hP h
    · rw [if_neg c, if_neg n0, if_pos e] at h
      exact h
    · rw [if_neg c, if_neg n0, if_neg n1] at h
      exact sp_X10_costOf (by omega) hX hL hI hP h
  · rw [if_neg z] at h
    exact h
theorem sp_X10_lost {d : Nat} {many costs p : Int32} {S : SS} {ρ : List Nat} {σ : XH} {Q : XV → XH → Prop} (hd : 6 ≤ d) (hX : CFX σ) (hL : LL σ (EL S ρ)) (hI : SInv S) (hPI : PInv S) (hP : CPl σ S) (h : Q (vI (lostG S many costs p)) σ) : Ec d 0 0 m_X10_lost [vR (some (11, 0)), vI many, vI costs, vI p] σ Q := by
  unfold lostG at h
  have l5 := (EL_len S ρ).2.2.2.2.2
  have bad : inP p 0 (S 12 59 - 1) → ¬ (inP many 1 5 ∧ inP costs 0 400) → Ex d 0 0 m_X10_lost 39 [vU, vU, vU, vU, vU, vU] [] σ Q := fun z1 z2 => by
    rw [if_pos z1, if_neg z2] at h
    refine sX10_lost_39 ?_
    exact h
  refine Ec_of mo_X10_lost.1 (Nat.le_of_ble_eq_true rfl) ?_
  refine sX10_lost_0 ?_
  unfold bX10_lost_0
  refine ⟨hX.k11_5, by omega, sp_size (by omega) hL ⟨by omega, ?_⟩⟩
  rw [l5, ← hI.n59]
  refine sp_X10_within (fun z => br_f (by decide) ⟨by omega, ?_⟩) (fun z => br_t rfl ?_)
  · refine sp_X10_within (fun z2 => br_f (by decide) ⟨by omega, ?_⟩) (fun z2 => br_t rfl (bad z (fun y => z2 y.1)))
    refine sp_X10_within (fun z3 => br_f (by decide) ⟨by omega, ?_⟩) (fun z3 => br_t rfl (bad z (fun y => z3 y.2)))
    rw [if_pos z, if_pos ⟨z2, z3⟩] at h
    refine sp_X10_bestSet (by omega) hX hL hI hPI hP z2 ⟨by omega, ?_⟩
    refine sp_X10_bestSet (by omega) hX hL hI hPI hP z2 ?_
    have f70 : (bsG S many costs (-1) (2 ^ nPl S) < 0 ∨ bsG S many costs p (2 ^ nPl S) < 0) → Ex d 0 0 m_X10_lost 70 [vU, vU, vU, vU, vU, vU] [] σ Q := fun y => by
      rw [if_pos y] at h
      refine sX10_lost_70 ?_
      refine sX10_lost_88 ?_
      exact h
    refine ⟨fun c => f70 (Or.inl c), fun c => ⟨fun c2 => f70 (Or.inr c2), fun c2 => ⟨by omega, ?_⟩⟩⟩
    rw [if_neg (fun y => y.elim c c2)] at h
    refine sp_X10_worthOf (by omega) hX hL hI hP ⟨by omega, ?_⟩
    refine sp_X10_worthOf (by omega) hX hL hI hP ?_
    refine sX10_lost_88 ?_
    exact h
  · rw [if_neg z] at h
    exact h
theorem sp_X11_go {d : Nat} {many costs what : Int32} {σ : XH} {S : SS} {Q : XV → XH → Prop} (hd : 2 ≤ d) (hM : MI σ) (hI : SInv S) (h : Q (vI (goG S many costs what)) (up σ S)) : Ec d 0 0 m_X11_go [vR (some (12, 0)), vI many, vI costs, vI what] (up σ S) Q := by
  unfold goG at h
  refine Ec_of mo_X11_go.1 (Nat.le_of_ble_eq_true rfl) ?_
  refine sX11_go_0 ?_
  unfold bX11_go_0
  refine ⟨by omega, sp_X11_in (by omega) (fun z => br_f (by decide) ⟨by omega, ?_⟩) (fun z => br_t rfl ?_)⟩
  · rw [if_pos z] at h
    refine sp_X11_isGo (by omega) (fun z2 => br_f (by decide) ⟨by omega, ?_⟩) (fun z2 => br_t rfl ?_)
    · rw [if_pos z2] at h
      refine sp_X11_bestSet (by omega) hM hI msk9_0 ?_
      refine ⟨fun c => ?_, fun c => ⟨fun e => ⟨by omega, ?_⟩, fun n0 => ?_⟩⟩
      · rw [if_pos c] at h
        refine sX11_go_72 ?_
        exact h
      · rw [if_neg c, if_pos e] at h
        refine sp_X11_worthOf hM hI ?_
        refine sX11_go_72 ?_
        exact h
      · rw [if_neg c, if_neg n0] at h
        refine sX11_go_56 ?_
        refine ⟨fun e => ?_, fun n1 => ⟨by omega, ?_⟩⟩
        · rw [if_pos e] at h
          refine sX11_go_72 ?_
          exact h
        · rw [if_neg n1] at h
          refine sp_X11_costOf hM hI ?_
          refine sX11_go_72 ?_
          exact h
    · rw [if_neg z2] at h
      exact h
  · rw [if_neg z] at h
    exact h
theorem sp_X11_lost {d : Nat} {many costs p : Int32} {σ : XH} {S : SS} {Q : XV → XH → Prop} (hd : 2 ≤ d) (hM : MI σ) (hI : SInv S) (h : Q (vI (lostG S many costs p)) (up σ S)) : Ec d 0 0 m_X11_lost [vR (some (12, 0)), vI many, vI costs, vI p] (up σ S) Q := by
  unfold lostG at h
  refine Ec_of mo_X11_lost.1 (Nat.le_of_ble_eq_true rfl) ?_
  refine sX11_lost_0 ?_
  unfold bX11_lost_0
  rw [hu_12]
  refine ⟨by omega, sp_X11_in (by omega) (fun z => br_f (by decide) ⟨by omega, ?_⟩) (fun z => br_t rfl ?_)⟩
  · rw [if_pos z] at h
    refine sp_X11_isGo (by omega) (fun z2 => br_f (by decide) ⟨by omega, ?_⟩) (fun z2 => br_t rfl ?_)
    · rw [if_pos z2] at h
      have vp : vp_in p (nPl S) := (inP_nI (by have := hI.l59; omega)).mp (by rw [← hI.n59]; exact z)
      have ep : p = nI p.toNatClampNeg := nI_of_nn (vp_nn vp)
      have hp : p.toNatClampNeg < 9 := Nat.lt_of_lt_of_le (vp_lt vp) hI.l59
      refine sp_X11_bestSet (by omega) hM hI msk9_0 ⟨by omega, ?_⟩
      refine sp_X11_bestSet (w := p) (by omega) hM hI (by rw [ep]; exact msk9_p hp) ?_
      have f59 : (bsG S many costs (-1) (2 ^ nPl S) < 0 ∨ bsG S many costs p (2 ^ nPl S) < 0) → Ex d 0 0 m_X11_lost 59 [vU, vU, vU, vU, vU, vU] [] (up σ S) Q := fun y => by
        rw [if_pos y] at h
        refine sX11_lost_59 ?_
        refine sX11_lost_77 ?_
        exact h
      refine sX11_lost_49 ?_
      refine ⟨fun c => f59 (Or.inl c), fun c => ⟨fun c2 => f59 (Or.inr c2), fun c2 => ⟨by omega, ?_⟩⟩⟩
      rw [if_neg (fun y => y.elim c c2)] at h
      refine sp_X11_worthOf hM hI ⟨by omega, ?_⟩
      refine sp_X11_worthOf hM hI ?_
      refine sX11_lost_77 ?_
      exact h
    · rw [if_neg z2] at h
      exact h
  · rw [if_neg z] at h
    exact h
