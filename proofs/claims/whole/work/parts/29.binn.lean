/-! ===== blocks: 29.binn ===== -/
/-! SpotTimers$Acts.<init>()V -/
theorem dX0_init_0 : decode cX0_init 0 = .ok (.aload_n 0, 1) := by decide +kernel
theorem dX0_init_1 : decode cX0_init 1 = .ok (.invokespecial 3, 3) := by decide +kernel
theorem dX0_init_4 : decode cX0_init 4 = .ok (.aload_n 0, 1) := by decide +kernel
theorem dX0_init_5 : decode cX0_init 5 = .ok (.bipush 20, 2) := by decide +kernel
theorem dX0_init_7 : decode cX0_init 7 = .ok (.newarray .int, 2) := by decide +kernel
theorem dX0_init_9 : decode cX0_init 9 = .ok (.putfield 9, 3) := by decide +kernel
theorem dX0_init_12 : decode cX0_init 12 = .ok (.aload_n 0, 1) := by decide +kernel
theorem dX0_init_13 : decode cX0_init 13 = .ok (.iconst 0, 1) := by decide +kernel
theorem dX0_init_14 : decode cX0_init 14 = .ok (.putfield 15, 3) := by decide +kernel
theorem dX0_init_17 : decode cX0_init 17 = .ok (.aload_n 0, 1) := by decide +kernel
theorem dX0_init_18 : decode cX0_init 18 = .ok (.iconst 0, 1) := by decide +kernel
theorem dX0_init_19 : decode cX0_init 19 = .ok (.putfield 19, 3) := by decide +kernel
theorem dX0_init_22 : decode cX0_init 22 = .ok (.aload_n 0, 1) := by decide +kernel
theorem dX0_init_23 : decode cX0_init 23 = .ok (.iconst 0, 1) := by decide +kernel
theorem dX0_init_24 : decode cX0_init 24 = .ok (.putfield 22, 3) := by decide +kernel
theorem dX0_init_27 : decode cX0_init 27 = .ok (.aload_n 0, 1) := by decide +kernel
theorem dX0_init_28 : decode cX0_init 28 = .ok (.iconst 0, 1) := by decide +kernel
theorem dX0_init_29 : decode cX0_init 29 = .ok (.putfield 25, 3) := by decide +kernel
theorem dX0_init_32 : decode cX0_init 32 = .ok (.return_, 1) := by decide +kernel
theorem oX0_init_0 : OKI 0 0 (.aload_n 0, 1, [0], 0, 0, []) := And.intro dX0_init_0 (And.intro rfl (rfl))
theorem oX0_init_1 : OKI 0 1 (.invokespecial 3, 4, [9004], 0, 0, []) := And.intro dX0_init_1 (And.intro rfl (And.intro rfl (And.intro (tm_1 _ (List.mem_of_getElem? (i := 193) rfl) rfl) (And.intro (tm_1 _ (List.mem_of_getElem? (i := 32) rfl) rfl) (tm_1 _ (List.mem_of_getElem? (i := 33) rfl) rfl)))))
theorem oX0_init_4 : OKI 0 4 (.aload_n 0, 5, [0], 0, 0, []) := And.intro dX0_init_4 (And.intro rfl (rfl))
theorem oX0_init_5 : OKI 0 5 (.bipush 20, 7, [], 20, 0, []) := And.intro dX0_init_5 (And.intro rfl (by decide +kernel))
theorem oX0_init_7 : OKI 0 7 (.newarray .int, 9, [100], 0, 0, []) := And.intro dX0_init_7 (And.intro rfl (And.intro (And.intro (by decide) (by decide)) (tm_1 _ (List.mem_of_getElem? (i := 80) rfl) rfl)))
theorem oX0_init_9 : OKI 0 9 (.putfield 9, 12, [1, 0, 2], 0, 0, []) := And.intro dX0_init_9 (And.intro rfl (⟨(RX0, TX0, 5), "SpotTimers$Acts", rfl, by decide, tm_1 _ (List.mem_of_getElem? (i := 194) rfl) rfl, Or.inl rfl, Or.inr (And.intro rfl (And.intro rfl rfl)), rfl⟩))
theorem oX0_init_12 : OKI 0 12 (.aload_n 0, 13, [0], 0, 0, []) := And.intro dX0_init_12 (And.intro rfl (rfl))
theorem oX0_init_13 : OKI 0 13 (.iconst 0, 14, [], 0, 0, []) := And.intro dX0_init_13 (And.intro rfl (by decide +kernel))
theorem oX0_init_14 : OKI 0 14 (.putfield 15, 17, [1, 1, 0], 0, 0, []) := And.intro dX0_init_14 (And.intro rfl (⟨(RX0, TX0, 5), "SpotTimers$Acts", rfl, by decide, tm_1 _ (List.mem_of_getElem? (i := 196) rfl) rfl, Or.inl rfl, Or.inl rfl, rfl⟩))
theorem oX0_init_17 : OKI 0 17 (.aload_n 0, 18, [0], 0, 0, []) := And.intro dX0_init_17 (And.intro rfl (rfl))
theorem oX0_init_18 : OKI 0 18 (.iconst 0, 19, [], 0, 0, []) := And.intro dX0_init_18 (And.intro rfl (by decide +kernel))
theorem oX0_init_19 : OKI 0 19 (.putfield 19, 22, [1, 2, 0], 0, 0, []) := And.intro dX0_init_19 (And.intro rfl (⟨(RX0, TX0, 5), "SpotTimers$Acts", rfl, by decide, tm_1 _ (List.mem_of_getElem? (i := 198) rfl) rfl, Or.inl rfl, Or.inl rfl, rfl⟩))
theorem oX0_init_22 : OKI 0 22 (.aload_n 0, 23, [0], 0, 0, []) := And.intro dX0_init_22 (And.intro rfl (rfl))
theorem oX0_init_23 : OKI 0 23 (.iconst 0, 24, [], 0, 0, []) := And.intro dX0_init_23 (And.intro rfl (by decide +kernel))
theorem oX0_init_24 : OKI 0 24 (.putfield 22, 27, [1, 3, 0], 0, 0, []) := And.intro dX0_init_24 (And.intro rfl (⟨(RX0, TX0, 5), "SpotTimers$Acts", rfl, by decide, tm_1 _ (List.mem_of_getElem? (i := 199) rfl) rfl, Or.inl rfl, Or.inl rfl, rfl⟩))
theorem oX0_init_27 : OKI 0 27 (.aload_n 0, 28, [0], 0, 0, []) := And.intro dX0_init_27 (And.intro rfl (rfl))
theorem oX0_init_28 : OKI 0 28 (.iconst 0, 29, [], 0, 0, []) := And.intro dX0_init_28 (And.intro rfl (by decide +kernel))
theorem oX0_init_29 : OKI 0 29 (.putfield 25, 32, [1, 4, 0], 0, 0, []) := And.intro dX0_init_29 (And.intro rfl (⟨(RX0, TX0, 5), "SpotTimers$Acts", rfl, by decide, tm_1 _ (List.mem_of_getElem? (i := 200) rfl) rfl, Or.inl rfl, Or.inl rfl, rfl⟩))
theorem oX0_init_32 : OKI 0 32 (.return_, 33, [], 0, 0, []) := And.intro dX0_init_32 rfl
def pfX0_init (pc : Nat) : Option XE := (bif Nat.blt pc 17 then (bif Nat.blt pc 7 then (bif Nat.blt pc 4 then (bif Nat.blt pc 1 then (bif Nat.beq pc 0 then some (.aload_n 0, 1, [0], 0, 0, []) else none) else (bif Nat.beq pc 1 then some (.invokespecial 3, 4, [9004], 0, 0, []) else none)) else (bif Nat.blt pc 5 then (bif Nat.beq pc 4 then some (.aload_n 0, 5, [0], 0, 0, []) else none) else (bif Nat.beq pc 5 then some (.bipush 20, 7, [], 20, 0, []) else none))) else (bif Nat.blt pc 12 then (bif Nat.blt pc 9 then (bif Nat.beq pc 7 then some (.newarray .int, 9, [100], 0, 0, []) else none) else (bif Nat.beq pc 9 then some (.putfield 9, 12, [1, 0, 2], 0, 0, []) else none)) else (bif Nat.blt pc 13 then (bif Nat.beq pc 12 then some (.aload_n 0, 13, [0], 0, 0, []) else none) else (bif Nat.blt pc 14 then (bif Nat.beq pc 13 then some (.iconst 0, 14, [], 0, 0, []) else none) else (bif Nat.beq pc 14 then some (.putfield 15, 17, [1, 1, 0], 0, 0, []) else none))))) else (bif Nat.blt pc 24 then (bif Nat.blt pc 19 then (bif Nat.blt pc 18 then (bif Nat.beq pc 17 then some (.aload_n 0, 18, [0], 0, 0, []) else none) else (bif Nat.beq pc 18 then some (.iconst 0, 19, [], 0, 0, []) else none)) else (bif Nat.blt pc 22 then (bif Nat.beq pc 19 then some (.putfield 19, 22, [1, 2, 0], 0, 0, []) else none) else (bif Nat.blt pc 23 then (bif Nat.beq pc 22 then some (.aload_n 0, 23, [0], 0, 0, []) else none) else (bif Nat.beq pc 23 then some (.iconst 0, 24, [], 0, 0, []) else none)))) else (bif Nat.blt pc 28 then (bif Nat.blt pc 27 then (bif Nat.beq pc 24 then some (.putfield 22, 27, [1, 3, 0], 0, 0, []) else none) else (bif Nat.beq pc 27 then some (.aload_n 0, 28, [0], 0, 0, []) else none)) else (bif Nat.blt pc 29 then (bif Nat.beq pc 28 then some (.iconst 0, 29, [], 0, 0, []) else none) else (bif Nat.blt pc 32 then (bif Nat.beq pc 29 then some (.putfield 25, 32, [1, 4, 0], 0, 0, []) else none) else (bif Nat.beq pc 32 then some (.return_, 33, [], 0, 0, []) else none))))))
theorem okX0_init : ∀ pc Y, pfX0_init pc = some Y → OKI m_X0_init pc Y := fun pc Y => ((bt_node (bt_node (bt_node (bt_node (bt_leaf (P := OKI m_X0_init) oX0_init_0) (bt_leaf (P := OKI m_X0_init) oX0_init_1)) (bt_node (bt_leaf (P := OKI m_X0_init) oX0_init_4) (bt_leaf (P := OKI m_X0_init) oX0_init_5))) (bt_node (bt_node (bt_leaf (P := OKI m_X0_init) oX0_init_7) (bt_leaf (P := OKI m_X0_init) oX0_init_9)) (bt_node (bt_leaf (P := OKI m_X0_init) oX0_init_12) (bt_node (bt_leaf (P := OKI m_X0_init) oX0_init_13) (bt_leaf (P := OKI m_X0_init) oX0_init_14))))) (bt_node (bt_node (bt_node (bt_leaf (P := OKI m_X0_init) oX0_init_17) (bt_leaf (P := OKI m_X0_init) oX0_init_18)) (bt_node (bt_leaf (P := OKI m_X0_init) oX0_init_19) (bt_node (bt_leaf (P := OKI m_X0_init) oX0_init_22) (bt_leaf (P := OKI m_X0_init) oX0_init_23)))) (bt_node (bt_node (bt_leaf (P := OKI m_X0_init) oX0_init_24) (bt_leaf (P := OKI m_X0_init) oX0_init_27)) (bt_node (bt_leaf (P := OKI m_X0_init) oX0_init_28) (bt_node (bt_leaf (P := OKI m_X0_init) oX0_init_29) (bt_leaf (P := OKI m_X0_init) oX0_init_32)))))) : pfX0_init pc = some Y → OKI m_X0_init pc Y)
def stpX0_init (_ : Nat) : Option (List Bool) := none
def bX0_init_0 (d rc rs : Nat) (t : Nat)  (σ : XH) (Q : XV → XH → Prop) : Prop :=
  ((1 ≤ d ∧ (¬ (20 : Int32) < 0 ∧ (20 : Int32).toNatClampNeg ≤ 100000 ∧ 1 ≤ rc ∧ (20 : Int32).toNatClampNeg ≤ rs ∧ (∀ h1, h1 = nwA σ 100 (20 : Int32).toNatClampNeg → ((∀ h2, h2 = wR h1 1 t 0 (some (100, hc σ 100)) → ((∀ h3, h3 = wI h2 1 t 1 0 → ((∀ h4, h4 = wI h3 1 t 2 0 → ((∀ h5, h5 = wI h4 1 t 3 0 → ((∀ h6, h6 = wI h5 1 t 4 0 → Q vU h6))))))))))))))
theorem sX0_init_0 {d rc rs : Nat} {t : Nat}  {σ : XH} {Q : XV → XH → Prop} (h : bX0_init_0 d rc rs t  σ Q) : Ex d rc rs m_X0_init 0 [vR (some (1, t))] [] σ Q :=
  xtree_sound (stop := stpX0_init) okX0_init 21 _ _ _ _ _ _ h
/-! SpotTimers$Acts.begin(LSpotTimers$Reading;II)I -/
theorem dX0_begin_0 : decode cX0_begin 0 = .ok (.aload_n 0, 1) := by decide +kernel
theorem dX0_begin_1 : decode cX0_begin 1 = .ok (.iconst 0, 1) := by decide +kernel
theorem dX0_begin_2 : decode cX0_begin 2 = .ok (.putfield 15, 3) := by decide +kernel
theorem dX0_begin_5 : decode cX0_begin 5 = .ok (.aload_n 0, 1) := by decide +kernel
theorem dX0_begin_6 : decode cX0_begin 6 = .ok (.aload_n 1, 1) := by decide +kernel
theorem dX0_begin_7 : decode cX0_begin 7 = .ok (.invokevirtual 28, 3) := by decide +kernel
theorem dX0_begin_10 : decode cX0_begin 10 = .ok (.putfield 19, 3) := by decide +kernel
theorem dX0_begin_13 : decode cX0_begin 13 = .ok (.aload_n 0, 1) := by decide +kernel
theorem dX0_begin_14 : decode cX0_begin 14 = .ok (.aload_n 1, 1) := by decide +kernel
theorem dX0_begin_15 : decode cX0_begin 15 = .ok (.getfield 34, 3) := by decide +kernel
theorem dX0_begin_18 : decode cX0_begin 18 = .ok (.putfield 22, 3) := by decide +kernel
theorem dX0_begin_21 : decode cX0_begin 21 = .ok (.aload_n 0, 1) := by decide +kernel
theorem dX0_begin_22 : decode cX0_begin 22 = .ok (.aload_n 1, 1) := by decide +kernel
theorem dX0_begin_23 : decode cX0_begin 23 = .ok (.getfield 35, 3) := by decide +kernel
theorem dX0_begin_26 : decode cX0_begin 26 = .ok (.putfield 25, 3) := by decide +kernel
theorem dX0_begin_29 : decode cX0_begin 29 = .ok (.aload_n 0, 1) := by decide +kernel
theorem dX0_begin_30 : decode cX0_begin 30 = .ok (.iload_n 2, 1) := by decide +kernel
theorem dX0_begin_31 : decode cX0_begin 31 = .ok (.iload_n 3, 1) := by decide +kernel
theorem dX0_begin_32 : decode cX0_begin 32 = .ok (.iconst 0, 1) := by decide +kernel
theorem dX0_begin_33 : decode cX0_begin 33 = .ok (.invokevirtual 36, 3) := by decide +kernel
theorem dX0_begin_36 : decode cX0_begin 36 = .ok (.ireturn, 1) := by decide +kernel
theorem oX0_begin_0 : OKI 1 0 (.aload_n 0, 1, [0], 0, 0, []) := And.intro dX0_begin_0 (And.intro rfl (rfl))
theorem oX0_begin_1 : OKI 1 1 (.iconst 0, 2, [], 0, 0, []) := And.intro dX0_begin_1 (And.intro rfl (by decide +kernel))
theorem oX0_begin_2 : OKI 1 2 (.putfield 15, 5, [1, 1, 0], 0, 0, []) := And.intro dX0_begin_2 (And.intro rfl (⟨(RX0, TX0, 5), "SpotTimers$Acts", rfl, by decide, tm_1 _ (List.mem_of_getElem? (i := 196) rfl) rfl, Or.inl rfl, Or.inl rfl, rfl⟩))
theorem oX0_begin_5 : OKI 1 5 (.aload_n 0, 6, [0], 0, 0, []) := And.intro dX0_begin_5 (And.intro rfl (rfl))
theorem oX0_begin_6 : OKI 1 6 (.aload_n 1, 7, [1], 0, 0, []) := And.intro dX0_begin_6 (And.intro rfl (rfl))
theorem oX0_begin_7 : OKI 1 7 (.invokevirtual 28, 10, [17, 1, 6, 0, 0, 1], 0, 0, []) := And.intro dX0_begin_7 (And.intro rfl (And.intro (by decide) (And.intro (by decide) (And.intro mo_X4_kindNow (And.intro (tm_5 _ (List.mem_of_getElem? (i := 124) rfl) rfl) (And.intro (tm_2 _ (List.mem_of_getElem? (i := 224) rfl) rfl) (And.intro (tm_2 _ (List.mem_of_getElem? (i := 225) rfl) rfl) (Or.inl ⟨(RX4, TX4, 11), rfl, rfl⟩))))))))
theorem oX0_begin_10 : OKI 1 10 (.putfield 19, 13, [1, 2, 0], 0, 0, []) := And.intro dX0_begin_10 (And.intro rfl (⟨(RX0, TX0, 5), "SpotTimers$Acts", rfl, by decide, tm_1 _ (List.mem_of_getElem? (i := 198) rfl) rfl, Or.inl rfl, Or.inl rfl, rfl⟩))
theorem oX0_begin_13 : OKI 1 13 (.aload_n 0, 14, [0], 0, 0, []) := And.intro dX0_begin_13 (And.intro rfl (rfl))
theorem oX0_begin_14 : OKI 1 14 (.aload_n 1, 15, [1], 0, 0, []) := And.intro dX0_begin_14 (And.intro rfl (rfl))
theorem oX0_begin_15 : OKI 1 15 (.getfield 34, 18, [5, 0, 0], 0, 0, []) := And.intro dX0_begin_15 (And.intro rfl (⟨(RX4, TX4, 11), "SpotTimers$Reading", rfl, by decide, tm_3 _ (List.mem_of_getElem? (i := 48) rfl) rfl, Or.inl rfl, Or.inr (Or.inr (And.intro rfl (Or.inl rfl)))⟩))
theorem oX0_begin_18 : OKI 1 18 (.putfield 22, 21, [1, 3, 0], 0, 0, []) := And.intro dX0_begin_18 (And.intro rfl (⟨(RX0, TX0, 5), "SpotTimers$Acts", rfl, by decide, tm_1 _ (List.mem_of_getElem? (i := 199) rfl) rfl, Or.inl rfl, Or.inl rfl, rfl⟩))
theorem oX0_begin_21 : OKI 1 21 (.aload_n 0, 22, [0], 0, 0, []) := And.intro dX0_begin_21 (And.intro rfl (rfl))
theorem oX0_begin_22 : OKI 1 22 (.aload_n 1, 23, [1], 0, 0, []) := And.intro dX0_begin_22 (And.intro rfl (rfl))
theorem oX0_begin_23 : OKI 1 23 (.getfield 35, 26, [5, 3, 0], 0, 0, []) := And.intro dX0_begin_23 (And.intro rfl (⟨(RX4, TX4, 11), "SpotTimers$Reading", rfl, by decide, tm_3 _ (List.mem_of_getElem? (i := 59) rfl) rfl, Or.inl rfl, Or.inr (Or.inr (And.intro rfl (Or.inl rfl)))⟩))
theorem oX0_begin_26 : OKI 1 26 (.putfield 25, 29, [1, 4, 0], 0, 0, []) := And.intro dX0_begin_26 (And.intro rfl (⟨(RX0, TX0, 5), "SpotTimers$Acts", rfl, by decide, tm_1 _ (List.mem_of_getElem? (i := 200) rfl) rfl, Or.inl rfl, Or.inl rfl, rfl⟩))
theorem oX0_begin_29 : OKI 1 29 (.aload_n 0, 30, [0], 0, 0, []) := And.intro dX0_begin_29 (And.intro rfl (rfl))
theorem oX0_begin_30 : OKI 1 30 (.iload_n 2, 31, [2], 0, 0, []) := And.intro dX0_begin_30 (And.intro rfl (rfl))
theorem oX0_begin_31 : OKI 1 31 (.iload_n 3, 32, [3], 0, 0, []) := And.intro dX0_begin_31 (And.intro rfl (rfl))
theorem oX0_begin_32 : OKI 1 32 (.iconst 0, 33, [], 0, 0, []) := And.intro dX0_begin_32 (And.intro rfl (by decide +kernel))
theorem oX0_begin_33 : OKI 1 33 (.invokevirtual 36, 36, [2, 4, 2, 0, 0, 1], 0, 0, []) := And.intro dX0_begin_33 (And.intro rfl (And.intro (by decide) (And.intro (by decide) (And.intro mo_X0_own (And.intro (tm_5 _ (List.mem_of_getElem? (i := 125) rfl) rfl) (And.intro (tm_5 _ (List.mem_of_getElem? (i := 127) rfl) rfl) (And.intro (pm_3 _ (List.mem_of_getElem? (i := 5) rfl)) (Or.inl ⟨(RX0, TX0, 5), rfl, rfl⟩))))))))
theorem oX0_begin_36 : OKI 1 36 (.ireturn, 37, [0], 0, 0, []) := And.intro dX0_begin_36 (Or.inl (And.intro rfl rfl))
def pfX0_begin (pc : Nat) : Option XE := (bif Nat.blt pc 18 then (bif Nat.blt pc 7 then (bif Nat.blt pc 2 then (bif Nat.blt pc 1 then (bif Nat.beq pc 0 then some (.aload_n 0, 1, [0], 0, 0, []) else none) else (bif Nat.beq pc 1 then some (.iconst 0, 2, [], 0, 0, []) else none)) else (bif Nat.blt pc 5 then (bif Nat.beq pc 2 then some (.putfield 15, 5, [1, 1, 0], 0, 0, []) else none) else (bif Nat.blt pc 6 then (bif Nat.beq pc 5 then some (.aload_n 0, 6, [0], 0, 0, []) else none) else (bif Nat.beq pc 6 then some (.aload_n 1, 7, [1], 0, 0, []) else none)))) else (bif Nat.blt pc 13 then (bif Nat.blt pc 10 then (bif Nat.beq pc 7 then some (.invokevirtual 28, 10, [17, 1, 6, 0, 0, 1], 0, 0, []) else none) else (bif Nat.beq pc 10 then some (.putfield 19, 13, [1, 2, 0], 0, 0, []) else none)) else (bif Nat.blt pc 14 then (bif Nat.beq pc 13 then some (.aload_n 0, 14, [0], 0, 0, []) else none) else (bif Nat.blt pc 15 then (bif Nat.beq pc 14 then some (.aload_n 1, 15, [1], 0, 0, []) else none) else (bif Nat.beq pc 15 then some (.getfield 34, 18, [5, 0, 0], 0, 0, []) else none))))) else (bif Nat.blt pc 29 then (bif Nat.blt pc 22 then (bif Nat.blt pc 21 then (bif Nat.beq pc 18 then some (.putfield 22, 21, [1, 3, 0], 0, 0, []) else none) else (bif Nat.beq pc 21 then some (.aload_n 0, 22, [0], 0, 0, []) else none)) else (bif Nat.blt pc 23 then (bif Nat.beq pc 22 then some (.aload_n 1, 23, [1], 0, 0, []) else none) else (bif Nat.blt pc 26 then (bif Nat.beq pc 23 then some (.getfield 35, 26, [5, 3, 0], 0, 0, []) else none) else (bif Nat.beq pc 26 then some (.putfield 25, 29, [1, 4, 0], 0, 0, []) else none)))) else (bif Nat.blt pc 32 then (bif Nat.blt pc 30 then (bif Nat.beq pc 29 then some (.aload_n 0, 30, [0], 0, 0, []) else none) else (bif Nat.blt pc 31 then (bif Nat.beq pc 30 then some (.iload_n 2, 31, [2], 0, 0, []) else none) else (bif Nat.beq pc 31 then some (.iload_n 3, 32, [3], 0, 0, []) else none))) else (bif Nat.blt pc 33 then (bif Nat.beq pc 32 then some (.iconst 0, 33, [], 0, 0, []) else none) else (bif Nat.blt pc 36 then (bif Nat.beq pc 33 then some (.invokevirtual 36, 36, [2, 4, 2, 0, 0, 1], 0, 0, []) else none) else (bif Nat.beq pc 36 then some (.ireturn, 37, [0], 0, 0, []) else none))))))
theorem okX0_begin : ∀ pc Y, pfX0_begin pc = some Y → OKI m_X0_begin pc Y := fun pc Y => ((bt_node (bt_node (bt_node (bt_node (bt_leaf (P := OKI m_X0_begin) oX0_begin_0) (bt_leaf (P := OKI m_X0_begin) oX0_begin_1)) (bt_node (bt_leaf (P := OKI m_X0_begin) oX0_begin_2) (bt_node (bt_leaf (P := OKI m_X0_begin) oX0_begin_5) (bt_leaf (P := OKI m_X0_begin) oX0_begin_6)))) (bt_node (bt_node (bt_leaf (P := OKI m_X0_begin) oX0_begin_7) (bt_leaf (P := OKI m_X0_begin) oX0_begin_10)) (bt_node (bt_leaf (P := OKI m_X0_begin) oX0_begin_13) (bt_node (bt_leaf (P := OKI m_X0_begin) oX0_begin_14) (bt_leaf (P := OKI m_X0_begin) oX0_begin_15))))) (bt_node (bt_node (bt_node (bt_leaf (P := OKI m_X0_begin) oX0_begin_18) (bt_leaf (P := OKI m_X0_begin) oX0_begin_21)) (bt_node (bt_leaf (P := OKI m_X0_begin) oX0_begin_22) (bt_node (bt_leaf (P := OKI m_X0_begin) oX0_begin_23) (bt_leaf (P := OKI m_X0_begin) oX0_begin_26)))) (bt_node (bt_node (bt_leaf (P := OKI m_X0_begin) oX0_begin_29) (bt_node (bt_leaf (P := OKI m_X0_begin) oX0_begin_30) (bt_leaf (P := OKI m_X0_begin) oX0_begin_31))) (bt_node (bt_leaf (P := OKI m_X0_begin) oX0_begin_32) (bt_node (bt_leaf (P := OKI m_X0_begin) oX0_begin_33) (bt_leaf (P := OKI m_X0_begin) oX0_begin_36)))))) : pfX0_begin pc = some Y → OKI m_X0_begin pc Y)
def stpX0_begin (_ : Nat) : Option (List Bool) := none
def bX0_begin_0 (d rc rs : Nat) (t : Nat) (a1 : Option XO) (a2 : Int32) (a3 : Int32) (σ : XH) (Q : XV → XH → Prop) : Prop :=
  ((∀ h1, h1 = wI σ 1 t 1 0 → (drf a1 5 fun i11 => (1 ≤ d ∧ Ec (d - 1) 0 0 m_X4_kindNow [vR (some (5, i11))] h1 (kI fun x3 h2 => ((∀ h4, h4 = wI h2 1 t 2 x3 → (drf a1 5 fun i5 => ((∀ h6, h6 = wI h4 1 t 3 (hi h4 5 i5 0) → (drf a1 5 fun i7 => ((∀ h8, h8 = wI h6 1 t 4 (hi h6 5 i7 3) → ((1 ≤ d ∧ Ec (d - 1) 0 0 m_X0_own [vR (some (1, t)), vI a2, vI a3, vI 0] h8 (kI fun x10 h9 => Q (vI x10) h9))))))))))))))))
theorem sX0_begin_0 {d rc rs : Nat} {t : Nat} {a1 : Option XO} {a2 : Int32} {a3 : Int32} {σ : XH} {Q : XV → XH → Prop} (h : bX0_begin_0 d rc rs t a1 a2 a3 σ Q) : Ex d rc rs m_X0_begin 0 [vR (some (1, t)), vR a1, vI a2, vI a3] [] σ Q :=
  xtree_sound (stop := stpX0_begin) okX0_begin 23 _ _ _ _ _ _ h
/-! SpotTimers$Acts.own(III)I -/
theorem dX0_own_0 : decode cX0_own 0 = .ok (.aload_n 0, 1) := by decide +kernel
theorem dX0_own_1 : decode cX0_own 1 = .ok (.iload_n 1, 1) := by decide +kernel
theorem dX0_own_2 : decode cX0_own 2 = .ok (.aload_n 0, 1) := by decide +kernel
theorem dX0_own_3 : decode cX0_own 3 = .ok (.getfield 19, 3) := by decide +kernel
theorem dX0_own_6 : decode cX0_own 6 = .ok (.invokestatic 40, 3) := by decide +kernel
theorem dX0_own_9 : decode cX0_own 9 = .ok (.iload_n 2, 1) := by decide +kernel
theorem dX0_own_10 : decode cX0_own 10 = .ok (.iload_n 3, 1) := by decide +kernel
theorem dX0_own_11 : decode cX0_own 11 = .ok (.invokevirtual 44, 3) := by decide +kernel
theorem dX0_own_14 : decode cX0_own 14 = .ok (.ireturn, 1) := by decide +kernel
theorem oX0_own_0 : OKI 2 0 (.aload_n 0, 1, [0], 0, 0, []) := And.intro dX0_own_0 (And.intro rfl (rfl))
theorem oX0_own_1 : OKI 2 1 (.iload_n 1, 2, [1], 0, 0, []) := And.intro dX0_own_1 (And.intro rfl (rfl))
theorem oX0_own_2 : OKI 2 2 (.aload_n 0, 3, [0], 0, 0, []) := And.intro dX0_own_2 (And.intro rfl (rfl))
theorem oX0_own_3 : OKI 2 3 (.getfield 19, 6, [1, 2, 0], 0, 0, []) := And.intro dX0_own_3 (And.intro rfl (⟨(RX0, TX0, 5), "SpotTimers$Acts", rfl, by decide, tm_1 _ (List.mem_of_getElem? (i := 198) rfl) rfl, Or.inl rfl, Or.inr (Or.inr (And.intro rfl (Or.inl rfl)))⟩))
theorem oX0_own_6 : OKI 2 6 (.invokestatic 40, 9, [4, 2, 0, 0, 0, 1], 0, 0, []) := And.intro dX0_own_6 (And.intro rfl (And.intro rfl (And.intro mo_X0_bodyFrom (And.intro (Or.inl (tm_5 _ (List.mem_of_getElem? (i := 129) rfl) rfl)) (tm_5 _ (List.mem_of_getElem? (i := 130) rfl) rfl)))))
theorem oX0_own_9 : OKI 2 9 (.iload_n 2, 10, [2], 0, 0, []) := And.intro dX0_own_9 (And.intro rfl (rfl))
theorem oX0_own_10 : OKI 2 10 (.iload_n 3, 11, [3], 0, 0, []) := And.intro dX0_own_10 (And.intro rfl (rfl))
theorem oX0_own_11 : OKI 2 11 (.invokevirtual 44, 14, [5, 4, 2, 0, 0, 1], 0, 0, []) := And.intro dX0_own_11 (And.intro rfl (And.intro (by decide) (And.intro (by decide) (And.intro mo_X0_run (And.intro (tm_5 _ (List.mem_of_getElem? (i := 135) rfl) rfl) (And.intro (tm_5 _ (List.mem_of_getElem? (i := 137) rfl) rfl) (And.intro (pm_3 _ (List.mem_of_getElem? (i := 6) rfl)) (Or.inl ⟨(RX0, TX0, 5), rfl, rfl⟩))))))))
theorem oX0_own_14 : OKI 2 14 (.ireturn, 15, [0], 0, 0, []) := And.intro dX0_own_14 (Or.inl (And.intro rfl rfl))
def pfX0_own (pc : Nat) : Option XE := (bif Nat.blt pc 6 then (bif Nat.blt pc 2 then (bif Nat.blt pc 1 then (bif Nat.beq pc 0 then some (.aload_n 0, 1, [0], 0, 0, []) else none) else (bif Nat.beq pc 1 then some (.iload_n 1, 2, [1], 0, 0, []) else none)) else (bif Nat.blt pc 3 then (bif Nat.beq pc 2 then some (.aload_n 0, 3, [0], 0, 0, []) else none) else (bif Nat.beq pc 3 then some (.getfield 19, 6, [1, 2, 0], 0, 0, []) else none))) else (bif Nat.blt pc 10 then (bif Nat.blt pc 9 then (bif Nat.beq pc 6 then some (.invokestatic 40, 9, [4, 2, 0, 0, 0, 1], 0, 0, []) else none) else (bif Nat.beq pc 9 then some (.iload_n 2, 10, [2], 0, 0, []) else none)) else (bif Nat.blt pc 11 then (bif Nat.beq pc 10 then some (.iload_n 3, 11, [3], 0, 0, []) else none) else (bif Nat.blt pc 14 then (bif Nat.beq pc 11 then some (.invokevirtual 44, 14, [5, 4, 2, 0, 0, 1], 0, 0, []) else none) else (bif Nat.beq pc 14 then some (.ireturn, 15, [0], 0, 0, []) else none)))))
theorem okX0_own : ∀ pc Y, pfX0_own pc = some Y → OKI m_X0_own pc Y := fun pc Y => ((bt_node (bt_node (bt_node (bt_leaf (P := OKI m_X0_own) oX0_own_0) (bt_leaf (P := OKI m_X0_own) oX0_own_1)) (bt_node (bt_leaf (P := OKI m_X0_own) oX0_own_2) (bt_leaf (P := OKI m_X0_own) oX0_own_3))) (bt_node (bt_node (bt_leaf (P := OKI m_X0_own) oX0_own_6) (bt_leaf (P := OKI m_X0_own) oX0_own_9)) (bt_node (bt_leaf (P := OKI m_X0_own) oX0_own_10) (bt_node (bt_leaf (P := OKI m_X0_own) oX0_own_11) (bt_leaf (P := OKI m_X0_own) oX0_own_14))))) : pfX0_own pc = some Y → OKI m_X0_own pc Y)
def stpX0_own (_ : Nat) : Option (List Bool) := none
def bX0_own_0 (d rc rs : Nat) (t : Nat) (a1 : Int32) (a2 : Int32) (a3 : Int32) (σ : XH) (Q : XV → XH → Prop) : Prop :=
  ((1 ≤ d ∧ Ec (d - 1) 0 0 m_X0_bodyFrom [vI a1, vI (hi σ 1 t 2)] σ (kI fun x2 h1 => ((1 ≤ d ∧ Ec (d - 1) 0 0 m_X0_run [vR (some (1, t)), vI x2, vI a2, vI a3] h1 (kI fun x4 h3 => Q (vI x4) h3))))))
theorem sX0_own_0 {d rc rs : Nat} {t : Nat} {a1 : Int32} {a2 : Int32} {a3 : Int32} {σ : XH} {Q : XV → XH → Prop} (h : bX0_own_0 d rc rs t a1 a2 a3 σ Q) : Ex d rc rs m_X0_own 0 [vR (some (1, t)), vI a1, vI a2, vI a3] [] σ Q :=
  xtree_sound (stop := stpX0_own) okX0_own 11 _ _ _ _ _ _ h
/-! SpotTimers$Acts.above(IIII)I -/
theorem dX0_above_0 : decode cX0_above 0 = .ok (.aload_n 0, 1) := by decide +kernel
theorem dX0_above_1 : decode cX0_above 1 = .ok (.iload_n 2, 1) := by decide +kernel
theorem dX0_above_2 : decode cX0_above 2 = .ok (.iload_n 1, 1) := by decide +kernel
theorem dX0_above_3 : decode cX0_above 3 = .ok (.ifCond .lt 17, 3) := by decide +kernel
theorem dX0_above_6 : decode cX0_above 6 = .ok (.iload_n 1, 1) := by decide +kernel
theorem dX0_above_7 : decode cX0_above 7 = .ok (.bipush 8, 2) := by decide +kernel
theorem dX0_above_9 : decode cX0_above 9 = .ok (.if_icmp .ge 11, 3) := by decide +kernel
theorem dX0_above_12 : decode cX0_above 12 = .ok (.getstatic 47, 3) := by decide +kernel
theorem dX0_above_15 : decode cX0_above 15 = .ok (.iload_n 1, 1) := by decide +kernel
theorem dX0_above_16 : decode cX0_above 16 = .ok (.iaload, 1) := by decide +kernel
theorem dX0_above_17 : decode cX0_above 17 = .ok (.goto 4, 3) := by decide +kernel
theorem dX0_above_20 : decode cX0_above 20 = .ok (.iconst (-1), 1) := by decide +kernel
theorem dX0_above_21 : decode cX0_above 21 = .ok (.invokestatic 40, 3) := by decide +kernel
theorem dX0_above_24 : decode cX0_above 24 = .ok (.iload_n 3, 1) := by decide +kernel
theorem dX0_above_25 : decode cX0_above 25 = .ok (.iload 4, 2) := by decide +kernel
theorem dX0_above_27 : decode cX0_above 27 = .ok (.invokevirtual 44, 3) := by decide +kernel
theorem dX0_above_30 : decode cX0_above 30 = .ok (.ireturn, 1) := by decide +kernel
theorem oX0_above_0 : OKI 3 0 (.aload_n 0, 1, [0], 0, 0, []) := And.intro dX0_above_0 (And.intro rfl (rfl))
theorem oX0_above_1 : OKI 3 1 (.iload_n 2, 2, [2], 0, 0, []) := And.intro dX0_above_1 (And.intro rfl (rfl))
theorem oX0_above_2 : OKI 3 2 (.iload_n 1, 3, [1], 0, 0, []) := And.intro dX0_above_2 (And.intro rfl (rfl))
theorem oX0_above_3 : OKI 3 3 (.ifCond .lt 17, 6, [20], 0, 0, []) := And.intro dX0_above_3 (And.intro rfl (by decide))
theorem oX0_above_6 : OKI 3 6 (.iload_n 1, 7, [1], 0, 0, []) := And.intro dX0_above_6 (And.intro rfl (rfl))
theorem oX0_above_7 : OKI 3 7 (.bipush 8, 9, [], 8, 0, []) := And.intro dX0_above_7 (And.intro rfl (by decide +kernel))
theorem oX0_above_9 : OKI 3 9 (.if_icmp .ge 11, 12, [20], 0, 0, []) := And.intro dX0_above_9 (And.intro rfl (by decide))
theorem oX0_above_12 : OKI 3 12 (.getstatic 47, 15, [500], 0, 0, []) := And.intro dX0_above_12 (And.intro rfl (Or.inr ⟨"ABOVE", Or.inl (And.intro rfl rfl), Or.inr (nm_A _ (List.mem_of_getElem? (i := 11) rfl))⟩))
theorem oX0_above_15 : OKI 3 15 (.iload_n 1, 16, [1], 0, 0, []) := And.intro dX0_above_15 (And.intro rfl (rfl))
theorem oX0_above_16 : OKI 3 16 (.iaload, 17, [], 0, 0, []) := And.intro dX0_above_16 rfl
theorem oX0_above_17 : OKI 3 17 (.goto 4, 20, [21], 0, 0, []) := And.intro dX0_above_17 (And.intro rfl (by decide))
theorem oX0_above_20 : OKI 3 20 (.iconst (-1), 21, [], (-1), 0, []) := And.intro dX0_above_20 (And.intro rfl (by decide +kernel))
theorem oX0_above_21 : OKI 3 21 (.invokestatic 40, 24, [4, 2, 0, 0, 0, 1], 0, 0, []) := And.intro dX0_above_21 (And.intro rfl (And.intro rfl (And.intro mo_X0_bodyFrom (And.intro (Or.inl (tm_5 _ (List.mem_of_getElem? (i := 129) rfl) rfl)) (tm_5 _ (List.mem_of_getElem? (i := 130) rfl) rfl)))))
theorem oX0_above_24 : OKI 3 24 (.iload_n 3, 25, [3], 0, 0, []) := And.intro dX0_above_24 (And.intro rfl (rfl))
theorem oX0_above_25 : OKI 3 25 (.iload 4, 27, [4], 0, 0, []) := And.intro dX0_above_25 (And.intro rfl (rfl))
theorem oX0_above_27 : OKI 3 27 (.invokevirtual 44, 30, [5, 4, 2, 0, 0, 1], 0, 0, []) := And.intro dX0_above_27 (And.intro rfl (And.intro (by decide) (And.intro (by decide) (And.intro mo_X0_run (And.intro (tm_5 _ (List.mem_of_getElem? (i := 135) rfl) rfl) (And.intro (tm_5 _ (List.mem_of_getElem? (i := 137) rfl) rfl) (And.intro (pm_3 _ (List.mem_of_getElem? (i := 6) rfl)) (Or.inl ⟨(RX0, TX0, 5), rfl, rfl⟩))))))))
theorem oX0_above_30 : OKI 3 30 (.ireturn, 31, [0], 0, 0, []) := And.intro dX0_above_30 (Or.inl (And.intro rfl rfl))
def pfX0_above (pc : Nat) : Option XE := (bif Nat.blt pc 15 then (bif Nat.blt pc 6 then (bif Nat.blt pc 2 then (bif Nat.blt pc 1 then (bif Nat.beq pc 0 then some (.aload_n 0, 1, [0], 0, 0, []) else none) else (bif Nat.beq pc 1 then some (.iload_n 2, 2, [2], 0, 0, []) else none)) else (bif Nat.blt pc 3 then (bif Nat.beq pc 2 then some (.iload_n 1, 3, [1], 0, 0, []) else none) else (bif Nat.beq pc 3 then some (.ifCond .lt 17, 6, [20], 0, 0, []) else none))) else (bif Nat.blt pc 9 then (bif Nat.blt pc 7 then (bif Nat.beq pc 6 then some (.iload_n 1, 7, [1], 0, 0, []) else none) else (bif Nat.beq pc 7 then some (.bipush 8, 9, [], 8, 0, []) else none)) else (bif Nat.blt pc 12 then (bif Nat.beq pc 9 then some (.if_icmp .ge 11, 12, [20], 0, 0, []) else none) else (bif Nat.beq pc 12 then some (.getstatic 47, 15, [500], 0, 0, []) else none)))) else (bif Nat.blt pc 21 then (bif Nat.blt pc 17 then (bif Nat.blt pc 16 then (bif Nat.beq pc 15 then some (.iload_n 1, 16, [1], 0, 0, []) else none) else (bif Nat.beq pc 16 then some (.iaload, 17, [], 0, 0, []) else none)) else (bif Nat.blt pc 20 then (bif Nat.beq pc 17 then some (.goto 4, 20, [21], 0, 0, []) else none) else (bif Nat.beq pc 20 then some (.iconst (-1), 21, [], (-1), 0, []) else none))) else (bif Nat.blt pc 25 then (bif Nat.blt pc 24 then (bif Nat.beq pc 21 then some (.invokestatic 40, 24, [4, 2, 0, 0, 0, 1], 0, 0, []) else none) else (bif Nat.beq pc 24 then some (.iload_n 3, 25, [3], 0, 0, []) else none)) else (bif Nat.blt pc 27 then (bif Nat.beq pc 25 then some (.iload 4, 27, [4], 0, 0, []) else none) else (bif Nat.blt pc 30 then (bif Nat.beq pc 27 then some (.invokevirtual 44, 30, [5, 4, 2, 0, 0, 1], 0, 0, []) else none) else (bif Nat.beq pc 30 then some (.ireturn, 31, [0], 0, 0, []) else none))))))
theorem okX0_above : ∀ pc Y, pfX0_above pc = some Y → OKI m_X0_above pc Y := fun pc Y => ((bt_node (bt_node (bt_node (bt_node (bt_leaf (P := OKI m_X0_above) oX0_above_0) (bt_leaf (P := OKI m_X0_above) oX0_above_1)) (bt_node (bt_leaf (P := OKI m_X0_above) oX0_above_2) (bt_leaf (P := OKI m_X0_above) oX0_above_3))) (bt_node (bt_node (bt_leaf (P := OKI m_X0_above) oX0_above_6) (bt_leaf (P := OKI m_X0_above) oX0_above_7)) (bt_node (bt_leaf (P := OKI m_X0_above) oX0_above_9) (bt_leaf (P := OKI m_X0_above) oX0_above_12)))) (bt_node (bt_node (bt_node (bt_leaf (P := OKI m_X0_above) oX0_above_15) (bt_leaf (P := OKI m_X0_above) oX0_above_16)) (bt_node (bt_leaf (P := OKI m_X0_above) oX0_above_17) (bt_leaf (P := OKI m_X0_above) oX0_above_20))) (bt_node (bt_node (bt_leaf (P := OKI m_X0_above) oX0_above_21) (bt_leaf (P := OKI m_X0_above) oX0_above_24)) (bt_node (bt_leaf (P := OKI m_X0_above) oX0_above_25) (bt_node (bt_leaf (P := OKI m_X0_above) oX0_above_27) (bt_leaf (P := OKI m_X0_above) oX0_above_30)))))) : pfX0_above pc = some Y → OKI m_X0_above pc Y)
def stpX0_above (pc : Nat) : Option (List Bool) := (bif Nat.blt pc 21 then (bif Nat.beq pc 20 then some [false, false, false, true, true] else none) else (bif Nat.beq pc 21 then some [false, false, false, true, true] else none))
def bX0_above_0 (d rc rs : Nat) (t : Nat) (a1 : Int32) (a2 : Int32) (a3 : Int32) (a4 : Int32) (σ : XH) (Q : XV → XH → Prop) : Prop :=
  ((a1 < 0 → Ex d rc rs m_X0_above 20 [vU, vU, vU, vI a3, vI a4] [vI a2, vR (some (1, t))] σ Q) ∧ (¬ a1 < 0 → ((a1 < 8 → ((vp_in a1 (hn σ 500 0) ∧ Ex d rc rs m_X0_above 21 [vU, vU, vU, vI a3, vI a4] [vI (hi σ 500 0 a1.toNatClampNeg), vI a2, vR (some (1, t))] σ Q))) ∧ (¬ a1 < 8 → Ex d rc rs m_X0_above 20 [vU, vU, vU, vI a3, vI a4] [vI a2, vR (some (1, t))] σ Q))))
theorem sX0_above_0 {d rc rs : Nat} {t : Nat} {a1 : Int32} {a2 : Int32} {a3 : Int32} {a4 : Int32} {σ : XH} {Q : XV → XH → Prop} (h : bX0_above_0 d rc rs t a1 a2 a3 a4 σ Q) : Ex d rc rs m_X0_above 0 [vR (some (1, t)), vI a1, vI a2, vI a3, vI a4] [] σ Q :=
  xtree_sound (stop := stpX0_above) okX0_above 13 _ _ _ _ _ _ h
def bX0_above_20 (d rc rs : Nat) (t : Nat) (l3 : Int32) (l4 : Int32) (q0 : Int32) (σ : XH) (Q : XV → XH → Prop) : Prop :=
  Ex d rc rs m_X0_above 21 [vU, vU, vU, vI l3, vI l4] [vI (-1), vI q0, vR (some (1, t))] σ Q
theorem sX0_above_20 {d rc rs : Nat} {t : Nat} {l3 : Int32} {l4 : Int32} {q0 : Int32} {σ : XH} {Q : XV → XH → Prop} (h : bX0_above_20 d rc rs t l3 l4 q0 σ Q) : Ex d rc rs m_X0_above 20 [vU, vU, vU, vI l3, vI l4] [vI q0, vR (some (1, t))] σ Q :=
  xtree_sound (stop := stpX0_above) okX0_above 3 _ _ _ _ _ _ h
def bX0_above_21 (d rc rs : Nat) (t : Nat) (l3 : Int32) (l4 : Int32) (q0 : Int32) (q1 : Int32) (σ : XH) (Q : XV → XH → Prop) : Prop :=
  (1 ≤ d ∧ Ec (d - 1) 0 0 m_X0_bodyFrom [vI q1, vI q0] σ (kI fun x2 h1 => ((1 ≤ d ∧ Ec (d - 1) 0 0 m_X0_run [vR (some (1, t)), vI x2, vI l3, vI l4] h1 (kI fun x4 h3 => Q (vI x4) h3)))))
theorem sX0_above_21 {d rc rs : Nat} {t : Nat} {l3 : Int32} {l4 : Int32} {q0 : Int32} {q1 : Int32} {σ : XH} {Q : XV → XH → Prop} (h : bX0_above_21 d rc rs t l3 l4 q0 q1 σ Q) : Ex d rc rs m_X0_above 21 [vU, vU, vU, vI l3, vI l4] [vI q0, vI q1, vR (some (1, t))] σ Q :=
  xtree_sound (stop := stpX0_above) okX0_above 7 _ _ _ _ _ _ h
/-! SpotTimers$Acts.bodyFrom(II)I -/
theorem dX0_bodyFrom_0 : decode cX0_bodyFrom 0 = .ok (.iload_n 1, 1) := by decide +kernel
theorem dX0_bodyFrom_1 : decode cX0_bodyFrom 1 = .ok (.istore_n 2, 1) := by decide +kernel
theorem dX0_bodyFrom_2 : decode cX0_bodyFrom 2 = .ok (.iconst 0, 1) := by decide +kernel
theorem dX0_bodyFrom_3 : decode cX0_bodyFrom 3 = .ok (.istore_n 3, 1) := by decide +kernel
theorem dX0_bodyFrom_4 : decode cX0_bodyFrom 4 = .ok (.iload_n 3, 1) := by decide +kernel
theorem dX0_bodyFrom_5 : decode cX0_bodyFrom 5 = .ok (.bipush 8, 2) := by decide +kernel
theorem dX0_bodyFrom_7 : decode cX0_bodyFrom 7 = .ok (.if_icmp .ge 67, 3) := by decide +kernel
theorem dX0_bodyFrom_10 : decode cX0_bodyFrom 10 = .ok (.iload_n 2, 1) := by decide +kernel
theorem dX0_bodyFrom_11 : decode cX0_bodyFrom 11 = .ok (.ifCond .lt 63, 3) := by decide +kernel
theorem dX0_bodyFrom_14 : decode cX0_bodyFrom 14 = .ok (.iload_n 2, 1) := by decide +kernel
theorem dX0_bodyFrom_15 : decode cX0_bodyFrom 15 = .ok (.bipush 8, 2) := by decide +kernel
theorem dX0_bodyFrom_17 : decode cX0_bodyFrom 17 = .ok (.if_icmp .ge 57, 3) := by decide +kernel
theorem dX0_bodyFrom_20 : decode cX0_bodyFrom 20 = .ok (.iload_n 0, 1) := by decide +kernel
theorem dX0_bodyFrom_21 : decode cX0_bodyFrom 21 = .ok (.bipush 8, 2) := by decide +kernel
theorem dX0_bodyFrom_23 : decode cX0_bodyFrom 23 = .ok (.imul, 1) := by decide +kernel
theorem dX0_bodyFrom_24 : decode cX0_bodyFrom 24 = .ok (.iload_n 2, 1) := by decide +kernel
theorem dX0_bodyFrom_25 : decode cX0_bodyFrom 25 = .ok (.iadd, 1) := by decide +kernel
theorem dX0_bodyFrom_26 : decode cX0_bodyFrom 26 = .ok (.istore 4, 2) := by decide +kernel
theorem dX0_bodyFrom_28 : decode cX0_bodyFrom 28 = .ok (.iload 4, 2) := by decide +kernel
theorem dX0_bodyFrom_30 : decode cX0_bodyFrom 30 = .ok (.ifCond .lt 21, 3) := by decide +kernel
theorem dX0_bodyFrom_33 : decode cX0_bodyFrom 33 = .ok (.iload 4, 2) := by decide +kernel
theorem dX0_bodyFrom_35 : decode cX0_bodyFrom 35 = .ok (.getstatic 50, 3) := by decide +kernel
theorem dX0_bodyFrom_38 : decode cX0_bodyFrom 38 = .ok (.arraylength, 1) := by decide +kernel
theorem dX0_bodyFrom_39 : decode cX0_bodyFrom 39 = .ok (.if_icmp .ge 12, 3) := by decide +kernel
theorem dX0_bodyFrom_42 : decode cX0_bodyFrom 42 = .ok (.getstatic 50, 3) := by decide +kernel
theorem dX0_bodyFrom_45 : decode cX0_bodyFrom 45 = .ok (.iload 4, 2) := by decide +kernel
theorem dX0_bodyFrom_47 : decode cX0_bodyFrom 47 = .ok (.iaload, 1) := by decide +kernel
theorem dX0_bodyFrom_48 : decode cX0_bodyFrom 48 = .ok (.goto 4, 3) := by decide +kernel
theorem dX0_bodyFrom_51 : decode cX0_bodyFrom 51 = .ok (.iconst 0, 1) := by decide +kernel
theorem dX0_bodyFrom_52 : decode cX0_bodyFrom 52 = .ok (.istore 5, 2) := by decide +kernel
theorem dX0_bodyFrom_54 : decode cX0_bodyFrom 54 = .ok (.iload 5, 2) := by decide +kernel
theorem dX0_bodyFrom_56 : decode cX0_bodyFrom 56 = .ok (.ifCond .eq 6, 3) := by decide +kernel
theorem dX0_bodyFrom_59 : decode cX0_bodyFrom 59 = .ok (.iload 5, 2) := by decide +kernel
theorem dX0_bodyFrom_61 : decode cX0_bodyFrom 61 = .ok (.ireturn, 1) := by decide +kernel
theorem dX0_bodyFrom_62 : decode cX0_bodyFrom 62 = .ok (.getstatic 47, 3) := by decide +kernel
theorem dX0_bodyFrom_65 : decode cX0_bodyFrom 65 = .ok (.iload_n 2, 1) := by decide +kernel
theorem dX0_bodyFrom_66 : decode cX0_bodyFrom 66 = .ok (.iaload, 1) := by decide +kernel
theorem dX0_bodyFrom_67 : decode cX0_bodyFrom 67 = .ok (.istore_n 2, 1) := by decide +kernel
theorem dX0_bodyFrom_68 : decode cX0_bodyFrom 68 = .ok (.iinc 3 1, 3) := by decide +kernel
theorem dX0_bodyFrom_71 : decode cX0_bodyFrom 71 = .ok (.goto (-67), 3) := by decide +kernel
theorem dX0_bodyFrom_74 : decode cX0_bodyFrom 74 = .ok (.iconst 0, 1) := by decide +kernel
theorem dX0_bodyFrom_75 : decode cX0_bodyFrom 75 = .ok (.ireturn, 1) := by decide +kernel
theorem oX0_bodyFrom_0 : OKI 4 0 (.iload_n 1, 1, [1], 0, 0, []) := And.intro dX0_bodyFrom_0 (And.intro rfl (rfl))
theorem oX0_bodyFrom_1 : OKI 4 1 (.istore_n 2, 2, [2], 0, 0, []) := And.intro dX0_bodyFrom_1 (And.intro rfl (And.intro rfl (by decide)))
theorem oX0_bodyFrom_2 : OKI 4 2 (.iconst 0, 3, [], 0, 0, []) := And.intro dX0_bodyFrom_2 (And.intro rfl (by decide +kernel))
theorem oX0_bodyFrom_3 : OKI 4 3 (.istore_n 3, 4, [3], 0, 0, []) := And.intro dX0_bodyFrom_3 (And.intro rfl (And.intro rfl (by decide)))
theorem oX0_bodyFrom_4 : OKI 4 4 (.iload_n 3, 5, [3], 0, 0, []) := And.intro dX0_bodyFrom_4 (And.intro rfl (rfl))
theorem oX0_bodyFrom_5 : OKI 4 5 (.bipush 8, 7, [], 8, 0, []) := And.intro dX0_bodyFrom_5 (And.intro rfl (by decide +kernel))
theorem oX0_bodyFrom_7 : OKI 4 7 (.if_icmp .ge 67, 10, [74], 0, 0, []) := And.intro dX0_bodyFrom_7 (And.intro rfl (by decide))
theorem oX0_bodyFrom_10 : OKI 4 10 (.iload_n 2, 11, [2], 0, 0, []) := And.intro dX0_bodyFrom_10 (And.intro rfl (rfl))
theorem oX0_bodyFrom_11 : OKI 4 11 (.ifCond .lt 63, 14, [74], 0, 0, []) := And.intro dX0_bodyFrom_11 (And.intro rfl (by decide))
theorem oX0_bodyFrom_14 : OKI 4 14 (.iload_n 2, 15, [2], 0, 0, []) := And.intro dX0_bodyFrom_14 (And.intro rfl (rfl))
theorem oX0_bodyFrom_15 : OKI 4 15 (.bipush 8, 17, [], 8, 0, []) := And.intro dX0_bodyFrom_15 (And.intro rfl (by decide +kernel))
theorem oX0_bodyFrom_17 : OKI 4 17 (.if_icmp .ge 57, 20, [74], 0, 0, []) := And.intro dX0_bodyFrom_17 (And.intro rfl (by decide))
theorem oX0_bodyFrom_20 : OKI 4 20 (.iload_n 0, 21, [0], 0, 0, []) := And.intro dX0_bodyFrom_20 (And.intro rfl (rfl))
theorem oX0_bodyFrom_21 : OKI 4 21 (.bipush 8, 23, [], 8, 0, []) := And.intro dX0_bodyFrom_21 (And.intro rfl (by decide +kernel))
theorem oX0_bodyFrom_23 : OKI 4 23 (.imul, 24, [], 0, 0, []) := And.intro dX0_bodyFrom_23 rfl
theorem oX0_bodyFrom_24 : OKI 4 24 (.iload_n 2, 25, [2], 0, 0, []) := And.intro dX0_bodyFrom_24 (And.intro rfl (rfl))
theorem oX0_bodyFrom_25 : OKI 4 25 (.iadd, 26, [], 0, 0, []) := And.intro dX0_bodyFrom_25 rfl
theorem oX0_bodyFrom_26 : OKI 4 26 (.istore 4, 28, [4], 0, 0, []) := And.intro dX0_bodyFrom_26 (And.intro rfl (And.intro rfl (by decide)))
theorem oX0_bodyFrom_28 : OKI 4 28 (.iload 4, 30, [4], 0, 0, []) := And.intro dX0_bodyFrom_28 (And.intro rfl (rfl))
theorem oX0_bodyFrom_30 : OKI 4 30 (.ifCond .lt 21, 33, [51], 0, 0, []) := And.intro dX0_bodyFrom_30 (And.intro rfl (by decide))
theorem oX0_bodyFrom_33 : OKI 4 33 (.iload 4, 35, [4], 0, 0, []) := And.intro dX0_bodyFrom_33 (And.intro rfl (rfl))
theorem oX0_bodyFrom_35 : OKI 4 35 (.getstatic 50, 38, [501], 0, 0, []) := And.intro dX0_bodyFrom_35 (And.intro rfl (Or.inr ⟨"BODIES", Or.inr (And.intro rfl rfl), Or.inr (nm_A _ (List.mem_of_getElem? (i := 10) rfl))⟩))
theorem oX0_bodyFrom_38 : OKI 4 38 (.arraylength, 39, [], 0, 0, []) := And.intro dX0_bodyFrom_38 rfl
theorem oX0_bodyFrom_39 : OKI 4 39 (.if_icmp .ge 12, 42, [51], 0, 0, []) := And.intro dX0_bodyFrom_39 (And.intro rfl (by decide))
theorem oX0_bodyFrom_42 : OKI 4 42 (.getstatic 50, 45, [501], 0, 0, []) := And.intro dX0_bodyFrom_42 (And.intro rfl (Or.inr ⟨"BODIES", Or.inr (And.intro rfl rfl), Or.inr (nm_A _ (List.mem_of_getElem? (i := 10) rfl))⟩))
theorem oX0_bodyFrom_45 : OKI 4 45 (.iload 4, 47, [4], 0, 0, []) := And.intro dX0_bodyFrom_45 (And.intro rfl (rfl))
theorem oX0_bodyFrom_47 : OKI 4 47 (.iaload, 48, [], 0, 0, []) := And.intro dX0_bodyFrom_47 rfl
theorem oX0_bodyFrom_48 : OKI 4 48 (.goto 4, 51, [52], 0, 0, []) := And.intro dX0_bodyFrom_48 (And.intro rfl (by decide))
theorem oX0_bodyFrom_51 : OKI 4 51 (.iconst 0, 52, [], 0, 0, []) := And.intro dX0_bodyFrom_51 (And.intro rfl (by decide +kernel))
theorem oX0_bodyFrom_52 : OKI 4 52 (.istore 5, 54, [5], 0, 0, []) := And.intro dX0_bodyFrom_52 (And.intro rfl (And.intro rfl (by decide)))
theorem oX0_bodyFrom_54 : OKI 4 54 (.iload 5, 56, [5], 0, 0, []) := And.intro dX0_bodyFrom_54 (And.intro rfl (rfl))
theorem oX0_bodyFrom_56 : OKI 4 56 (.ifCond .eq 6, 59, [62], 0, 0, []) := And.intro dX0_bodyFrom_56 (And.intro rfl (by decide))
theorem oX0_bodyFrom_59 : OKI 4 59 (.iload 5, 61, [5], 0, 0, []) := And.intro dX0_bodyFrom_59 (And.intro rfl (rfl))
theorem oX0_bodyFrom_61 : OKI 4 61 (.ireturn, 62, [0], 0, 0, []) := And.intro dX0_bodyFrom_61 (Or.inl (And.intro rfl rfl))
theorem oX0_bodyFrom_62 : OKI 4 62 (.getstatic 47, 65, [500], 0, 0, []) := And.intro dX0_bodyFrom_62 (And.intro rfl (Or.inr ⟨"ABOVE", Or.inl (And.intro rfl rfl), Or.inr (nm_A _ (List.mem_of_getElem? (i := 11) rfl))⟩))
theorem oX0_bodyFrom_65 : OKI 4 65 (.iload_n 2, 66, [2], 0, 0, []) := And.intro dX0_bodyFrom_65 (And.intro rfl (rfl))
theorem oX0_bodyFrom_66 : OKI 4 66 (.iaload, 67, [], 0, 0, []) := And.intro dX0_bodyFrom_66 rfl
theorem oX0_bodyFrom_67 : OKI 4 67 (.istore_n 2, 68, [2], 0, 0, []) := And.intro dX0_bodyFrom_67 (And.intro rfl (And.intro rfl (by decide)))
theorem oX0_bodyFrom_68 : OKI 4 68 (.iinc 3 1, 71, [3], 1, 0, []) := And.intro dX0_bodyFrom_68 (And.intro rfl (And.intro rfl (And.intro (by decide +kernel) (by decide))))
theorem oX0_bodyFrom_71 : OKI 4 71 (.goto (-67), 74, [4], 0, 0, []) := And.intro dX0_bodyFrom_71 (And.intro rfl (by decide))
theorem oX0_bodyFrom_74 : OKI 4 74 (.iconst 0, 75, [], 0, 0, []) := And.intro dX0_bodyFrom_74 (And.intro rfl (by decide +kernel))
theorem oX0_bodyFrom_75 : OKI 4 75 (.ireturn, 76, [0], 0, 0, []) := And.intro dX0_bodyFrom_75 (Or.inl (And.intro rfl rfl))
def pfX0_bodyFrom (pc : Nat) : Option XE := (bif Nat.blt pc 35 then (bif Nat.blt pc 15 then (bif Nat.blt pc 5 then (bif Nat.blt pc 2 then (bif Nat.blt pc 1 then (bif Nat.beq pc 0 then some (.iload_n 1, 1, [1], 0, 0, []) else none) else (bif Nat.beq pc 1 then some (.istore_n 2, 2, [2], 0, 0, []) else none)) else (bif Nat.blt pc 3 then (bif Nat.beq pc 2 then some (.iconst 0, 3, [], 0, 0, []) else none) else (bif Nat.blt pc 4 then (bif Nat.beq pc 3 then some (.istore_n 3, 4, [3], 0, 0, []) else none) else (bif Nat.beq pc 4 then some (.iload_n 3, 5, [3], 0, 0, []) else none)))) else (bif Nat.blt pc 10 then (bif Nat.blt pc 7 then (bif Nat.beq pc 5 then some (.bipush 8, 7, [], 8, 0, []) else none) else (bif Nat.beq pc 7 then some (.if_icmp .ge 67, 10, [74], 0, 0, []) else none)) else (bif Nat.blt pc 11 then (bif Nat.beq pc 10 then some (.iload_n 2, 11, [2], 0, 0, []) else none) else (bif Nat.blt pc 14 then (bif Nat.beq pc 11 then some (.ifCond .lt 63, 14, [74], 0, 0, []) else none) else (bif Nat.beq pc 14 then some (.iload_n 2, 15, [2], 0, 0, []) else none))))) else (bif Nat.blt pc 24 then (bif Nat.blt pc 20 then (bif Nat.blt pc 17 then (bif Nat.beq pc 15 then some (.bipush 8, 17, [], 8, 0, []) else none) else (bif Nat.beq pc 17 then some (.if_icmp .ge 57, 20, [74], 0, 0, []) else none)) else (bif Nat.blt pc 21 then (bif Nat.beq pc 20 then some (.iload_n 0, 21, [0], 0, 0, []) else none) else (bif Nat.blt pc 23 then (bif Nat.beq pc 21 then some (.bipush 8, 23, [], 8, 0, []) else none) else (bif Nat.beq pc 23 then some (.imul, 24, [], 0, 0, []) else none)))) else (bif Nat.blt pc 28 then (bif Nat.blt pc 25 then (bif Nat.beq pc 24 then some (.iload_n 2, 25, [2], 0, 0, []) else none) else (bif Nat.blt pc 26 then (bif Nat.beq pc 25 then some (.iadd, 26, [], 0, 0, []) else none) else (bif Nat.beq pc 26 then some (.istore 4, 28, [4], 0, 0, []) else none))) else (bif Nat.blt pc 30 then (bif Nat.beq pc 28 then some (.iload 4, 30, [4], 0, 0, []) else none) else (bif Nat.blt pc 33 then (bif Nat.beq pc 30 then some (.ifCond .lt 21, 33, [51], 0, 0, []) else none) else (bif Nat.beq pc 33 then some (.iload 4, 35, [4], 0, 0, []) else none)))))) else (bif Nat.blt pc 56 then (bif Nat.blt pc 47 then (bif Nat.blt pc 39 then (bif Nat.blt pc 38 then (bif Nat.beq pc 35 then some (.getstatic 50, 38, [501], 0, 0, []) else none) else (bif Nat.beq pc 38 then some (.arraylength, 39, [], 0, 0, []) else none)) else (bif Nat.blt pc 42 then (bif Nat.beq pc 39 then some (.if_icmp .ge 12, 42, [51], 0, 0, []) else none) else (bif Nat.blt pc 45 then (bif Nat.beq pc 42 then some (.getstatic 50, 45, [501], 0, 0, []) else none) else (bif Nat.beq pc 45 then some (.iload 4, 47, [4], 0, 0, []) else none)))) else (bif Nat.blt pc 51 then (bif Nat.blt pc 48 then (bif Nat.beq pc 47 then some (.iaload, 48, [], 0, 0, []) else none) else (bif Nat.beq pc 48 then some (.goto 4, 51, [52], 0, 0, []) else none)) else (bif Nat.blt pc 52 then (bif Nat.beq pc 51 then some (.iconst 0, 52, [], 0, 0, []) else none) else (bif Nat.blt pc 54 then (bif Nat.beq pc 52 then some (.istore 5, 54, [5], 0, 0, []) else none) else (bif Nat.beq pc 54 then some (.iload 5, 56, [5], 0, 0, []) else none))))) else (bif Nat.blt pc 66 then (bif Nat.blt pc 61 then (bif Nat.blt pc 59 then (bif Nat.beq pc 56 then some (.ifCond .eq 6, 59, [62], 0, 0, []) else none) else (bif Nat.beq pc 59 then some (.iload 5, 61, [5], 0, 0, []) else none)) else (bif Nat.blt pc 62 then (bif Nat.beq pc 61 then some (.ireturn, 62, [0], 0, 0, []) else none) else (bif Nat.blt pc 65 then (bif Nat.beq pc 62 then some (.getstatic 47, 65, [500], 0, 0, []) else none) else (bif Nat.beq pc 65 then some (.iload_n 2, 66, [2], 0, 0, []) else none)))) else (bif Nat.blt pc 71 then (bif Nat.blt pc 67 then (bif Nat.beq pc 66 then some (.iaload, 67, [], 0, 0, []) else none) else (bif Nat.blt pc 68 then (bif Nat.beq pc 67 then some (.istore_n 2, 68, [2], 0, 0, []) else none) else (bif Nat.beq pc 68 then some (.iinc 3 1, 71, [3], 1, 0, []) else none))) else (bif Nat.blt pc 74 then (bif Nat.beq pc 71 then some (.goto (-67), 74, [4], 0, 0, []) else none) else (bif Nat.blt pc 75 then (bif Nat.beq pc 74 then some (.iconst 0, 75, [], 0, 0, []) else none) else (bif Nat.beq pc 75 then some (.ireturn, 76, [0], 0, 0, []) else none)))))))
theorem okX0_bodyFrom : ∀ pc Y, pfX0_bodyFrom pc = some Y → OKI m_X0_bodyFrom pc Y := fun pc Y => ((bt_node (bt_node (bt_node (bt_node (bt_node (bt_leaf (P := OKI m_X0_bodyFrom) oX0_bodyFrom_0) (bt_leaf (P := OKI m_X0_bodyFrom) oX0_bodyFrom_1)) (bt_node (bt_leaf (P := OKI m_X0_bodyFrom) oX0_bodyFrom_2) (bt_node (bt_leaf (P := OKI m_X0_bodyFrom) oX0_bodyFrom_3) (bt_leaf (P := OKI m_X0_bodyFrom) oX0_bodyFrom_4)))) (bt_node (bt_node (bt_leaf (P := OKI m_X0_bodyFrom) oX0_bodyFrom_5) (bt_leaf (P := OKI m_X0_bodyFrom) oX0_bodyFrom_7)) (bt_node (bt_leaf (P := OKI m_X0_bodyFrom) oX0_bodyFrom_10) (bt_node (bt_leaf (P := OKI m_X0_bodyFrom) oX0_bodyFrom_11) (bt_leaf (P := OKI m_X0_bodyFrom) oX0_bodyFrom_14))))) (bt_node (bt_node (bt_node (bt_leaf (P := OKI m_X0_bodyFrom) oX0_bodyFrom_15) (bt_leaf (P := OKI m_X0_bodyFrom) oX0_bodyFrom_17)) (bt_node (bt_leaf (P := OKI m_X0_bodyFrom) oX0_bodyFrom_20) (bt_node (bt_leaf (P := OKI m_X0_bodyFrom) oX0_bodyFrom_21) (bt_leaf (P := OKI m_X0_bodyFrom) oX0_bodyFrom_23)))) (bt_node (bt_node (bt_leaf (P := OKI m_X0_bodyFrom) oX0_bodyFrom_24) (bt_node (bt_leaf (P := OKI m_X0_bodyFrom) oX0_bodyFrom_25) (bt_leaf (P := OKI m_X0_bodyFrom) oX0_bodyFrom_26))) (bt_node (bt_leaf (P := OKI m_X0_bodyFrom) oX0_bodyFrom_28) (bt_node (bt_leaf (P := OKI m_X0_bodyFrom) oX0_bodyFrom_30) (bt_leaf (P := OKI m_X0_bodyFrom) oX0_bodyFrom_33)))))) (bt_node (bt_node (bt_node (bt_node (bt_leaf (P := OKI m_X0_bodyFrom) oX0_bodyFrom_35) (bt_leaf (P := OKI m_X0_bodyFrom) oX0_bodyFrom_38)) (bt_node (bt_leaf (P := OKI m_X0_bodyFrom) oX0_bodyFrom_39) (bt_node (bt_leaf (P := OKI m_X0_bodyFrom) oX0_bodyFrom_42) (bt_leaf (P := OKI m_X0_bodyFrom) oX0_bodyFrom_45)))) (bt_node (bt_node (bt_leaf (P := OKI m_X0_bodyFrom) oX0_bodyFrom_47) (bt_leaf (P := OKI m_X0_bodyFrom) oX0_bodyFrom_48)) (bt_node (bt_leaf (P := OKI m_X0_bodyFrom) oX0_bodyFrom_51) (bt_node (bt_leaf (P := OKI m_X0_bodyFrom) oX0_bodyFrom_52) (bt_leaf (P := OKI m_X0_bodyFrom) oX0_bodyFrom_54))))) (bt_node (bt_node (bt_node (bt_leaf (P := OKI m_X0_bodyFrom) oX0_bodyFrom_56) (bt_leaf (P := OKI m_X0_bodyFrom) oX0_bodyFrom_59)) (bt_node (bt_leaf (P := OKI m_X0_bodyFrom) oX0_bodyFrom_61) (bt_node (bt_leaf (P := OKI m_X0_bodyFrom) oX0_bodyFrom_62) (bt_leaf (P := OKI m_X0_bodyFrom) oX0_bodyFrom_65)))) (bt_node (bt_node (bt_leaf (P := OKI m_X0_bodyFrom) oX0_bodyFrom_66) (bt_node (bt_leaf (P := OKI m_X0_bodyFrom) oX0_bodyFrom_67) (bt_leaf (P := OKI m_X0_bodyFrom) oX0_bodyFrom_68))) (bt_node (bt_leaf (P := OKI m_X0_bodyFrom) oX0_bodyFrom_71) (bt_node (bt_leaf (P := OKI m_X0_bodyFrom) oX0_bodyFrom_74) (bt_leaf (P := OKI m_X0_bodyFrom) oX0_bodyFrom_75))))))) : pfX0_bodyFrom pc = some Y → OKI m_X0_bodyFrom pc Y)
def stpX0_bodyFrom (pc : Nat) : Option (List Bool) := (bif Nat.blt pc 52 then (bif Nat.blt pc 51 then (bif Nat.beq pc 4 then some [true, false, true, true, false, false] else none) else (bif Nat.beq pc 51 then some [true, false, true, true, false, false] else none)) else (bif Nat.blt pc 74 then (bif Nat.beq pc 52 then some [true, false, true, true, false, false] else none) else (bif Nat.beq pc 74 then some [false, false, false, false, false, false] else none)))
def bX0_bodyFrom_0 (d rc rs : Nat) (a1 : Int32) (a2 : Int32) (σ : XH) (Q : XV → XH → Prop) : Prop :=
  Ex d rc rs m_X0_bodyFrom 4 [vI a1, vU, vI a2, vI 0, vU, vU] [] σ Q
theorem sX0_bodyFrom_0 {d rc rs : Nat} {a1 : Int32} {a2 : Int32} {σ : XH} {Q : XV → XH → Prop} (h : bX0_bodyFrom_0 d rc rs a1 a2 σ Q) : Ex d rc rs m_X0_bodyFrom 0 [vI a1, vI a2, vU, vU, vU, vU] [] σ Q :=
  xtree_sound (stop := stpX0_bodyFrom) okX0_bodyFrom 6 _ _ _ _ _ _ h
def bX0_bodyFrom_4 (d rc rs : Nat) (l0 : Int32) (l2 : Int32) (l3 : Int32) (σ : XH) (Q : XV → XH → Prop) : Prop :=
  ((l3 < 8 → ((l2 < 0 → Ex d rc rs m_X0_bodyFrom 74 [vU, vU, vU, vU, vU, vU] [] σ Q) ∧ (¬ l2 < 0 → ((l2 < 8 → ((((l0 * 8) + l2) < 0 → Ex d rc rs m_X0_bodyFrom 51 [vI l0, vU, vI l2, vI l3, vU, vU] [] σ Q) ∧ (¬ ((l0 * 8) + l2) < 0 → (((((l0 * 8) + l2) < (Int32.ofNat (hn σ 501 0)) → ((vp_in ((l0 * 8) + l2) (hn σ 501 0) ∧ Ex d rc rs m_X0_bodyFrom 52 [vI l0, vU, vI l2, vI l3, vU, vU] [vI (hi σ 501 0 ((l0 * 8) + l2).toNatClampNeg)] σ Q))) ∧ (¬ ((l0 * 8) + l2) < (Int32.ofNat (hn σ 501 0)) → Ex d rc rs m_X0_bodyFrom 51 [vI l0, vU, vI l2, vI l3, vU, vU] [] σ Q)))))) ∧ (¬ l2 < 8 → Ex d rc rs m_X0_bodyFrom 74 [vU, vU, vU, vU, vU, vU] [] σ Q))))) ∧ (¬ l3 < 8 → Ex d rc rs m_X0_bodyFrom 74 [vU, vU, vU, vU, vU, vU] [] σ Q))
theorem sX0_bodyFrom_4 {d rc rs : Nat} {l0 : Int32} {l2 : Int32} {l3 : Int32} {σ : XH} {Q : XV → XH → Prop} (h : bX0_bodyFrom_4 d rc rs l0 l2 l3 σ Q) : Ex d rc rs m_X0_bodyFrom 4 [vI l0, vU, vI l2, vI l3, vU, vU] [] σ Q :=
  xtree_sound (stop := stpX0_bodyFrom) okX0_bodyFrom 26 _ _ _ _ _ _ h
def bX0_bodyFrom_51 (d rc rs : Nat) (l0 : Int32) (l2 : Int32) (l3 : Int32) (σ : XH) (Q : XV → XH → Prop) : Prop :=
  Ex d rc rs m_X0_bodyFrom 52 [vI l0, vU, vI l2, vI l3, vU, vU] [vI 0] σ Q
theorem sX0_bodyFrom_51 {d rc rs : Nat} {l0 : Int32} {l2 : Int32} {l3 : Int32} {σ : XH} {Q : XV → XH → Prop} (h : bX0_bodyFrom_51 d rc rs l0 l2 l3 σ Q) : Ex d rc rs m_X0_bodyFrom 51 [vI l0, vU, vI l2, vI l3, vU, vU] [] σ Q :=
  xtree_sound (stop := stpX0_bodyFrom) okX0_bodyFrom 3 _ _ _ _ _ _ h
def bX0_bodyFrom_52 (d rc rs : Nat) (l0 : Int32) (l2 : Int32) (l3 : Int32) (q0 : Int32) (σ : XH) (Q : XV → XH → Prop) : Prop :=
  ((q0 = 0 → ((vp_in l2 (hn σ 500 0) ∧ Ex d rc rs m_X0_bodyFrom 4 [vI l0, vU, vI (hi σ 500 0 l2.toNatClampNeg), vI (l3 + 1), vU, vU] [] σ Q))) ∧ (¬ q0 = 0 → Q (vI q0) σ))
theorem sX0_bodyFrom_52 {d rc rs : Nat} {l0 : Int32} {l2 : Int32} {l3 : Int32} {q0 : Int32} {σ : XH} {Q : XV → XH → Prop} (h : bX0_bodyFrom_52 d rc rs l0 l2 l3 q0 σ Q) : Ex d rc rs m_X0_bodyFrom 52 [vI l0, vU, vI l2, vI l3, vU, vU] [vI q0] σ Q :=
  xtree_sound (stop := stpX0_bodyFrom) okX0_bodyFrom 11 _ _ _ _ _ _ h
def bX0_bodyFrom_74 (d rc rs : Nat)  (σ : XH) (Q : XV → XH → Prop) : Prop :=
  Q (vI 0) σ
theorem sX0_bodyFrom_74 {d rc rs : Nat}  {σ : XH} {Q : XV → XH → Prop} (h : bX0_bodyFrom_74 d rc rs  σ Q) : Ex d rc rs m_X0_bodyFrom 74 [vU, vU, vU, vU, vU, vU] [] σ Q :=
  xtree_sound (stop := stpX0_bodyFrom) okX0_bodyFrom 4 _ _ _ _ _ _ h
/-! SpotTimers$Acts.run(III)I -/
theorem dX0_run_0 : decode cX0_run 0 = .ok (.iload_n 1, 1) := by decide +kernel
theorem dX0_run_1 : decode cX0_run 1 = .ok (.ifCond .eq 9, 3) := by decide +kernel
theorem dX0_run_4 : decode cX0_run 4 = .ok (.iload_n 3, 1) := by decide +kernel
theorem dX0_run_5 : decode cX0_run 5 = .ok (.bipush 40, 2) := by decide +kernel
theorem dX0_run_7 : decode cX0_run 7 = .ok (.if_icmp .le 5, 3) := by decide +kernel
theorem dX0_run_10 : decode cX0_run 10 = .ok (.iconst 0, 1) := by decide +kernel
theorem dX0_run_11 : decode cX0_run 11 = .ok (.ireturn, 1) := by decide +kernel
theorem dX0_run_12 : decode cX0_run 12 = .ok (.aload_n 0, 1) := by decide +kernel
theorem dX0_run_13 : decode cX0_run 13 = .ok (.getfield 15, 3) := by decide +kernel
theorem dX0_run_16 : decode cX0_run 16 = .ok (.aload_n 0, 1) := by decide +kernel
theorem dX0_run_17 : decode cX0_run 17 = .ok (.getfield 9, 3) := by decide +kernel
theorem dX0_run_20 : decode cX0_run 20 = .ok (.arraylength, 1) := by decide +kernel
theorem dX0_run_21 : decode cX0_run 21 = .ok (.if_icmp .ge 13, 3) := by decide +kernel
theorem dX0_run_24 : decode cX0_run 24 = .ok (.aload_n 0, 1) := by decide +kernel
theorem dX0_run_25 : decode cX0_run 25 = .ok (.getfield 9, 3) := by decide +kernel
theorem dX0_run_28 : decode cX0_run 28 = .ok (.aload_n 0, 1) := by decide +kernel
theorem dX0_run_29 : decode cX0_run 29 = .ok (.getfield 15, 3) := by decide +kernel
theorem dX0_run_32 : decode cX0_run 32 = .ok (.iload_n 1, 1) := by decide +kernel
theorem dX0_run_33 : decode cX0_run 33 = .ok (.iastore, 1) := by decide +kernel
theorem dX0_run_34 : decode cX0_run 34 = .ok (.aload_n 0, 1) := by decide +kernel
theorem dX0_run_35 : decode cX0_run 35 = .ok (.dup, 1) := by decide +kernel
theorem dX0_run_36 : decode cX0_run 36 = .ok (.getfield 15, 3) := by decide +kernel
theorem dX0_run_39 : decode cX0_run 39 = .ok (.iconst 1, 1) := by decide +kernel
theorem dX0_run_40 : decode cX0_run 40 = .ok (.iadd, 1) := by decide +kernel
theorem dX0_run_41 : decode cX0_run 41 = .ok (.putfield 15, 3) := by decide +kernel
theorem dX0_run_44 : decode cX0_run 44 = .ok (.iload_n 3, 1) := by decide +kernel
theorem dX0_run_45 : decode cX0_run 45 = .ok (.iconst 1, 1) := by decide +kernel
theorem dX0_run_46 : decode cX0_run 46 = .ok (.iadd, 1) := by decide +kernel
theorem dX0_run_47 : decode cX0_run 47 = .ok (.istore 4, 2) := by decide +kernel
theorem dX0_run_49 : decode cX0_run 49 = .ok (.iload_n 1, 1) := by decide +kernel
theorem dX0_run_50 : decode cX0_run 50 = .ok (.lookupswitch 241 #[(10, 98), (11, 105), (12, 116), (20, 130), (30, 142), (40, 161), (50, 172), (51, 184), (60, 196), (70, 208), (80, 221)], 98) := by decide +kernel
theorem dX0_run_148 : decode cX0_run 148 = .ok (.iload_n 2, 1) := by decide +kernel
theorem dX0_run_149 : decode cX0_run 149 = .ok (.aload_n 0, 1) := by decide +kernel
theorem dX0_run_150 : decode cX0_run 150 = .ok (.getfield 22, 3) := by decide +kernel
theorem dX0_run_153 : decode cX0_run 153 = .ok (.iadd, 1) := by decide +kernel
theorem dX0_run_154 : decode cX0_run 154 = .ok (.ireturn, 1) := by decide +kernel
theorem dX0_run_155 : decode cX0_run 155 = .ok (.aload_n 0, 1) := by decide +kernel
theorem dX0_run_156 : decode cX0_run 156 = .ok (.iconst 0, 1) := by decide +kernel
theorem dX0_run_157 : decode cX0_run 157 = .ok (.iload_n 2, 1) := by decide +kernel
theorem dX0_run_158 : decode cX0_run 158 = .ok (.iload 4, 2) := by decide +kernel
theorem dX0_run_160 : decode cX0_run 160 = .ok (.invokevirtual 36, 3) := by decide +kernel
theorem dX0_run_163 : decode cX0_run 163 = .ok (.iconst 2, 1) := by decide +kernel
theorem dX0_run_164 : decode cX0_run 164 = .ok (.imul, 1) := by decide +kernel
theorem dX0_run_165 : decode cX0_run 165 = .ok (.ireturn, 1) := by decide +kernel
theorem dX0_run_166 : decode cX0_run 166 = .ok (.aload_n 0, 1) := by decide +kernel
theorem dX0_run_167 : decode cX0_run 167 = .ok (.iconst 1, 1) := by decide +kernel
theorem dX0_run_168 : decode cX0_run 168 = .ok (.iload_n 2, 1) := by decide +kernel
theorem dX0_run_169 : decode cX0_run 169 = .ok (.iload 4, 2) := by decide +kernel
theorem dX0_run_171 : decode cX0_run 171 = .ok (.invokevirtual 36, 3) := by decide +kernel
theorem dX0_run_174 : decode cX0_run 174 = .ok (.aload_n 0, 1) := by decide +kernel
theorem dX0_run_175 : decode cX0_run 175 = .ok (.getfield 25, 3) := by decide +kernel
theorem dX0_run_178 : decode cX0_run 178 = .ok (.isub, 1) := by decide +kernel
theorem dX0_run_179 : decode cX0_run 179 = .ok (.ireturn, 1) := by decide +kernel
theorem dX0_run_180 : decode cX0_run 180 = .ok (.aload_n 0, 1) := by decide +kernel
theorem dX0_run_181 : decode cX0_run 181 = .ok (.iconst 1, 1) := by decide +kernel
theorem dX0_run_182 : decode cX0_run 182 = .ok (.iconst 0, 1) := by decide +kernel
theorem dX0_run_183 : decode cX0_run 183 = .ok (.iload_n 2, 1) := by decide +kernel
theorem dX0_run_184 : decode cX0_run 184 = .ok (.iload 4, 2) := by decide +kernel
theorem dX0_run_186 : decode cX0_run 186 = .ok (.invokevirtual 53, 3) := by decide +kernel
theorem dX0_run_189 : decode cX0_run 189 = .ok (.iconst 1, 1) := by decide +kernel
theorem dX0_run_190 : decode cX0_run 190 = .ok (.ixor, 1) := by decide +kernel
theorem dX0_run_191 : decode cX0_run 191 = .ok (.ireturn, 1) := by decide +kernel
theorem dX0_run_192 : decode cX0_run 192 = .ok (.aload_n 0, 1) := by decide +kernel
theorem dX0_run_193 : decode cX0_run 193 = .ok (.iconst 2, 1) := by decide +kernel
theorem dX0_run_194 : decode cX0_run 194 = .ok (.iconst 1, 1) := by decide +kernel
theorem dX0_run_195 : decode cX0_run 195 = .ok (.iload_n 2, 1) := by decide +kernel
theorem dX0_run_196 : decode cX0_run 196 = .ok (.iload 4, 2) := by decide +kernel
theorem dX0_run_198 : decode cX0_run 198 = .ok (.invokevirtual 53, 3) := by decide +kernel
theorem dX0_run_201 : decode cX0_run 201 = .ok (.aload_n 0, 1) := by decide +kernel
theorem dX0_run_202 : decode cX0_run 202 = .ok (.iconst 0, 1) := by decide +kernel
theorem dX0_run_203 : decode cX0_run 203 = .ok (.iconst 2, 1) := by decide +kernel
theorem dX0_run_204 : decode cX0_run 204 = .ok (.iload 4, 2) := by decide +kernel
theorem dX0_run_206 : decode cX0_run 206 = .ok (.invokevirtual 36, 3) := by decide +kernel
theorem dX0_run_209 : decode cX0_run 209 = .ok (.iadd, 1) := by decide +kernel
theorem dX0_run_210 : decode cX0_run 210 = .ok (.ireturn, 1) := by decide +kernel
theorem dX0_run_211 : decode cX0_run 211 = .ok (.aload_n 0, 1) := by decide +kernel
theorem dX0_run_212 : decode cX0_run 212 = .ok (.iconst 3, 1) := by decide +kernel
theorem dX0_run_213 : decode cX0_run 213 = .ok (.iconst 2, 1) := by decide +kernel
theorem dX0_run_214 : decode cX0_run 214 = .ok (.iload_n 2, 1) := by decide +kernel
theorem dX0_run_215 : decode cX0_run 215 = .ok (.iload 4, 2) := by decide +kernel
theorem dX0_run_217 : decode cX0_run 217 = .ok (.invokevirtual 53, 3) := by decide +kernel
theorem dX0_run_220 : decode cX0_run 220 = .ok (.ineg, 1) := by decide +kernel
theorem dX0_run_221 : decode cX0_run 221 = .ok (.ireturn, 1) := by decide +kernel
theorem dX0_run_222 : decode cX0_run 222 = .ok (.aload_n 0, 1) := by decide +kernel
theorem dX0_run_223 : decode cX0_run 223 = .ok (.iconst 4, 1) := by decide +kernel
theorem dX0_run_224 : decode cX0_run 224 = .ok (.iconst 0, 1) := by decide +kernel
theorem dX0_run_225 : decode cX0_run 225 = .ok (.iload_n 2, 1) := by decide +kernel
theorem dX0_run_226 : decode cX0_run 226 = .ok (.iconst 3, 1) := by decide +kernel
theorem dX0_run_227 : decode cX0_run 227 = .ok (.iadd, 1) := by decide +kernel
theorem dX0_run_228 : decode cX0_run 228 = .ok (.iload 4, 2) := by decide +kernel
theorem dX0_run_230 : decode cX0_run 230 = .ok (.invokevirtual 53, 3) := by decide +kernel
theorem dX0_run_233 : decode cX0_run 233 = .ok (.ireturn, 1) := by decide +kernel
theorem dX0_run_234 : decode cX0_run 234 = .ok (.aload_n 0, 1) := by decide +kernel
theorem dX0_run_235 : decode cX0_run 235 = .ok (.iconst 4, 1) := by decide +kernel
theorem dX0_run_236 : decode cX0_run 236 = .ok (.iconst 2, 1) := by decide +kernel
theorem dX0_run_237 : decode cX0_run 237 = .ok (.iload_n 2, 1) := by decide +kernel
theorem dX0_run_238 : decode cX0_run 238 = .ok (.iload 4, 2) := by decide +kernel
theorem dX0_run_240 : decode cX0_run 240 = .ok (.invokevirtual 53, 3) := by decide +kernel
theorem dX0_run_243 : decode cX0_run 243 = .ok (.iconst 5, 1) := by decide +kernel
theorem dX0_run_244 : decode cX0_run 244 = .ok (.iadd, 1) := by decide +kernel
theorem dX0_run_245 : decode cX0_run 245 = .ok (.ireturn, 1) := by decide +kernel
theorem dX0_run_246 : decode cX0_run 246 = .ok (.aload_n 0, 1) := by decide +kernel
theorem dX0_run_247 : decode cX0_run 247 = .ok (.iconst 5, 1) := by decide +kernel
theorem dX0_run_248 : decode cX0_run 248 = .ok (.iconst 1, 1) := by decide +kernel
theorem dX0_run_249 : decode cX0_run 249 = .ok (.iload_n 2, 1) := by decide +kernel
theorem dX0_run_250 : decode cX0_run 250 = .ok (.iload 4, 2) := by decide +kernel
theorem dX0_run_252 : decode cX0_run 252 = .ok (.invokevirtual 53, 3) := by decide +kernel
theorem dX0_run_255 : decode cX0_run 255 = .ok (.iload_n 2, 1) := by decide +kernel
theorem dX0_run_256 : decode cX0_run 256 = .ok (.ixor, 1) := by decide +kernel
theorem dX0_run_257 : decode cX0_run 257 = .ok (.ireturn, 1) := by decide +kernel
theorem dX0_run_258 : decode cX0_run 258 = .ok (.aload_n 0, 1) := by decide +kernel
theorem dX0_run_259 : decode cX0_run 259 = .ok (.bipush 6, 2) := by decide +kernel
theorem dX0_run_261 : decode cX0_run 261 = .ok (.iconst 0, 1) := by decide +kernel
theorem dX0_run_262 : decode cX0_run 262 = .ok (.iload_n 2, 1) := by decide +kernel
theorem dX0_run_263 : decode cX0_run 263 = .ok (.iload 4, 2) := by decide +kernel
theorem dX0_run_265 : decode cX0_run 265 = .ok (.invokevirtual 53, 3) := by decide +kernel
theorem dX0_run_268 : decode cX0_run 268 = .ok (.iconst 3, 1) := by decide +kernel
theorem dX0_run_269 : decode cX0_run 269 = .ok (.imul, 1) := by decide +kernel
theorem dX0_run_270 : decode cX0_run 270 = .ok (.ireturn, 1) := by decide +kernel
theorem dX0_run_271 : decode cX0_run 271 = .ok (.aload_n 0, 1) := by decide +kernel
theorem dX0_run_272 : decode cX0_run 272 = .ok (.iconst 0, 1) := by decide +kernel
theorem dX0_run_273 : decode cX0_run 273 = .ok (.iload_n 2, 1) := by decide +kernel
theorem dX0_run_274 : decode cX0_run 274 = .ok (.iload 4, 2) := by decide +kernel
theorem dX0_run_276 : decode cX0_run 276 = .ok (.invokevirtual 36, 3) := by decide +kernel
theorem dX0_run_279 : decode cX0_run 279 = .ok (.aload_n 0, 1) := by decide +kernel
theorem dX0_run_280 : decode cX0_run 280 = .ok (.bipush 7, 2) := by decide +kernel
theorem dX0_run_282 : decode cX0_run 282 = .ok (.iconst 2, 1) := by decide +kernel
theorem dX0_run_283 : decode cX0_run 283 = .ok (.iload_n 2, 1) := by decide +kernel
theorem dX0_run_284 : decode cX0_run 284 = .ok (.iload 4, 2) := by decide +kernel
theorem dX0_run_286 : decode cX0_run 286 = .ok (.invokevirtual 53, 3) := by decide +kernel
theorem dX0_run_289 : decode cX0_run 289 = .ok (.isub, 1) := by decide +kernel
theorem dX0_run_290 : decode cX0_run 290 = .ok (.ireturn, 1) := by decide +kernel
theorem dX0_run_291 : decode cX0_run 291 = .ok (.iconst 0, 1) := by decide +kernel
theorem dX0_run_292 : decode cX0_run 292 = .ok (.ireturn, 1) := by decide +kernel
theorem oX0_run_0 : OKI 5 0 (.iload_n 1, 1, [1], 0, 0, []) := And.intro dX0_run_0 (And.intro rfl (rfl))
theorem oX0_run_1 : OKI 5 1 (.ifCond .eq 9, 4, [10], 0, 0, []) := And.intro dX0_run_1 (And.intro rfl (by decide))
theorem oX0_run_4 : OKI 5 4 (.iload_n 3, 5, [3], 0, 0, []) := And.intro dX0_run_4 (And.intro rfl (rfl))
theorem oX0_run_5 : OKI 5 5 (.bipush 40, 7, [], 40, 0, []) := And.intro dX0_run_5 (And.intro rfl (by decide +kernel))
theorem oX0_run_7 : OKI 5 7 (.if_icmp .le 5, 10, [12], 0, 0, []) := And.intro dX0_run_7 (And.intro rfl (by decide))
theorem oX0_run_10 : OKI 5 10 (.iconst 0, 11, [], 0, 0, []) := And.intro dX0_run_10 (And.intro rfl (by decide +kernel))
theorem oX0_run_11 : OKI 5 11 (.ireturn, 12, [0], 0, 0, []) := And.intro dX0_run_11 (Or.inl (And.intro rfl rfl))
theorem oX0_run_12 : OKI 5 12 (.aload_n 0, 13, [0], 0, 0, []) := And.intro dX0_run_12 (And.intro rfl (rfl))
theorem oX0_run_13 : OKI 5 13 (.getfield 15, 16, [1, 1, 0], 0, 0, []) := And.intro dX0_run_13 (And.intro rfl (⟨(RX0, TX0, 5), "SpotTimers$Acts", rfl, by decide, tm_1 _ (List.mem_of_getElem? (i := 196) rfl) rfl, Or.inl rfl, Or.inr (Or.inr (And.intro rfl (Or.inl rfl)))⟩))
theorem oX0_run_16 : OKI 5 16 (.aload_n 0, 17, [0], 0, 0, []) := And.intro dX0_run_16 (And.intro rfl (rfl))
theorem oX0_run_17 : OKI 5 17 (.getfield 9, 20, [1, 0, 2, 100, 0], 0, 0, []) := And.intro dX0_run_17 (And.intro rfl (⟨(RX0, TX0, 5), "SpotTimers$Acts", rfl, by decide, tm_1 _ (List.mem_of_getElem? (i := 194) rfl) rfl, Or.inl rfl, rfl, rfl⟩))
theorem oX0_run_20 : OKI 5 20 (.arraylength, 21, [], 0, 0, []) := And.intro dX0_run_20 rfl
theorem oX0_run_21 : OKI 5 21 (.if_icmp .ge 13, 24, [34], 0, 0, []) := And.intro dX0_run_21 (And.intro rfl (by decide))
theorem oX0_run_24 : OKI 5 24 (.aload_n 0, 25, [0], 0, 0, []) := And.intro dX0_run_24 (And.intro rfl (rfl))
theorem oX0_run_25 : OKI 5 25 (.getfield 9, 28, [1, 0, 2, 100, 0], 0, 0, []) := And.intro dX0_run_25 (And.intro rfl (⟨(RX0, TX0, 5), "SpotTimers$Acts", rfl, by decide, tm_1 _ (List.mem_of_getElem? (i := 194) rfl) rfl, Or.inl rfl, rfl, rfl⟩))
theorem oX0_run_28 : OKI 5 28 (.aload_n 0, 29, [0], 0, 0, []) := And.intro dX0_run_28 (And.intro rfl (rfl))
theorem oX0_run_29 : OKI 5 29 (.getfield 15, 32, [1, 1, 0], 0, 0, []) := And.intro dX0_run_29 (And.intro rfl (⟨(RX0, TX0, 5), "SpotTimers$Acts", rfl, by decide, tm_1 _ (List.mem_of_getElem? (i := 196) rfl) rfl, Or.inl rfl, Or.inr (Or.inr (And.intro rfl (Or.inl rfl)))⟩))
theorem oX0_run_32 : OKI 5 32 (.iload_n 1, 33, [1], 0, 0, []) := And.intro dX0_run_32 (And.intro rfl (rfl))
theorem oX0_run_33 : OKI 5 33 (.iastore, 34, [], 0, 0, []) := And.intro dX0_run_33 rfl
theorem oX0_run_34 : OKI 5 34 (.aload_n 0, 35, [0], 0, 0, []) := And.intro dX0_run_34 (And.intro rfl (rfl))
theorem oX0_run_35 : OKI 5 35 (.dup, 36, [], 0, 0, []) := And.intro dX0_run_35 rfl
theorem oX0_run_36 : OKI 5 36 (.getfield 15, 39, [1, 1, 0], 0, 0, []) := And.intro dX0_run_36 (And.intro rfl (⟨(RX0, TX0, 5), "SpotTimers$Acts", rfl, by decide, tm_1 _ (List.mem_of_getElem? (i := 196) rfl) rfl, Or.inl rfl, Or.inr (Or.inr (And.intro rfl (Or.inl rfl)))⟩))
theorem oX0_run_39 : OKI 5 39 (.iconst 1, 40, [], 1, 0, []) := And.intro dX0_run_39 (And.intro rfl (by decide +kernel))
theorem oX0_run_40 : OKI 5 40 (.iadd, 41, [], 0, 0, []) := And.intro dX0_run_40 rfl
theorem oX0_run_41 : OKI 5 41 (.putfield 15, 44, [1, 1, 0], 0, 0, []) := And.intro dX0_run_41 (And.intro rfl (⟨(RX0, TX0, 5), "SpotTimers$Acts", rfl, by decide, tm_1 _ (List.mem_of_getElem? (i := 196) rfl) rfl, Or.inl rfl, Or.inl rfl, rfl⟩))
theorem oX0_run_44 : OKI 5 44 (.iload_n 3, 45, [3], 0, 0, []) := And.intro dX0_run_44 (And.intro rfl (rfl))
theorem oX0_run_45 : OKI 5 45 (.iconst 1, 46, [], 1, 0, []) := And.intro dX0_run_45 (And.intro rfl (by decide +kernel))
theorem oX0_run_46 : OKI 5 46 (.iadd, 47, [], 0, 0, []) := And.intro dX0_run_46 rfl
theorem oX0_run_47 : OKI 5 47 (.istore 4, 49, [4], 0, 0, []) := And.intro dX0_run_47 (And.intro rfl (And.intro rfl (by decide)))
theorem oX0_run_49 : OKI 5 49 (.iload_n 1, 50, [1], 0, 0, []) := And.intro dX0_run_49 (And.intro rfl (rfl))
theorem oX0_run_50 : OKI 5 50 (.lookupswitch 241 #[(10, 98), (11, 105), (12, 116), (20, 130), (30, 142), (40, 161), (50, 172), (51, 184), (60, 196), (70, 208), (80, 221)], 148, [291], 0, 0, [(10, 148), (11, 155), (12, 166), (20, 180), (30, 192), (40, 211), (50, 222), (51, 234), (60, 246), (70, 258), (80, 271)]) := And.intro ⟨_, dX0_run_50⟩ (by decide +kernel)
theorem oX0_run_148 : OKI 5 148 (.iload_n 2, 149, [2], 0, 0, []) := And.intro dX0_run_148 (And.intro rfl (rfl))
theorem oX0_run_149 : OKI 5 149 (.aload_n 0, 150, [0], 0, 0, []) := And.intro dX0_run_149 (And.intro rfl (rfl))
theorem oX0_run_150 : OKI 5 150 (.getfield 22, 153, [1, 3, 0], 0, 0, []) := And.intro dX0_run_150 (And.intro rfl (⟨(RX0, TX0, 5), "SpotTimers$Acts", rfl, by decide, tm_1 _ (List.mem_of_getElem? (i := 199) rfl) rfl, Or.inl rfl, Or.inr (Or.inr (And.intro rfl (Or.inl rfl)))⟩))
theorem oX0_run_153 : OKI 5 153 (.iadd, 154, [], 0, 0, []) := And.intro dX0_run_153 rfl
theorem oX0_run_154 : OKI 5 154 (.ireturn, 155, [0], 0, 0, []) := And.intro dX0_run_154 (Or.inl (And.intro rfl rfl))
theorem oX0_run_155 : OKI 5 155 (.aload_n 0, 156, [0], 0, 0, []) := And.intro dX0_run_155 (And.intro rfl (rfl))
theorem oX0_run_156 : OKI 5 156 (.iconst 0, 157, [], 0, 0, []) := And.intro dX0_run_156 (And.intro rfl (by decide +kernel))
theorem oX0_run_157 : OKI 5 157 (.iload_n 2, 158, [2], 0, 0, []) := And.intro dX0_run_157 (And.intro rfl (rfl))
theorem oX0_run_158 : OKI 5 158 (.iload 4, 160, [4], 0, 0, []) := And.intro dX0_run_158 (And.intro rfl (rfl))
theorem oX0_run_160 : OKI 5 160 (.invokevirtual 36, 163, [2, 4, 2, 0, 0, 1], 0, 0, []) := And.intro dX0_run_160 (And.intro rfl (And.intro (by decide) (And.intro (by decide) (And.intro mo_X0_own (And.intro (tm_5 _ (List.mem_of_getElem? (i := 125) rfl) rfl) (And.intro (tm_5 _ (List.mem_of_getElem? (i := 127) rfl) rfl) (And.intro (pm_3 _ (List.mem_of_getElem? (i := 5) rfl)) (Or.inl ⟨(RX0, TX0, 5), rfl, rfl⟩))))))))
theorem oX0_run_163 : OKI 5 163 (.iconst 2, 164, [], 2, 0, []) := And.intro dX0_run_163 (And.intro rfl (by decide +kernel))
theorem oX0_run_164 : OKI 5 164 (.imul, 165, [], 0, 0, []) := And.intro dX0_run_164 rfl
theorem oX0_run_165 : OKI 5 165 (.ireturn, 166, [0], 0, 0, []) := And.intro dX0_run_165 (Or.inl (And.intro rfl rfl))
theorem oX0_run_166 : OKI 5 166 (.aload_n 0, 167, [0], 0, 0, []) := And.intro dX0_run_166 (And.intro rfl (rfl))
theorem oX0_run_167 : OKI 5 167 (.iconst 1, 168, [], 1, 0, []) := And.intro dX0_run_167 (And.intro rfl (by decide +kernel))
theorem oX0_run_168 : OKI 5 168 (.iload_n 2, 169, [2], 0, 0, []) := And.intro dX0_run_168 (And.intro rfl (rfl))
theorem oX0_run_169 : OKI 5 169 (.iload 4, 171, [4], 0, 0, []) := And.intro dX0_run_169 (And.intro rfl (rfl))
theorem oX0_run_171 : OKI 5 171 (.invokevirtual 36, 174, [2, 4, 2, 0, 0, 1], 0, 0, []) := And.intro dX0_run_171 (And.intro rfl (And.intro (by decide) (And.intro (by decide) (And.intro mo_X0_own (And.intro (tm_5 _ (List.mem_of_getElem? (i := 125) rfl) rfl) (And.intro (tm_5 _ (List.mem_of_getElem? (i := 127) rfl) rfl) (And.intro (pm_3 _ (List.mem_of_getElem? (i := 5) rfl)) (Or.inl ⟨(RX0, TX0, 5), rfl, rfl⟩))))))))
theorem oX0_run_174 : OKI 5 174 (.aload_n 0, 175, [0], 0, 0, []) := And.intro dX0_run_174 (And.intro rfl (rfl))
theorem oX0_run_175 : OKI 5 175 (.getfield 25, 178, [1, 4, 0], 0, 0, []) := And.intro dX0_run_175 (And.intro rfl (⟨(RX0, TX0, 5), "SpotTimers$Acts", rfl, by decide, tm_1 _ (List.mem_of_getElem? (i := 200) rfl) rfl, Or.inl rfl, Or.inr (Or.inr (And.intro rfl (Or.inl rfl)))⟩))
theorem oX0_run_178 : OKI 5 178 (.isub, 179, [], 0, 0, []) := And.intro dX0_run_178 rfl
theorem oX0_run_179 : OKI 5 179 (.ireturn, 180, [0], 0, 0, []) := And.intro dX0_run_179 (Or.inl (And.intro rfl rfl))
theorem oX0_run_180 : OKI 5 180 (.aload_n 0, 181, [0], 0, 0, []) := And.intro dX0_run_180 (And.intro rfl (rfl))
theorem oX0_run_181 : OKI 5 181 (.iconst 1, 182, [], 1, 0, []) := And.intro dX0_run_181 (And.intro rfl (by decide +kernel))
theorem oX0_run_182 : OKI 5 182 (.iconst 0, 183, [], 0, 0, []) := And.intro dX0_run_182 (And.intro rfl (by decide +kernel))
theorem oX0_run_183 : OKI 5 183 (.iload_n 2, 184, [2], 0, 0, []) := And.intro dX0_run_183 (And.intro rfl (rfl))
theorem oX0_run_184 : OKI 5 184 (.iload 4, 186, [4], 0, 0, []) := And.intro dX0_run_184 (And.intro rfl (rfl))
theorem oX0_run_186 : OKI 5 186 (.invokevirtual 53, 189, [3, 5, 2, 0, 0, 1], 0, 0, []) := And.intro dX0_run_186 (And.intro rfl (And.intro (by decide) (And.intro (by decide) (And.intro mo_X0_above (And.intro (tm_5 _ (List.mem_of_getElem? (i := 139) rfl) rfl) (And.intro (tm_5 _ (List.mem_of_getElem? (i := 141) rfl) rfl) (And.intro (pm_3 _ (List.mem_of_getElem? (i := 7) rfl)) (Or.inl ⟨(RX0, TX0, 5), rfl, rfl⟩))))))))
theorem oX0_run_189 : OKI 5 189 (.iconst 1, 190, [], 1, 0, []) := And.intro dX0_run_189 (And.intro rfl (by decide +kernel))
theorem oX0_run_190 : OKI 5 190 (.ixor, 191, [], 0, 0, []) := And.intro dX0_run_190 rfl
theorem oX0_run_191 : OKI 5 191 (.ireturn, 192, [0], 0, 0, []) := And.intro dX0_run_191 (Or.inl (And.intro rfl rfl))
theorem oX0_run_192 : OKI 5 192 (.aload_n 0, 193, [0], 0, 0, []) := And.intro dX0_run_192 (And.intro rfl (rfl))
theorem oX0_run_193 : OKI 5 193 (.iconst 2, 194, [], 2, 0, []) := And.intro dX0_run_193 (And.intro rfl (by decide +kernel))
theorem oX0_run_194 : OKI 5 194 (.iconst 1, 195, [], 1, 0, []) := And.intro dX0_run_194 (And.intro rfl (by decide +kernel))
theorem oX0_run_195 : OKI 5 195 (.iload_n 2, 196, [2], 0, 0, []) := And.intro dX0_run_195 (And.intro rfl (rfl))
theorem oX0_run_196 : OKI 5 196 (.iload 4, 198, [4], 0, 0, []) := And.intro dX0_run_196 (And.intro rfl (rfl))
theorem oX0_run_198 : OKI 5 198 (.invokevirtual 53, 201, [3, 5, 2, 0, 0, 1], 0, 0, []) := And.intro dX0_run_198 (And.intro rfl (And.intro (by decide) (And.intro (by decide) (And.intro mo_X0_above (And.intro (tm_5 _ (List.mem_of_getElem? (i := 139) rfl) rfl) (And.intro (tm_5 _ (List.mem_of_getElem? (i := 141) rfl) rfl) (And.intro (pm_3 _ (List.mem_of_getElem? (i := 7) rfl)) (Or.inl ⟨(RX0, TX0, 5), rfl, rfl⟩))))))))
theorem oX0_run_201 : OKI 5 201 (.aload_n 0, 202, [0], 0, 0, []) := And.intro dX0_run_201 (And.intro rfl (rfl))
theorem oX0_run_202 : OKI 5 202 (.iconst 0, 203, [], 0, 0, []) := And.intro dX0_run_202 (And.intro rfl (by decide +kernel))
theorem oX0_run_203 : OKI 5 203 (.iconst 2, 204, [], 2, 0, []) := And.intro dX0_run_203 (And.intro rfl (by decide +kernel))
theorem oX0_run_204 : OKI 5 204 (.iload 4, 206, [4], 0, 0, []) := And.intro dX0_run_204 (And.intro rfl (rfl))
theorem oX0_run_206 : OKI 5 206 (.invokevirtual 36, 209, [2, 4, 2, 0, 0, 1], 0, 0, []) := And.intro dX0_run_206 (And.intro rfl (And.intro (by decide) (And.intro (by decide) (And.intro mo_X0_own (And.intro (tm_5 _ (List.mem_of_getElem? (i := 125) rfl) rfl) (And.intro (tm_5 _ (List.mem_of_getElem? (i := 127) rfl) rfl) (And.intro (pm_3 _ (List.mem_of_getElem? (i := 5) rfl)) (Or.inl ⟨(RX0, TX0, 5), rfl, rfl⟩))))))))
theorem oX0_run_209 : OKI 5 209 (.iadd, 210, [], 0, 0, []) := And.intro dX0_run_209 rfl
theorem oX0_run_210 : OKI 5 210 (.ireturn, 211, [0], 0, 0, []) := And.intro dX0_run_210 (Or.inl (And.intro rfl rfl))
theorem oX0_run_211 : OKI 5 211 (.aload_n 0, 212, [0], 0, 0, []) := And.intro dX0_run_211 (And.intro rfl (rfl))
theorem oX0_run_212 : OKI 5 212 (.iconst 3, 213, [], 3, 0, []) := And.intro dX0_run_212 (And.intro rfl (by decide +kernel))
theorem oX0_run_213 : OKI 5 213 (.iconst 2, 214, [], 2, 0, []) := And.intro dX0_run_213 (And.intro rfl (by decide +kernel))
theorem oX0_run_214 : OKI 5 214 (.iload_n 2, 215, [2], 0, 0, []) := And.intro dX0_run_214 (And.intro rfl (rfl))
theorem oX0_run_215 : OKI 5 215 (.iload 4, 217, [4], 0, 0, []) := And.intro dX0_run_215 (And.intro rfl (rfl))
theorem oX0_run_217 : OKI 5 217 (.invokevirtual 53, 220, [3, 5, 2, 0, 0, 1], 0, 0, []) := And.intro dX0_run_217 (And.intro rfl (And.intro (by decide) (And.intro (by decide) (And.intro mo_X0_above (And.intro (tm_5 _ (List.mem_of_getElem? (i := 139) rfl) rfl) (And.intro (tm_5 _ (List.mem_of_getElem? (i := 141) rfl) rfl) (And.intro (pm_3 _ (List.mem_of_getElem? (i := 7) rfl)) (Or.inl ⟨(RX0, TX0, 5), rfl, rfl⟩))))))))
theorem oX0_run_220 : OKI 5 220 (.ineg, 221, [], 0, 0, []) := And.intro dX0_run_220 rfl
theorem oX0_run_221 : OKI 5 221 (.ireturn, 222, [0], 0, 0, []) := And.intro dX0_run_221 (Or.inl (And.intro rfl rfl))
theorem oX0_run_222 : OKI 5 222 (.aload_n 0, 223, [0], 0, 0, []) := And.intro dX0_run_222 (And.intro rfl (rfl))
theorem oX0_run_223 : OKI 5 223 (.iconst 4, 224, [], 4, 0, []) := And.intro dX0_run_223 (And.intro rfl (by decide +kernel))
theorem oX0_run_224 : OKI 5 224 (.iconst 0, 225, [], 0, 0, []) := And.intro dX0_run_224 (And.intro rfl (by decide +kernel))
theorem oX0_run_225 : OKI 5 225 (.iload_n 2, 226, [2], 0, 0, []) := And.intro dX0_run_225 (And.intro rfl (rfl))
theorem oX0_run_226 : OKI 5 226 (.iconst 3, 227, [], 3, 0, []) := And.intro dX0_run_226 (And.intro rfl (by decide +kernel))
theorem oX0_run_227 : OKI 5 227 (.iadd, 228, [], 0, 0, []) := And.intro dX0_run_227 rfl
theorem oX0_run_228 : OKI 5 228 (.iload 4, 230, [4], 0, 0, []) := And.intro dX0_run_228 (And.intro rfl (rfl))
theorem oX0_run_230 : OKI 5 230 (.invokevirtual 53, 233, [3, 5, 2, 0, 0, 1], 0, 0, []) := And.intro dX0_run_230 (And.intro rfl (And.intro (by decide) (And.intro (by decide) (And.intro mo_X0_above (And.intro (tm_5 _ (List.mem_of_getElem? (i := 139) rfl) rfl) (And.intro (tm_5 _ (List.mem_of_getElem? (i := 141) rfl) rfl) (And.intro (pm_3 _ (List.mem_of_getElem? (i := 7) rfl)) (Or.inl ⟨(RX0, TX0, 5), rfl, rfl⟩))))))))
theorem oX0_run_233 : OKI 5 233 (.ireturn, 234, [0], 0, 0, []) := And.intro dX0_run_233 (Or.inl (And.intro rfl rfl))
theorem oX0_run_234 : OKI 5 234 (.aload_n 0, 235, [0], 0, 0, []) := And.intro dX0_run_234 (And.intro rfl (rfl))
theorem oX0_run_235 : OKI 5 235 (.iconst 4, 236, [], 4, 0, []) := And.intro dX0_run_235 (And.intro rfl (by decide +kernel))
theorem oX0_run_236 : OKI 5 236 (.iconst 2, 237, [], 2, 0, []) := And.intro dX0_run_236 (And.intro rfl (by decide +kernel))
theorem oX0_run_237 : OKI 5 237 (.iload_n 2, 238, [2], 0, 0, []) := And.intro dX0_run_237 (And.intro rfl (rfl))
theorem oX0_run_238 : OKI 5 238 (.iload 4, 240, [4], 0, 0, []) := And.intro dX0_run_238 (And.intro rfl (rfl))
theorem oX0_run_240 : OKI 5 240 (.invokevirtual 53, 243, [3, 5, 2, 0, 0, 1], 0, 0, []) := And.intro dX0_run_240 (And.intro rfl (And.intro (by decide) (And.intro (by decide) (And.intro mo_X0_above (And.intro (tm_5 _ (List.mem_of_getElem? (i := 139) rfl) rfl) (And.intro (tm_5 _ (List.mem_of_getElem? (i := 141) rfl) rfl) (And.intro (pm_3 _ (List.mem_of_getElem? (i := 7) rfl)) (Or.inl ⟨(RX0, TX0, 5), rfl, rfl⟩))))))))
theorem oX0_run_243 : OKI 5 243 (.iconst 5, 244, [], 5, 0, []) := And.intro dX0_run_243 (And.intro rfl (by decide +kernel))
theorem oX0_run_244 : OKI 5 244 (.iadd, 245, [], 0, 0, []) := And.intro dX0_run_244 rfl
theorem oX0_run_245 : OKI 5 245 (.ireturn, 246, [0], 0, 0, []) := And.intro dX0_run_245 (Or.inl (And.intro rfl rfl))
theorem oX0_run_246 : OKI 5 246 (.aload_n 0, 247, [0], 0, 0, []) := And.intro dX0_run_246 (And.intro rfl (rfl))
theorem oX0_run_247 : OKI 5 247 (.iconst 5, 248, [], 5, 0, []) := And.intro dX0_run_247 (And.intro rfl (by decide +kernel))
theorem oX0_run_248 : OKI 5 248 (.iconst 1, 249, [], 1, 0, []) := And.intro dX0_run_248 (And.intro rfl (by decide +kernel))
theorem oX0_run_249 : OKI 5 249 (.iload_n 2, 250, [2], 0, 0, []) := And.intro dX0_run_249 (And.intro rfl (rfl))
theorem oX0_run_250 : OKI 5 250 (.iload 4, 252, [4], 0, 0, []) := And.intro dX0_run_250 (And.intro rfl (rfl))
theorem oX0_run_252 : OKI 5 252 (.invokevirtual 53, 255, [3, 5, 2, 0, 0, 1], 0, 0, []) := And.intro dX0_run_252 (And.intro rfl (And.intro (by decide) (And.intro (by decide) (And.intro mo_X0_above (And.intro (tm_5 _ (List.mem_of_getElem? (i := 139) rfl) rfl) (And.intro (tm_5 _ (List.mem_of_getElem? (i := 141) rfl) rfl) (And.intro (pm_3 _ (List.mem_of_getElem? (i := 7) rfl)) (Or.inl ⟨(RX0, TX0, 5), rfl, rfl⟩))))))))
theorem oX0_run_255 : OKI 5 255 (.iload_n 2, 256, [2], 0, 0, []) := And.intro dX0_run_255 (And.intro rfl (rfl))
theorem oX0_run_256 : OKI 5 256 (.ixor, 257, [], 0, 0, []) := And.intro dX0_run_256 rfl
theorem oX0_run_257 : OKI 5 257 (.ireturn, 258, [0], 0, 0, []) := And.intro dX0_run_257 (Or.inl (And.intro rfl rfl))
theorem oX0_run_258 : OKI 5 258 (.aload_n 0, 259, [0], 0, 0, []) := And.intro dX0_run_258 (And.intro rfl (rfl))
theorem oX0_run_259 : OKI 5 259 (.bipush 6, 261, [], 6, 0, []) := And.intro dX0_run_259 (And.intro rfl (by decide +kernel))
theorem oX0_run_261 : OKI 5 261 (.iconst 0, 262, [], 0, 0, []) := And.intro dX0_run_261 (And.intro rfl (by decide +kernel))
theorem oX0_run_262 : OKI 5 262 (.iload_n 2, 263, [2], 0, 0, []) := And.intro dX0_run_262 (And.intro rfl (rfl))
theorem oX0_run_263 : OKI 5 263 (.iload 4, 265, [4], 0, 0, []) := And.intro dX0_run_263 (And.intro rfl (rfl))
theorem oX0_run_265 : OKI 5 265 (.invokevirtual 53, 268, [3, 5, 2, 0, 0, 1], 0, 0, []) := And.intro dX0_run_265 (And.intro rfl (And.intro (by decide) (And.intro (by decide) (And.intro mo_X0_above (And.intro (tm_5 _ (List.mem_of_getElem? (i := 139) rfl) rfl) (And.intro (tm_5 _ (List.mem_of_getElem? (i := 141) rfl) rfl) (And.intro (pm_3 _ (List.mem_of_getElem? (i := 7) rfl)) (Or.inl ⟨(RX0, TX0, 5), rfl, rfl⟩))))))))
theorem oX0_run_268 : OKI 5 268 (.iconst 3, 269, [], 3, 0, []) := And.intro dX0_run_268 (And.intro rfl (by decide +kernel))
theorem oX0_run_269 : OKI 5 269 (.imul, 270, [], 0, 0, []) := And.intro dX0_run_269 rfl
theorem oX0_run_270 : OKI 5 270 (.ireturn, 271, [0], 0, 0, []) := And.intro dX0_run_270 (Or.inl (And.intro rfl rfl))
theorem oX0_run_271 : OKI 5 271 (.aload_n 0, 272, [0], 0, 0, []) := And.intro dX0_run_271 (And.intro rfl (rfl))
theorem oX0_run_272 : OKI 5 272 (.iconst 0, 273, [], 0, 0, []) := And.intro dX0_run_272 (And.intro rfl (by decide +kernel))
theorem oX0_run_273 : OKI 5 273 (.iload_n 2, 274, [2], 0, 0, []) := And.intro dX0_run_273 (And.intro rfl (rfl))
theorem oX0_run_274 : OKI 5 274 (.iload 4, 276, [4], 0, 0, []) := And.intro dX0_run_274 (And.intro rfl (rfl))
theorem oX0_run_276 : OKI 5 276 (.invokevirtual 36, 279, [2, 4, 2, 0, 0, 1], 0, 0, []) := And.intro dX0_run_276 (And.intro rfl (And.intro (by decide) (And.intro (by decide) (And.intro mo_X0_own (And.intro (tm_5 _ (List.mem_of_getElem? (i := 125) rfl) rfl) (And.intro (tm_5 _ (List.mem_of_getElem? (i := 127) rfl) rfl) (And.intro (pm_3 _ (List.mem_of_getElem? (i := 5) rfl)) (Or.inl ⟨(RX0, TX0, 5), rfl, rfl⟩))))))))
theorem oX0_run_279 : OKI 5 279 (.aload_n 0, 280, [0], 0, 0, []) := And.intro dX0_run_279 (And.intro rfl (rfl))
theorem oX0_run_280 : OKI 5 280 (.bipush 7, 282, [], 7, 0, []) := And.intro dX0_run_280 (And.intro rfl (by decide +kernel))
theorem oX0_run_282 : OKI 5 282 (.iconst 2, 283, [], 2, 0, []) := And.intro dX0_run_282 (And.intro rfl (by decide +kernel))
theorem oX0_run_283 : OKI 5 283 (.iload_n 2, 284, [2], 0, 0, []) := And.intro dX0_run_283 (And.intro rfl (rfl))
theorem oX0_run_284 : OKI 5 284 (.iload 4, 286, [4], 0, 0, []) := And.intro dX0_run_284 (And.intro rfl (rfl))
theorem oX0_run_286 : OKI 5 286 (.invokevirtual 53, 289, [3, 5, 2, 0, 0, 1], 0, 0, []) := And.intro dX0_run_286 (And.intro rfl (And.intro (by decide) (And.intro (by decide) (And.intro mo_X0_above (And.intro (tm_5 _ (List.mem_of_getElem? (i := 139) rfl) rfl) (And.intro (tm_5 _ (List.mem_of_getElem? (i := 141) rfl) rfl) (And.intro (pm_3 _ (List.mem_of_getElem? (i := 7) rfl)) (Or.inl ⟨(RX0, TX0, 5), rfl, rfl⟩))))))))
theorem oX0_run_289 : OKI 5 289 (.isub, 290, [], 0, 0, []) := And.intro dX0_run_289 rfl
theorem oX0_run_290 : OKI 5 290 (.ireturn, 291, [0], 0, 0, []) := And.intro dX0_run_290 (Or.inl (And.intro rfl rfl))
theorem oX0_run_291 : OKI 5 291 (.iconst 0, 292, [], 0, 0, []) := And.intro dX0_run_291 (And.intro rfl (by decide +kernel))
theorem oX0_run_292 : OKI 5 292 (.ireturn, 293, [0], 0, 0, []) := And.intro dX0_run_292 (Or.inl (And.intro rfl rfl))
def pfX0_run (pc : Nat) : Option XE := (bif Nat.blt pc 198 then (bif Nat.blt pc 150 then (bif Nat.blt pc 29 then (bif Nat.blt pc 13 then (bif Nat.blt pc 7 then (bif Nat.blt pc 4 then (bif Nat.blt pc 1 then (bif Nat.beq pc 0 then some (.iload_n 1, 1, [1], 0, 0, []) else none) else (bif Nat.beq pc 1 then some (.ifCond .eq 9, 4, [10], 0, 0, []) else none)) else (bif Nat.blt pc 5 then (bif Nat.beq pc 4 then some (.iload_n 3, 5, [3], 0, 0, []) else none) else (bif Nat.beq pc 5 then some (.bipush 40, 7, [], 40, 0, []) else none))) else (bif Nat.blt pc 11 then (bif Nat.blt pc 10 then (bif Nat.beq pc 7 then some (.if_icmp .le 5, 10, [12], 0, 0, []) else none) else (bif Nat.beq pc 10 then some (.iconst 0, 11, [], 0, 0, []) else none)) else (bif Nat.blt pc 12 then (bif Nat.beq pc 11 then some (.ireturn, 12, [0], 0, 0, []) else none) else (bif Nat.beq pc 12 then some (.aload_n 0, 13, [0], 0, 0, []) else none)))) else (bif Nat.blt pc 21 then (bif Nat.blt pc 17 then (bif Nat.blt pc 16 then (bif Nat.beq pc 13 then some (.getfield 15, 16, [1, 1, 0], 0, 0, []) else none) else (bif Nat.beq pc 16 then some (.aload_n 0, 17, [0], 0, 0, []) else none)) else (bif Nat.blt pc 20 then (bif Nat.beq pc 17 then some (.getfield 9, 20, [1, 0, 2, 100, 0], 0, 0, []) else none) else (bif Nat.beq pc 20 then some (.arraylength, 21, [], 0, 0, []) else none))) else (bif Nat.blt pc 25 then (bif Nat.blt pc 24 then (bif Nat.beq pc 21 then some (.if_icmp .ge 13, 24, [34], 0, 0, []) else none) else (bif Nat.beq pc 24 then some (.aload_n 0, 25, [0], 0, 0, []) else none)) else (bif Nat.blt pc 28 then (bif Nat.beq pc 25 then some (.getfield 9, 28, [1, 0, 2, 100, 0], 0, 0, []) else none) else (bif Nat.beq pc 28 then some (.aload_n 0, 29, [0], 0, 0, []) else none))))) else (bif Nat.blt pc 41 then (bif Nat.blt pc 35 then (bif Nat.blt pc 33 then (bif Nat.blt pc 32 then (bif Nat.beq pc 29 then some (.getfield 15, 32, [1, 1, 0], 0, 0, []) else none) else (bif Nat.beq pc 32 then some (.iload_n 1, 33, [1], 0, 0, []) else none)) else (bif Nat.blt pc 34 then (bif Nat.beq pc 33 then some (.iastore, 34, [], 0, 0, []) else none) else (bif Nat.beq pc 34 then some (.aload_n 0, 35, [0], 0, 0, []) else none))) else (bif Nat.blt pc 39 then (bif Nat.blt pc 36 then (bif Nat.beq pc 35 then some (.dup, 36, [], 0, 0, []) else none) else (bif Nat.beq pc 36 then some (.getfield 15, 39, [1, 1, 0], 0, 0, []) else none)) else (bif Nat.blt pc 40 then (bif Nat.beq pc 39 then some (.iconst 1, 40, [], 1, 0, []) else none) else (bif Nat.beq pc 40 then some (.iadd, 41, [], 0, 0, []) else none)))) else (bif Nat.blt pc 47 then (bif Nat.blt pc 45 then (bif Nat.blt pc 44 then (bif Nat.beq pc 41 then some (.putfield 15, 44, [1, 1, 0], 0, 0, []) else none) else (bif Nat.beq pc 44 then some (.iload_n 3, 45, [3], 0, 0, []) else none)) else (bif Nat.blt pc 46 then (bif Nat.beq pc 45 then some (.iconst 1, 46, [], 1, 0, []) else none) else (bif Nat.beq pc 46 then some (.iadd, 47, [], 0, 0, []) else none))) else (bif Nat.blt pc 50 then (bif Nat.blt pc 49 then (bif Nat.beq pc 47 then some (.istore 4, 49, [4], 0, 0, []) else none) else (bif Nat.beq pc 49 then some (.iload_n 1, 50, [1], 0, 0, []) else none)) else (bif Nat.blt pc 148 then (bif Nat.beq pc 50 then some (.lookupswitch 241 #[(10, 98), (11, 105), (12, 116), (20, 130), (30, 142), (40, 161), (50, 172), (51, 184), (60, 196), (70, 208), (80, 221)], 148, [291], 0, 0, [(10, 148), (11, 155), (12, 166), (20, 180), (30, 192), (40, 211), (50, 222), (51, 234), (60, 246), (70, 258), (80, 271)]) else none) else (bif Nat.blt pc 149 then (bif Nat.beq pc 148 then some (.iload_n 2, 149, [2], 0, 0, []) else none) else (bif Nat.beq pc 149 then some (.aload_n 0, 150, [0], 0, 0, []) else none))))))) else (bif Nat.blt pc 175 then (bif Nat.blt pc 163 then (bif Nat.blt pc 156 then (bif Nat.blt pc 154 then (bif Nat.blt pc 153 then (bif Nat.beq pc 150 then some (.getfield 22, 153, [1, 3, 0], 0, 0, []) else none) else (bif Nat.beq pc 153 then some (.iadd, 154, [], 0, 0, []) else none)) else (bif Nat.blt pc 155 then (bif Nat.beq pc 154 then some (.ireturn, 155, [0], 0, 0, []) else none) else (bif Nat.beq pc 155 then some (.aload_n 0, 156, [0], 0, 0, []) else none))) else (bif Nat.blt pc 158 then (bif Nat.blt pc 157 then (bif Nat.beq pc 156 then some (.iconst 0, 157, [], 0, 0, []) else none) else (bif Nat.beq pc 157 then some (.iload_n 2, 158, [2], 0, 0, []) else none)) else (bif Nat.blt pc 160 then (bif Nat.beq pc 158 then some (.iload 4, 160, [4], 0, 0, []) else none) else (bif Nat.beq pc 160 then some (.invokevirtual 36, 163, [2, 4, 2, 0, 0, 1], 0, 0, []) else none)))) else (bif Nat.blt pc 167 then (bif Nat.blt pc 165 then (bif Nat.blt pc 164 then (bif Nat.beq pc 163 then some (.iconst 2, 164, [], 2, 0, []) else none) else (bif Nat.beq pc 164 then some (.imul, 165, [], 0, 0, []) else none)) else (bif Nat.blt pc 166 then (bif Nat.beq pc 165 then some (.ireturn, 166, [0], 0, 0, []) else none) else (bif Nat.beq pc 166 then some (.aload_n 0, 167, [0], 0, 0, []) else none))) else (bif Nat.blt pc 169 then (bif Nat.blt pc 168 then (bif Nat.beq pc 167 then some (.iconst 1, 168, [], 1, 0, []) else none) else (bif Nat.beq pc 168 then some (.iload_n 2, 169, [2], 0, 0, []) else none)) else (bif Nat.blt pc 171 then (bif Nat.beq pc 169 then some (.iload 4, 171, [4], 0, 0, []) else none) else (bif Nat.blt pc 174 then (bif Nat.beq pc 171 then some (.invokevirtual 36, 174, [2, 4, 2, 0, 0, 1], 0, 0, []) else none) else (bif Nat.beq pc 174 then some (.aload_n 0, 175, [0], 0, 0, []) else none)))))) else (bif Nat.blt pc 186 then (bif Nat.blt pc 181 then (bif Nat.blt pc 179 then (bif Nat.blt pc 178 then (bif Nat.beq pc 175 then some (.getfield 25, 178, [1, 4, 0], 0, 0, []) else none) else (bif Nat.beq pc 178 then some (.isub, 179, [], 0, 0, []) else none)) else (bif Nat.blt pc 180 then (bif Nat.beq pc 179 then some (.ireturn, 180, [0], 0, 0, []) else none) else (bif Nat.beq pc 180 then some (.aload_n 0, 181, [0], 0, 0, []) else none))) else (bif Nat.blt pc 183 then (bif Nat.blt pc 182 then (bif Nat.beq pc 181 then some (.iconst 1, 182, [], 1, 0, []) else none) else (bif Nat.beq pc 182 then some (.iconst 0, 183, [], 0, 0, []) else none)) else (bif Nat.blt pc 184 then (bif Nat.beq pc 183 then some (.iload_n 2, 184, [2], 0, 0, []) else none) else (bif Nat.beq pc 184 then some (.iload 4, 186, [4], 0, 0, []) else none)))) else (bif Nat.blt pc 192 then (bif Nat.blt pc 190 then (bif Nat.blt pc 189 then (bif Nat.beq pc 186 then some (.invokevirtual 53, 189, [3, 5, 2, 0, 0, 1], 0, 0, []) else none) else (bif Nat.beq pc 189 then some (.iconst 1, 190, [], 1, 0, []) else none)) else (bif Nat.blt pc 191 then (bif Nat.beq pc 190 then some (.ixor, 191, [], 0, 0, []) else none) else (bif Nat.beq pc 191 then some (.ireturn, 192, [0], 0, 0, []) else none))) else (bif Nat.blt pc 194 then (bif Nat.blt pc 193 then (bif Nat.beq pc 192 then some (.aload_n 0, 193, [0], 0, 0, []) else none) else (bif Nat.beq pc 193 then some (.iconst 2, 194, [], 2, 0, []) else none)) else (bif Nat.blt pc 195 then (bif Nat.beq pc 194 then some (.iconst 1, 195, [], 1, 0, []) else none) else (bif Nat.blt pc 196 then (bif Nat.beq pc 195 then some (.iload_n 2, 196, [2], 0, 0, []) else none) else (bif Nat.beq pc 196 then some (.iload 4, 198, [4], 0, 0, []) else none)))))))) else (bif Nat.blt pc 245 then (bif Nat.blt pc 222 then (bif Nat.blt pc 211 then (bif Nat.blt pc 204 then (bif Nat.blt pc 202 then (bif Nat.blt pc 201 then (bif Nat.beq pc 198 then some (.invokevirtual 53, 201, [3, 5, 2, 0, 0, 1], 0, 0, []) else none) else (bif Nat.beq pc 201 then some (.aload_n 0, 202, [0], 0, 0, []) else none)) else (bif Nat.blt pc 203 then (bif Nat.beq pc 202 then some (.iconst 0, 203, [], 0, 0, []) else none) else (bif Nat.beq pc 203 then some (.iconst 2, 204, [], 2, 0, []) else none))) else (bif Nat.blt pc 209 then (bif Nat.blt pc 206 then (bif Nat.beq pc 204 then some (.iload 4, 206, [4], 0, 0, []) else none) else (bif Nat.beq pc 206 then some (.invokevirtual 36, 209, [2, 4, 2, 0, 0, 1], 0, 0, []) else none)) else (bif Nat.blt pc 210 then (bif Nat.beq pc 209 then some (.iadd, 210, [], 0, 0, []) else none) else (bif Nat.beq pc 210 then some (.ireturn, 211, [0], 0, 0, []) else none)))) else (bif Nat.blt pc 215 then (bif Nat.blt pc 213 then (bif Nat.blt pc 212 then (bif Nat.beq pc 211 then some (.aload_n 0, 212, [0], 0, 0, []) else none) else (bif Nat.beq pc 212 then some (.iconst 3, 213, [], 3, 0, []) else none)) else (bif Nat.blt pc 214 then (bif Nat.beq pc 213 then some (.iconst 2, 214, [], 2, 0, []) else none) else (bif Nat.beq pc 214 then some (.iload_n 2, 215, [2], 0, 0, []) else none))) else (bif Nat.blt pc 220 then (bif Nat.blt pc 217 then (bif Nat.beq pc 215 then some (.iload 4, 217, [4], 0, 0, []) else none) else (bif Nat.beq pc 217 then some (.invokevirtual 53, 220, [3, 5, 2, 0, 0, 1], 0, 0, []) else none)) else (bif Nat.blt pc 221 then (bif Nat.beq pc 220 then some (.ineg, 221, [], 0, 0, []) else none) else (bif Nat.beq pc 221 then some (.ireturn, 222, [0], 0, 0, []) else none))))) else (bif Nat.blt pc 233 then (bif Nat.blt pc 226 then (bif Nat.blt pc 224 then (bif Nat.blt pc 223 then (bif Nat.beq pc 222 then some (.aload_n 0, 223, [0], 0, 0, []) else none) else (bif Nat.beq pc 223 then some (.iconst 4, 224, [], 4, 0, []) else none)) else (bif Nat.blt pc 225 then (bif Nat.beq pc 224 then some (.iconst 0, 225, [], 0, 0, []) else none) else (bif Nat.beq pc 225 then some (.iload_n 2, 226, [2], 0, 0, []) else none))) else (bif Nat.blt pc 228 then (bif Nat.blt pc 227 then (bif Nat.beq pc 226 then some (.iconst 3, 227, [], 3, 0, []) else none) else (bif Nat.beq pc 227 then some (.iadd, 228, [], 0, 0, []) else none)) else (bif Nat.blt pc 230 then (bif Nat.beq pc 228 then some (.iload 4, 230, [4], 0, 0, []) else none) else (bif Nat.beq pc 230 then some (.invokevirtual 53, 233, [3, 5, 2, 0, 0, 1], 0, 0, []) else none)))) else (bif Nat.blt pc 237 then (bif Nat.blt pc 235 then (bif Nat.blt pc 234 then (bif Nat.beq pc 233 then some (.ireturn, 234, [0], 0, 0, []) else none) else (bif Nat.beq pc 234 then some (.aload_n 0, 235, [0], 0, 0, []) else none)) else (bif Nat.blt pc 236 then (bif Nat.beq pc 235 then some (.iconst 4, 236, [], 4, 0, []) else none) else (bif Nat.beq pc 236 then some (.iconst 2, 237, [], 2, 0, []) else none))) else (bif Nat.blt pc 240 then (bif Nat.blt pc 238 then (bif Nat.beq pc 237 then some (.iload_n 2, 238, [2], 0, 0, []) else none) else (bif Nat.beq pc 238 then some (.iload 4, 240, [4], 0, 0, []) else none)) else (bif Nat.blt pc 243 then (bif Nat.beq pc 240 then some (.invokevirtual 53, 243, [3, 5, 2, 0, 0, 1], 0, 0, []) else none) else (bif Nat.blt pc 244 then (bif Nat.beq pc 243 then some (.iconst 5, 244, [], 5, 0, []) else none) else (bif Nat.beq pc 244 then some (.iadd, 245, [], 0, 0, []) else none))))))) else (bif Nat.blt pc 269 then (bif Nat.blt pc 256 then (bif Nat.blt pc 249 then (bif Nat.blt pc 247 then (bif Nat.blt pc 246 then (bif Nat.beq pc 245 then some (.ireturn, 246, [0], 0, 0, []) else none) else (bif Nat.beq pc 246 then some (.aload_n 0, 247, [0], 0, 0, []) else none)) else (bif Nat.blt pc 248 then (bif Nat.beq pc 247 then some (.iconst 5, 248, [], 5, 0, []) else none) else (bif Nat.beq pc 248 then some (.iconst 1, 249, [], 1, 0, []) else none))) else (bif Nat.blt pc 252 then (bif Nat.blt pc 250 then (bif Nat.beq pc 249 then some (.iload_n 2, 250, [2], 0, 0, []) else none) else (bif Nat.beq pc 250 then some (.iload 4, 252, [4], 0, 0, []) else none)) else (bif Nat.blt pc 255 then (bif Nat.beq pc 252 then some (.invokevirtual 53, 255, [3, 5, 2, 0, 0, 1], 0, 0, []) else none) else (bif Nat.beq pc 255 then some (.iload_n 2, 256, [2], 0, 0, []) else none)))) else (bif Nat.blt pc 261 then (bif Nat.blt pc 258 then (bif Nat.blt pc 257 then (bif Nat.beq pc 256 then some (.ixor, 257, [], 0, 0, []) else none) else (bif Nat.beq pc 257 then some (.ireturn, 258, [0], 0, 0, []) else none)) else (bif Nat.blt pc 259 then (bif Nat.beq pc 258 then some (.aload_n 0, 259, [0], 0, 0, []) else none) else (bif Nat.beq pc 259 then some (.bipush 6, 261, [], 6, 0, []) else none))) else (bif Nat.blt pc 263 then (bif Nat.blt pc 262 then (bif Nat.beq pc 261 then some (.iconst 0, 262, [], 0, 0, []) else none) else (bif Nat.beq pc 262 then some (.iload_n 2, 263, [2], 0, 0, []) else none)) else (bif Nat.blt pc 265 then (bif Nat.beq pc 263 then some (.iload 4, 265, [4], 0, 0, []) else none) else (bif Nat.blt pc 268 then (bif Nat.beq pc 265 then some (.invokevirtual 53, 268, [3, 5, 2, 0, 0, 1], 0, 0, []) else none) else (bif Nat.beq pc 268 then some (.iconst 3, 269, [], 3, 0, []) else none)))))) else (bif Nat.blt pc 280 then (bif Nat.blt pc 273 then (bif Nat.blt pc 271 then (bif Nat.blt pc 270 then (bif Nat.beq pc 269 then some (.imul, 270, [], 0, 0, []) else none) else (bif Nat.beq pc 270 then some (.ireturn, 271, [0], 0, 0, []) else none)) else (bif Nat.blt pc 272 then (bif Nat.beq pc 271 then some (.aload_n 0, 272, [0], 0, 0, []) else none) else (bif Nat.beq pc 272 then some (.iconst 0, 273, [], 0, 0, []) else none))) else (bif Nat.blt pc 276 then (bif Nat.blt pc 274 then (bif Nat.beq pc 273 then some (.iload_n 2, 274, [2], 0, 0, []) else none) else (bif Nat.beq pc 274 then some (.iload 4, 276, [4], 0, 0, []) else none)) else (bif Nat.blt pc 279 then (bif Nat.beq pc 276 then some (.invokevirtual 36, 279, [2, 4, 2, 0, 0, 1], 0, 0, []) else none) else (bif Nat.beq pc 279 then some (.aload_n 0, 280, [0], 0, 0, []) else none)))) else (bif Nat.blt pc 286 then (bif Nat.blt pc 283 then (bif Nat.blt pc 282 then (bif Nat.beq pc 280 then some (.bipush 7, 282, [], 7, 0, []) else none) else (bif Nat.beq pc 282 then some (.iconst 2, 283, [], 2, 0, []) else none)) else (bif Nat.blt pc 284 then (bif Nat.beq pc 283 then some (.iload_n 2, 284, [2], 0, 0, []) else none) else (bif Nat.beq pc 284 then some (.iload 4, 286, [4], 0, 0, []) else none))) else (bif Nat.blt pc 290 then (bif Nat.blt pc 289 then (bif Nat.beq pc 286 then some (.invokevirtual 53, 289, [3, 5, 2, 0, 0, 1], 0, 0, []) else none) else (bif Nat.beq pc 289 then some (.isub, 290, [], 0, 0, []) else none)) else (bif Nat.blt pc 291 then (bif Nat.beq pc 290 then some (.ireturn, 291, [0], 0, 0, []) else none) else (bif Nat.blt pc 292 then (bif Nat.beq pc 291 then some (.iconst 0, 292, [], 0, 0, []) else none) else (bif Nat.beq pc 292 then some (.ireturn, 293, [0], 0, 0, []) else none)))))))))
theorem okX0_run : ∀ pc Y, pfX0_run pc = some Y → OKI m_X0_run pc Y := fun pc Y => ((bt_node (bt_node (bt_node (bt_node (bt_node (bt_node (bt_node (bt_leaf (P := OKI m_X0_run) oX0_run_0) (bt_leaf (P := OKI m_X0_run) oX0_run_1)) (bt_node (bt_leaf (P := OKI m_X0_run) oX0_run_4) (bt_leaf (P := OKI m_X0_run) oX0_run_5))) (bt_node (bt_node (bt_leaf (P := OKI m_X0_run) oX0_run_7) (bt_leaf (P := OKI m_X0_run) oX0_run_10)) (bt_node (bt_leaf (P := OKI m_X0_run) oX0_run_11) (bt_leaf (P := OKI m_X0_run) oX0_run_12)))) (bt_node (bt_node (bt_node (bt_leaf (P := OKI m_X0_run) oX0_run_13) (bt_leaf (P := OKI m_X0_run) oX0_run_16)) (bt_node (bt_leaf (P := OKI m_X0_run) oX0_run_17) (bt_leaf (P := OKI m_X0_run) oX0_run_20))) (bt_node (bt_node (bt_leaf (P := OKI m_X0_run) oX0_run_21) (bt_leaf (P := OKI m_X0_run) oX0_run_24)) (bt_node (bt_leaf (P := OKI m_X0_run) oX0_run_25) (bt_leaf (P := OKI m_X0_run) oX0_run_28))))) (bt_node (bt_node (bt_node (bt_node (bt_leaf (P := OKI m_X0_run) oX0_run_29) (bt_leaf (P := OKI m_X0_run) oX0_run_32)) (bt_node (bt_leaf (P := OKI m_X0_run) oX0_run_33) (bt_leaf (P := OKI m_X0_run) oX0_run_34))) (bt_node (bt_node (bt_leaf (P := OKI m_X0_run) oX0_run_35) (bt_leaf (P := OKI m_X0_run) oX0_run_36)) (bt_node (bt_leaf (P := OKI m_X0_run) oX0_run_39) (bt_leaf (P := OKI m_X0_run) oX0_run_40)))) (bt_node (bt_node (bt_node (bt_leaf (P := OKI m_X0_run) oX0_run_41) (bt_leaf (P := OKI m_X0_run) oX0_run_44)) (bt_node (bt_leaf (P := OKI m_X0_run) oX0_run_45) (bt_leaf (P := OKI m_X0_run) oX0_run_46))) (bt_node (bt_node (bt_leaf (P := OKI m_X0_run) oX0_run_47) (bt_leaf (P := OKI m_X0_run) oX0_run_49)) (bt_node (bt_leaf (P := OKI m_X0_run) oX0_run_50) (bt_node (bt_leaf (P := OKI m_X0_run) oX0_run_148) (bt_leaf (P := OKI m_X0_run) oX0_run_149))))))) (bt_node (bt_node (bt_node (bt_node (bt_node (bt_leaf (P := OKI m_X0_run) oX0_run_150) (bt_leaf (P := OKI m_X0_run) oX0_run_153)) (bt_node (bt_leaf (P := OKI m_X0_run) oX0_run_154) (bt_leaf (P := OKI m_X0_run) oX0_run_155))) (bt_node (bt_node (bt_leaf (P := OKI m_X0_run) oX0_run_156) (bt_leaf (P := OKI m_X0_run) oX0_run_157)) (bt_node (bt_leaf (P := OKI m_X0_run) oX0_run_158) (bt_leaf (P := OKI m_X0_run) oX0_run_160)))) (bt_node (bt_node (bt_node (bt_leaf (P := OKI m_X0_run) oX0_run_163) (bt_leaf (P := OKI m_X0_run) oX0_run_164)) (bt_node (bt_leaf (P := OKI m_X0_run) oX0_run_165) (bt_leaf (P := OKI m_X0_run) oX0_run_166))) (bt_node (bt_node (bt_leaf (P := OKI m_X0_run) oX0_run_167) (bt_leaf (P := OKI m_X0_run) oX0_run_168)) (bt_node (bt_leaf (P := OKI m_X0_run) oX0_run_169) (bt_node (bt_leaf (P := OKI m_X0_run) oX0_run_171) (bt_leaf (P := OKI m_X0_run) oX0_run_174)))))) (bt_node (bt_node (bt_node (bt_node (bt_leaf (P := OKI m_X0_run) oX0_run_175) (bt_leaf (P := OKI m_X0_run) oX0_run_178)) (bt_node (bt_leaf (P := OKI m_X0_run) oX0_run_179) (bt_leaf (P := OKI m_X0_run) oX0_run_180))) (bt_node (bt_node (bt_leaf (P := OKI m_X0_run) oX0_run_181) (bt_leaf (P := OKI m_X0_run) oX0_run_182)) (bt_node (bt_leaf (P := OKI m_X0_run) oX0_run_183) (bt_leaf (P := OKI m_X0_run) oX0_run_184)))) (bt_node (bt_node (bt_node (bt_leaf (P := OKI m_X0_run) oX0_run_186) (bt_leaf (P := OKI m_X0_run) oX0_run_189)) (bt_node (bt_leaf (P := OKI m_X0_run) oX0_run_190) (bt_leaf (P := OKI m_X0_run) oX0_run_191))) (bt_node (bt_node (bt_leaf (P := OKI m_X0_run) oX0_run_192) (bt_leaf (P := OKI m_X0_run) oX0_run_193)) (bt_node (bt_leaf (P := OKI m_X0_run) oX0_run_194) (bt_node (bt_leaf (P := OKI m_X0_run) oX0_run_195) (bt_leaf (P := OKI m_X0_run) oX0_run_196)))))))) (bt_node (bt_node (bt_node (bt_node (bt_node (bt_node (bt_leaf (P := OKI m_X0_run) oX0_run_198) (bt_leaf (P := OKI m_X0_run) oX0_run_201)) (bt_node (bt_leaf (P := OKI m_X0_run) oX0_run_202) (bt_leaf (P := OKI m_X0_run) oX0_run_203))) (bt_node (bt_node (bt_leaf (P := OKI m_X0_run) oX0_run_204) (bt_leaf (P := OKI m_X0_run) oX0_run_206)) (bt_node (bt_leaf (P := OKI m_X0_run) oX0_run_209) (bt_leaf (P := OKI m_X0_run) oX0_run_210)))) (bt_node (bt_node (bt_node (bt_leaf (P := OKI m_X0_run) oX0_run_211) (bt_leaf (P := OKI m_X0_run) oX0_run_212)) (bt_node (bt_leaf (P := OKI m_X0_run) oX0_run_213) (bt_leaf (P := OKI m_X0_run) oX0_run_214))) (bt_node (bt_node (bt_leaf (P := OKI m_X0_run) oX0_run_215) (bt_leaf (P := OKI m_X0_run) oX0_run_217)) (bt_node (bt_leaf (P := OKI m_X0_run) oX0_run_220) (bt_leaf (P := OKI m_X0_run) oX0_run_221))))) (bt_node (bt_node (bt_node (bt_node (bt_leaf (P := OKI m_X0_run) oX0_run_222) (bt_leaf (P := OKI m_X0_run) oX0_run_223)) (bt_node (bt_leaf (P := OKI m_X0_run) oX0_run_224) (bt_leaf (P := OKI m_X0_run) oX0_run_225))) (bt_node (bt_node (bt_leaf (P := OKI m_X0_run) oX0_run_226) (bt_leaf (P := OKI m_X0_run) oX0_run_227)) (bt_node (bt_leaf (P := OKI m_X0_run) oX0_run_228) (bt_leaf (P := OKI m_X0_run) oX0_run_230)))) (bt_node (bt_node (bt_node (bt_leaf (P := OKI m_X0_run) oX0_run_233) (bt_leaf (P := OKI m_X0_run) oX0_run_234)) (bt_node (bt_leaf (P := OKI m_X0_run) oX0_run_235) (bt_leaf (P := OKI m_X0_run) oX0_run_236))) (bt_node (bt_node (bt_leaf (P := OKI m_X0_run) oX0_run_237) (bt_leaf (P := OKI m_X0_run) oX0_run_238)) (bt_node (bt_leaf (P := OKI m_X0_run) oX0_run_240) (bt_node (bt_leaf (P := OKI m_X0_run) oX0_run_243) (bt_leaf (P := OKI m_X0_run) oX0_run_244))))))) (bt_node (bt_node (bt_node (bt_node (bt_node (bt_leaf (P := OKI m_X0_run) oX0_run_245) (bt_leaf (P := OKI m_X0_run) oX0_run_246)) (bt_node (bt_leaf (P := OKI m_X0_run) oX0_run_247) (bt_leaf (P := OKI m_X0_run) oX0_run_248))) (bt_node (bt_node (bt_leaf (P := OKI m_X0_run) oX0_run_249) (bt_leaf (P := OKI m_X0_run) oX0_run_250)) (bt_node (bt_leaf (P := OKI m_X0_run) oX0_run_252) (bt_leaf (P := OKI m_X0_run) oX0_run_255)))) (bt_node (bt_node (bt_node (bt_leaf (P := OKI m_X0_run) oX0_run_256) (bt_leaf (P := OKI m_X0_run) oX0_run_257)) (bt_node (bt_leaf (P := OKI m_X0_run) oX0_run_258) (bt_leaf (P := OKI m_X0_run) oX0_run_259))) (bt_node (bt_node (bt_leaf (P := OKI m_X0_run) oX0_run_261) (bt_leaf (P := OKI m_X0_run) oX0_run_262)) (bt_node (bt_leaf (P := OKI m_X0_run) oX0_run_263) (bt_node (bt_leaf (P := OKI m_X0_run) oX0_run_265) (bt_leaf (P := OKI m_X0_run) oX0_run_268)))))) (bt_node (bt_node (bt_node (bt_node (bt_leaf (P := OKI m_X0_run) oX0_run_269) (bt_leaf (P := OKI m_X0_run) oX0_run_270)) (bt_node (bt_leaf (P := OKI m_X0_run) oX0_run_271) (bt_leaf (P := OKI m_X0_run) oX0_run_272))) (bt_node (bt_node (bt_leaf (P := OKI m_X0_run) oX0_run_273) (bt_leaf (P := OKI m_X0_run) oX0_run_274)) (bt_node (bt_leaf (P := OKI m_X0_run) oX0_run_276) (bt_leaf (P := OKI m_X0_run) oX0_run_279)))) (bt_node (bt_node (bt_node (bt_leaf (P := OKI m_X0_run) oX0_run_280) (bt_leaf (P := OKI m_X0_run) oX0_run_282)) (bt_node (bt_leaf (P := OKI m_X0_run) oX0_run_283) (bt_leaf (P := OKI m_X0_run) oX0_run_284))) (bt_node (bt_node (bt_leaf (P := OKI m_X0_run) oX0_run_286) (bt_leaf (P := OKI m_X0_run) oX0_run_289)) (bt_node (bt_leaf (P := OKI m_X0_run) oX0_run_290) (bt_node (bt_leaf (P := OKI m_X0_run) oX0_run_291) (bt_leaf (P := OKI m_X0_run) oX0_run_292))))))))) : pfX0_run pc = some Y → OKI m_X0_run pc Y)
def stpX0_run (pc : Nat) : Option (List Bool) := (bif Nat.blt pc 211 then (bif Nat.blt pc 34 then (bif Nat.beq pc 10 then some [false, false, false, false, false] else none) else (bif Nat.beq pc 34 then some [true, true, true, true, false] else none)) else (bif Nat.blt pc 258 then (bif Nat.beq pc 211 then some [true, false, true, false, true] else none) else (bif Nat.beq pc 258 then some [true, false, true, false, true] else none)))
def bX0_run_0 (d rc rs : Nat) (t : Nat) (a1 : Int32) (a2 : Int32) (a3 : Int32) (σ : XH) (Q : XV → XH → Prop) : Prop :=
  ((a1 = 0 → Ex d rc rs m_X0_run 10 [vU, vU, vU, vU, vU] [] σ Q) ∧ (¬ a1 = 0 → ((40 < a3 → Ex d rc rs m_X0_run 10 [vU, vU, vU, vU, vU] [] σ Q) ∧ (¬ 40 < a3 → (((hr σ 1 t 0 = some (100, t) ∧ ((((hi σ 1 t 1) < (Int32.ofNat (hn σ 100 t)) → ((hr σ 1 t 0 = some (100, t) ∧ (((vp_in (hi σ 1 t 1) (hn σ 100 t) ∧ (∀ h1, h1 = wI σ 100 t (hi σ 1 t 1).toNatClampNeg a1 → Ex d rc rs m_X0_run 34 [vR (some (1, t)), vI a1, vI a2, vI a3, vU] [] h1 Q))))))) ∧ (¬ (hi σ 1 t 1) < (Int32.ofNat (hn σ 100 t)) → Ex d rc rs m_X0_run 34 [vR (some (1, t)), vI a1, vI a2, vI a3, vU] [] σ Q))))))))))
theorem sX0_run_0 {d rc rs : Nat} {t : Nat} {a1 : Int32} {a2 : Int32} {a3 : Int32} {σ : XH} {Q : XV → XH → Prop} (h : bX0_run_0 d rc rs t a1 a2 a3 σ Q) : Ex d rc rs m_X0_run 0 [vR (some (1, t)), vI a1, vI a2, vI a3, vU] [] σ Q :=
  xtree_sound (stop := stpX0_run) okX0_run 19 _ _ _ _ _ _ h
def bX0_run_10 (d rc rs : Nat)  (σ : XH) (Q : XV → XH → Prop) : Prop :=
  Q (vI 0) σ
theorem sX0_run_10 {d rc rs : Nat}  {σ : XH} {Q : XV → XH → Prop} (h : bX0_run_10 d rc rs  σ Q) : Ex d rc rs m_X0_run 10 [vU, vU, vU, vU, vU] [] σ Q :=
  xtree_sound (stop := stpX0_run) okX0_run 4 _ _ _ _ _ _ h
def bX0_run_34 (d rc rs : Nat) (t : Nat) (l1 : Int32) (l2 : Int32) (l3 : Int32) (σ : XH) (Q : XV → XH → Prop) : Prop :=
  (((∀ h1, h1 = wI σ 1 t 1 ((hi σ 1 t 1) + 1) → ((l1 = 10 → (Q (vI (l2 + (hi h1 1 t 3))) h1)) ∧ (¬ l1 = 10 → ((l1 = 11 → ((1 ≤ d ∧ Ec (d - 1) 0 0 m_X0_own [vR (some (1, t)), vI 0, vI l2, vI (l3 + 1)] h1 (kI fun x21 h20 => Q (vI (x21 * 2)) h20)))) ∧ (¬ l1 = 11 → ((l1 = 12 → ((1 ≤ d ∧ Ec (d - 1) 0 0 m_X0_own [vR (some (1, t)), vI 1, vI l2, vI (l3 + 1)] h1 (kI fun x19 h18 => (Q (vI (x19 - (hi h18 1 t 4))) h18))))) ∧ (¬ l1 = 12 → ((l1 = 20 → ((1 ≤ d ∧ Ec (d - 1) 0 0 m_X0_above [vR (some (1, t)), vI 1, vI 0, vI l2, vI (l3 + 1)] h1 (kI fun x17 h16 => Q (vI (x17 ^^^ 1)) h16)))) ∧ (¬ l1 = 20 → ((l1 = 30 → ((1 ≤ d ∧ Ec (d - 1) 0 0 m_X0_above [vR (some (1, t)), vI 2, vI 1, vI l2, vI (l3 + 1)] h1 (kI fun x13 h12 => ((1 ≤ d ∧ Ec (d - 1) 0 0 m_X0_own [vR (some (1, t)), vI 0, vI 2, vI (l3 + 1)] h12 (kI fun x15 h14 => Q (vI (x13 + x15)) h14))))))) ∧ (¬ l1 = 30 → ((l1 = 40 → Ex d rc rs m_X0_run 211 [vR (some (1, t)), vU, vI l2, vU, vI (l3 + 1)] [] h1 Q) ∧ (¬ l1 = 40 → ((l1 = 50 → ((1 ≤ d ∧ Ec (d - 1) 0 0 m_X0_above [vR (some (1, t)), vI 4, vI 0, vI (l2 + 3), vI (l3 + 1)] h1 (kI fun x11 h10 => Q (vI x11) h10)))) ∧ (¬ l1 = 50 → ((l1 = 51 → ((1 ≤ d ∧ Ec (d - 1) 0 0 m_X0_above [vR (some (1, t)), vI 4, vI 2, vI l2, vI (l3 + 1)] h1 (kI fun x9 h8 => Q (vI (x9 + 5)) h8)))) ∧ (¬ l1 = 51 → ((l1 = 60 → ((1 ≤ d ∧ Ec (d - 1) 0 0 m_X0_above [vR (some (1, t)), vI 5, vI 1, vI l2, vI (l3 + 1)] h1 (kI fun x7 h6 => Q (vI (x7 ^^^ l2)) h6)))) ∧ (¬ l1 = 60 → ((l1 = 70 → Ex d rc rs m_X0_run 258 [vR (some (1, t)), vU, vI l2, vU, vI (l3 + 1)] [] h1 Q) ∧ (¬ l1 = 70 → ((l1 = 80 → ((1 ≤ d ∧ Ec (d - 1) 0 0 m_X0_own [vR (some (1, t)), vI 0, vI l2, vI (l3 + 1)] h1 (kI fun x3 h2 => ((1 ≤ d ∧ Ec (d - 1) 0 0 m_X0_above [vR (some (1, t)), vI 7, vI 2, vI l2, vI (l3 + 1)] h2 (kI fun x5 h4 => Q (vI (x3 - x5)) h4))))))) ∧ (¬ l1 = 80 → Q (vI 0) h1)))))))))))))))))))))))))
theorem sX0_run_34 {d rc rs : Nat} {t : Nat} {l1 : Int32} {l2 : Int32} {l3 : Int32} {σ : XH} {Q : XV → XH → Prop} (h : bX0_run_34 d rc rs t l1 l2 l3 σ Q) : Ex d rc rs m_X0_run 34 [vR (some (1, t)), vI l1, vI l2, vI l3, vU] [] σ Q :=
  xtree_sound (stop := stpX0_run) okX0_run 27 _ _ _ _ _ _ h
def bX0_run_211 (d rc rs : Nat) (t : Nat) (l2 : Int32) (l4 : Int32) (σ : XH) (Q : XV → XH → Prop) : Prop :=
  ((1 ≤ d ∧ Ec (d - 1) 0 0 m_X0_above [vR (some (1, t)), vI 3, vI 2, vI l2, vI l4] σ (kI fun x2 h1 => Q (vI (-x2)) h1)))
theorem sX0_run_211 {d rc rs : Nat} {t : Nat} {l2 : Int32} {l4 : Int32} {σ : XH} {Q : XV → XH → Prop} (h : bX0_run_211 d rc rs t l2 l4 σ Q) : Ex d rc rs m_X0_run 211 [vR (some (1, t)), vU, vI l2, vU, vI l4] [] σ Q :=
  xtree_sound (stop := stpX0_run) okX0_run 10 _ _ _ _ _ _ h
def bX0_run_258 (d rc rs : Nat) (t : Nat) (l2 : Int32) (l4 : Int32) (σ : XH) (Q : XV → XH → Prop) : Prop :=
  ((1 ≤ d ∧ Ec (d - 1) 0 0 m_X0_above [vR (some (1, t)), vI 6, vI 0, vI l2, vI l4] σ (kI fun x2 h1 => Q (vI (x2 * 3)) h1)))
theorem sX0_run_258 {d rc rs : Nat} {t : Nat} {l2 : Int32} {l4 : Int32} {σ : XH} {Q : XV → XH → Prop} (h : bX0_run_258 d rc rs t l2 l4 σ Q) : Ex d rc rs m_X0_run 258 [vR (some (1, t)), vU, vI l2, vU, vI l4] [] σ Q :=
  xtree_sound (stop := stpX0_run) okX0_run 11 _ _ _ _ _ _ h
/-! SpotTimers$Clock.<init>(ILSpotTimers$Station;)V -/
theorem dX1_init_0 : decode cX1_init 0 = .ok (.aload_n 0, 1) := by decide +kernel
theorem dX1_init_1 : decode cX1_init 1 = .ok (.invokespecial 3, 3) := by decide +kernel
theorem dX1_init_4 : decode cX1_init 4 = .ok (.aload_n 0, 1) := by decide +kernel
theorem dX1_init_5 : decode cX1_init 5 = .ok (.bipush 90, 2) := by decide +kernel
theorem dX1_init_7 : decode cX1_init 7 = .ok (.newarray .int, 2) := by decide +kernel
theorem dX1_init_9 : decode cX1_init 9 = .ok (.putfield 9, 3) := by decide +kernel
theorem dX1_init_12 : decode cX1_init 12 = .ok (.aload_n 0, 1) := by decide +kernel
theorem dX1_init_13 : decode cX1_init 13 = .ok (.bipush 90, 2) := by decide +kernel
theorem dX1_init_15 : decode cX1_init 15 = .ok (.newarray .int, 2) := by decide +kernel
theorem dX1_init_17 : decode cX1_init 17 = .ok (.putfield 15, 3) := by decide +kernel
theorem dX1_init_20 : decode cX1_init 20 = .ok (.aload_n 0, 1) := by decide +kernel
theorem dX1_init_21 : decode cX1_init 21 = .ok (.iconst 0, 1) := by decide +kernel
theorem dX1_init_22 : decode cX1_init 22 = .ok (.putfield 18, 3) := by decide +kernel
theorem dX1_init_25 : decode cX1_init 25 = .ok (.aload_n 0, 1) := by decide +kernel
theorem dX1_init_26 : decode cX1_init 26 = .ok (.ldc 22, 2) := by decide +kernel
theorem dX1_init_28 : decode cX1_init 28 = .ok (.putfield 23, 3) := by decide +kernel
theorem dX1_init_31 : decode cX1_init 31 = .ok (.aload_n 0, 1) := by decide +kernel
theorem dX1_init_32 : decode cX1_init 32 = .ok (.iload_n 1, 1) := by decide +kernel
theorem dX1_init_33 : decode cX1_init 33 = .ok (.putfield 26, 3) := by decide +kernel
theorem dX1_init_36 : decode cX1_init 36 = .ok (.aload_n 0, 1) := by decide +kernel
theorem dX1_init_37 : decode cX1_init 37 = .ok (.aload_n 2, 1) := by decide +kernel
theorem dX1_init_38 : decode cX1_init 38 = .ok (.putfield 29, 3) := by decide +kernel
theorem dX1_init_41 : decode cX1_init 41 = .ok (.return_, 1) := by decide +kernel
theorem oX1_init_0 : OKI 6 0 (.aload_n 0, 1, [0], 0, 0, []) := And.intro dX1_init_0 (And.intro rfl (rfl))
theorem oX1_init_1 : OKI 6 1 (.invokespecial 3, 4, [9004], 0, 0, []) := And.intro dX1_init_1 (And.intro rfl (And.intro rfl (And.intro (tm_2 _ (List.mem_of_getElem? (i := 173) rfl) rfl) (And.intro (tm_1 _ (List.mem_of_getElem? (i := 32) rfl) rfl) (tm_1 _ (List.mem_of_getElem? (i := 33) rfl) rfl)))))
theorem oX1_init_4 : OKI 6 4 (.aload_n 0, 5, [0], 0, 0, []) := And.intro dX1_init_4 (And.intro rfl (rfl))
theorem oX1_init_5 : OKI 6 5 (.bipush 90, 7, [], 90, 0, []) := And.intro dX1_init_5 (And.intro rfl (by decide +kernel))
theorem oX1_init_7 : OKI 6 7 (.newarray .int, 9, [101], 0, 0, []) := And.intro dX1_init_7 (And.intro rfl (And.intro (And.intro (by decide) (by decide)) (tm_1 _ (List.mem_of_getElem? (i := 80) rfl) rfl)))
theorem oX1_init_9 : OKI 6 9 (.putfield 9, 12, [2, 2, 2], 0, 0, []) := And.intro dX1_init_9 (And.intro rfl (⟨(RX1, TX1, 6), "SpotTimers$Clock", rfl, by decide, tm_2 _ (List.mem_of_getElem? (i := 183) rfl) rfl, Or.inl rfl, Or.inr (And.intro rfl (And.intro rfl rfl)), rfl⟩))
theorem oX1_init_12 : OKI 6 12 (.aload_n 0, 13, [0], 0, 0, []) := And.intro dX1_init_12 (And.intro rfl (rfl))
theorem oX1_init_13 : OKI 6 13 (.bipush 90, 15, [], 90, 0, []) := And.intro dX1_init_13 (And.intro rfl (by decide +kernel))
theorem oX1_init_15 : OKI 6 15 (.newarray .int, 17, [102], 0, 0, []) := And.intro dX1_init_15 (And.intro rfl (And.intro (And.intro (by decide) (by decide)) (tm_1 _ (List.mem_of_getElem? (i := 80) rfl) rfl)))
theorem oX1_init_17 : OKI 6 17 (.putfield 15, 20, [2, 3, 2], 0, 0, []) := And.intro dX1_init_17 (And.intro rfl (⟨(RX1, TX1, 6), "SpotTimers$Clock", rfl, by decide, tm_2 _ (List.mem_of_getElem? (i := 184) rfl) rfl, Or.inl rfl, Or.inr (And.intro rfl (And.intro rfl rfl)), rfl⟩))
theorem oX1_init_20 : OKI 6 20 (.aload_n 0, 21, [0], 0, 0, []) := And.intro dX1_init_20 (And.intro rfl (rfl))
theorem oX1_init_21 : OKI 6 21 (.iconst 0, 22, [], 0, 0, []) := And.intro dX1_init_21 (And.intro rfl (by decide +kernel))
theorem oX1_init_22 : OKI 6 22 (.putfield 18, 25, [2, 4, 0], 0, 0, []) := And.intro dX1_init_22 (And.intro rfl (⟨(RX1, TX1, 6), "SpotTimers$Clock", rfl, by decide, tm_2 _ (List.mem_of_getElem? (i := 185) rfl) rfl, Or.inl rfl, Or.inl rfl, rfl⟩))
theorem oX1_init_25 : OKI 6 25 (.aload_n 0, 26, [0], 0, 0, []) := And.intro dX1_init_25 (And.intro rfl (rfl))
theorem oX1_init_26 : OKI 6 26 (.ldc 22, 28, [], (-1000000000), 0, []) := And.intro dX1_init_26 (And.intro rfl (tm_2 _ (List.mem_of_getElem? (i := 174) rfl) rfl))
theorem oX1_init_28 : OKI 6 28 (.putfield 23, 31, [2, 5, 0], 0, 0, []) := And.intro dX1_init_28 (And.intro rfl (⟨(RX1, TX1, 6), "SpotTimers$Clock", rfl, by decide, tm_2 _ (List.mem_of_getElem? (i := 187) rfl) rfl, Or.inl rfl, Or.inl rfl, rfl⟩))
theorem oX1_init_31 : OKI 6 31 (.aload_n 0, 32, [0], 0, 0, []) := And.intro dX1_init_31 (And.intro rfl (rfl))
theorem oX1_init_32 : OKI 6 32 (.iload_n 1, 33, [1], 0, 0, []) := And.intro dX1_init_32 (And.intro rfl (rfl))
theorem oX1_init_33 : OKI 6 33 (.putfield 26, 36, [2, 0, 0], 0, 0, []) := And.intro dX1_init_33 (And.intro rfl (⟨(RX1, TX1, 6), "SpotTimers$Clock", rfl, by decide, tm_2 _ (List.mem_of_getElem? (i := 175) rfl) rfl, Or.inl rfl, Or.inr (And.intro rfl (And.intro rfl rfl)), rfl⟩))
theorem oX1_init_36 : OKI 6 36 (.aload_n 0, 37, [0], 0, 0, []) := And.intro dX1_init_36 (And.intro rfl (rfl))
theorem oX1_init_37 : OKI 6 37 (.aload_n 2, 38, [2], 0, 0, []) := And.intro dX1_init_37 (And.intro rfl (rfl))
theorem oX1_init_38 : OKI 6 38 (.putfield 29, 41, [2, 1, 2], 0, 0, []) := And.intro dX1_init_38 (And.intro rfl (⟨(RX1, TX1, 6), "SpotTimers$Clock", rfl, by decide, tm_2 _ (List.mem_of_getElem? (i := 178) rfl) rfl, Or.inl rfl, Or.inr (And.intro rfl (And.intro rfl rfl)), rfl⟩))
theorem oX1_init_41 : OKI 6 41 (.return_, 42, [], 0, 0, []) := And.intro dX1_init_41 rfl
def pfX1_init (pc : Nat) : Option XE := (bif Nat.blt pc 21 then (bif Nat.blt pc 9 then (bif Nat.blt pc 4 then (bif Nat.blt pc 1 then (bif Nat.beq pc 0 then some (.aload_n 0, 1, [0], 0, 0, []) else none) else (bif Nat.beq pc 1 then some (.invokespecial 3, 4, [9004], 0, 0, []) else none)) else (bif Nat.blt pc 5 then (bif Nat.beq pc 4 then some (.aload_n 0, 5, [0], 0, 0, []) else none) else (bif Nat.blt pc 7 then (bif Nat.beq pc 5 then some (.bipush 90, 7, [], 90, 0, []) else none) else (bif Nat.beq pc 7 then some (.newarray .int, 9, [101], 0, 0, []) else none)))) else (bif Nat.blt pc 15 then (bif Nat.blt pc 12 then (bif Nat.beq pc 9 then some (.putfield 9, 12, [2, 2, 2], 0, 0, []) else none) else (bif Nat.blt pc 13 then (bif Nat.beq pc 12 then some (.aload_n 0, 13, [0], 0, 0, []) else none) else (bif Nat.beq pc 13 then some (.bipush 90, 15, [], 90, 0, []) else none))) else (bif Nat.blt pc 17 then (bif Nat.beq pc 15 then some (.newarray .int, 17, [102], 0, 0, []) else none) else (bif Nat.blt pc 20 then (bif Nat.beq pc 17 then some (.putfield 15, 20, [2, 3, 2], 0, 0, []) else none) else (bif Nat.beq pc 20 then some (.aload_n 0, 21, [0], 0, 0, []) else none))))) else (bif Nat.blt pc 32 then (bif Nat.blt pc 26 then (bif Nat.blt pc 22 then (bif Nat.beq pc 21 then some (.iconst 0, 22, [], 0, 0, []) else none) else (bif Nat.blt pc 25 then (bif Nat.beq pc 22 then some (.putfield 18, 25, [2, 4, 0], 0, 0, []) else none) else (bif Nat.beq pc 25 then some (.aload_n 0, 26, [0], 0, 0, []) else none))) else (bif Nat.blt pc 28 then (bif Nat.beq pc 26 then some (.ldc 22, 28, [], (-1000000000), 0, []) else none) else (bif Nat.blt pc 31 then (bif Nat.beq pc 28 then some (.putfield 23, 31, [2, 5, 0], 0, 0, []) else none) else (bif Nat.beq pc 31 then some (.aload_n 0, 32, [0], 0, 0, []) else none)))) else (bif Nat.blt pc 37 then (bif Nat.blt pc 33 then (bif Nat.beq pc 32 then some (.iload_n 1, 33, [1], 0, 0, []) else none) else (bif Nat.blt pc 36 then (bif Nat.beq pc 33 then some (.putfield 26, 36, [2, 0, 0], 0, 0, []) else none) else (bif Nat.beq pc 36 then some (.aload_n 0, 37, [0], 0, 0, []) else none))) else (bif Nat.blt pc 38 then (bif Nat.beq pc 37 then some (.aload_n 2, 38, [2], 0, 0, []) else none) else (bif Nat.blt pc 41 then (bif Nat.beq pc 38 then some (.putfield 29, 41, [2, 1, 2], 0, 0, []) else none) else (bif Nat.beq pc 41 then some (.return_, 42, [], 0, 0, []) else none))))))
theorem okX1_init : ∀ pc Y, pfX1_init pc = some Y → OKI m_X1_init pc Y := fun pc Y => ((bt_node (bt_node (bt_node (bt_node (bt_leaf (P := OKI m_X1_init) oX1_init_0) (bt_leaf (P := OKI m_X1_init) oX1_init_1)) (bt_node (bt_leaf (P := OKI m_X1_init) oX1_init_4) (bt_node (bt_leaf (P := OKI m_X1_init) oX1_init_5) (bt_leaf (P := OKI m_X1_init) oX1_init_7)))) (bt_node (bt_node (bt_leaf (P := OKI m_X1_init) oX1_init_9) (bt_node (bt_leaf (P := OKI m_X1_init) oX1_init_12) (bt_leaf (P := OKI m_X1_init) oX1_init_13))) (bt_node (bt_leaf (P := OKI m_X1_init) oX1_init_15) (bt_node (bt_leaf (P := OKI m_X1_init) oX1_init_17) (bt_leaf (P := OKI m_X1_init) oX1_init_20))))) (bt_node (bt_node (bt_node (bt_leaf (P := OKI m_X1_init) oX1_init_21) (bt_node (bt_leaf (P := OKI m_X1_init) oX1_init_22) (bt_leaf (P := OKI m_X1_init) oX1_init_25))) (bt_node (bt_leaf (P := OKI m_X1_init) oX1_init_26) (bt_node (bt_leaf (P := OKI m_X1_init) oX1_init_28) (bt_leaf (P := OKI m_X1_init) oX1_init_31)))) (bt_node (bt_node (bt_leaf (P := OKI m_X1_init) oX1_init_32) (bt_node (bt_leaf (P := OKI m_X1_init) oX1_init_33) (bt_leaf (P := OKI m_X1_init) oX1_init_36))) (bt_node (bt_leaf (P := OKI m_X1_init) oX1_init_37) (bt_node (bt_leaf (P := OKI m_X1_init) oX1_init_38) (bt_leaf (P := OKI m_X1_init) oX1_init_41)))))) : pfX1_init pc = some Y → OKI m_X1_init pc Y)
def stpX1_init (pc : Nat) : Option (List Bool) := (bif Nat.beq pc 41 then some [false, false, false] else none)
def bX1_init_0 (d rc rs : Nat) (t : Nat) (a1 : Int32) (a2 : Option XO) (σ : XH) (Q : XV → XH → Prop) : Prop :=
  ((1 ≤ d ∧ (¬ (90 : Int32) < 0 ∧ (90 : Int32).toNatClampNeg ≤ 100000 ∧ 1 ≤ rc ∧ (90 : Int32).toNatClampNeg ≤ rs ∧ (∀ h1, h1 = nwA σ 101 (90 : Int32).toNatClampNeg → ((∀ h2, h2 = wR h1 2 t 2 (some (101, hc σ 101)) → (¬ (90 : Int32) < 0 ∧ (90 : Int32).toNatClampNeg ≤ 100000 ∧ 1 ≤ rc - 1 ∧ (90 : Int32).toNatClampNeg ≤ rs - (90 : Int32).toNatClampNeg ∧ (∀ h3, h3 = nwA h2 102 (90 : Int32).toNatClampNeg → ((∀ h4, h4 = wR h3 2 t 3 (some (102, hc h2 102)) → ((∀ h5, h5 = wI h4 2 t 4 0 → ((∀ h6, h6 = wI h5 2 t 5 (-1000000000) → ((∀ h7, h7 = wI h6 2 t 0 a1 → ((∀ h8, h8 = wR h7 2 t 1 a2 → Ex d ((rc - 1) - 1) ((rs - (90 : Int32).toNatClampNeg) - (90 : Int32).toNatClampNeg) m_X1_init 41 [vU, vU, vU] [] h8 Q))))))))))))))))))
theorem sX1_init_0 {d rc rs : Nat} {t : Nat} {a1 : Int32} {a2 : Option XO} {σ : XH} {Q : XV → XH → Prop} (h : bX1_init_0 d rc rs t a1 a2 σ Q) : Ex d rc rs m_X1_init 0 [vR (some (2, t)), vI a1, vR a2] [] σ Q :=
  xtree_sound (stop := stpX1_init) okX1_init 24 _ _ _ _ _ _ h
def bX1_init_41 (d rc rs : Nat)  (σ : XH) (Q : XV → XH → Prop) : Prop :=
  Q vU σ
theorem sX1_init_41 {d rc rs : Nat}  {σ : XH} {Q : XV → XH → Prop} (h : bX1_init_41 d rc rs  σ Q) : Ex d rc rs m_X1_init 41 [vU, vU, vU] [] σ Q :=
  xtree_sound (stop := stpX1_init) okX1_init 3 _ _ _ _ _ _ h
/-! SpotTimers$Clock.hasStopped()Z -/
theorem dX1_hasStopped_0 : decode cX1_hasStopped 0 = .ok (.aload_n 0, 1) := by decide +kernel
theorem dX1_hasStopped_1 : decode cX1_hasStopped 1 = .ok (.getfield 23, 3) := by decide +kernel
theorem dX1_hasStopped_4 : decode cX1_hasStopped 4 = .ok (.ldc 22, 2) := by decide +kernel
theorem dX1_hasStopped_6 : decode cX1_hasStopped 6 = .ok (.if_icmp .eq 7, 3) := by decide +kernel
theorem dX1_hasStopped_9 : decode cX1_hasStopped 9 = .ok (.iconst 1, 1) := by decide +kernel
theorem dX1_hasStopped_10 : decode cX1_hasStopped 10 = .ok (.goto 4, 3) := by decide +kernel
theorem dX1_hasStopped_13 : decode cX1_hasStopped 13 = .ok (.iconst 0, 1) := by decide +kernel
theorem dX1_hasStopped_14 : decode cX1_hasStopped 14 = .ok (.ireturn, 1) := by decide +kernel
theorem oX1_hasStopped_0 : OKI 7 0 (.aload_n 0, 1, [0], 0, 0, []) := And.intro dX1_hasStopped_0 (And.intro rfl (rfl))
theorem oX1_hasStopped_1 : OKI 7 1 (.getfield 23, 4, [2, 5, 0], 0, 0, []) := And.intro dX1_hasStopped_1 (And.intro rfl (⟨(RX1, TX1, 6), "SpotTimers$Clock", rfl, by decide, tm_2 _ (List.mem_of_getElem? (i := 187) rfl) rfl, Or.inl rfl, Or.inr (Or.inr (And.intro rfl (Or.inl rfl)))⟩))
theorem oX1_hasStopped_4 : OKI 7 4 (.ldc 22, 6, [], (-1000000000), 0, []) := And.intro dX1_hasStopped_4 (And.intro rfl (tm_2 _ (List.mem_of_getElem? (i := 174) rfl) rfl))
theorem oX1_hasStopped_6 : OKI 7 6 (.if_icmp .eq 7, 9, [13], 0, 0, []) := And.intro dX1_hasStopped_6 (And.intro rfl (by decide))
theorem oX1_hasStopped_9 : OKI 7 9 (.iconst 1, 10, [], 1, 0, []) := And.intro dX1_hasStopped_9 (And.intro rfl (by decide +kernel))
theorem oX1_hasStopped_10 : OKI 7 10 (.goto 4, 13, [14], 0, 0, []) := And.intro dX1_hasStopped_10 (And.intro rfl (by decide))
theorem oX1_hasStopped_13 : OKI 7 13 (.iconst 0, 14, [], 0, 0, []) := And.intro dX1_hasStopped_13 (And.intro rfl (by decide +kernel))
theorem oX1_hasStopped_14 : OKI 7 14 (.ireturn, 15, [3], 0, 0, []) := And.intro dX1_hasStopped_14 (Or.inr (Or.inl (And.intro rfl rfl)))
def pfX1_hasStopped (pc : Nat) : Option XE := (bif Nat.blt pc 9 then (bif Nat.blt pc 4 then (bif Nat.blt pc 1 then (bif Nat.beq pc 0 then some (.aload_n 0, 1, [0], 0, 0, []) else none) else (bif Nat.beq pc 1 then some (.getfield 23, 4, [2, 5, 0], 0, 0, []) else none)) else (bif Nat.blt pc 6 then (bif Nat.beq pc 4 then some (.ldc 22, 6, [], (-1000000000), 0, []) else none) else (bif Nat.beq pc 6 then some (.if_icmp .eq 7, 9, [13], 0, 0, []) else none))) else (bif Nat.blt pc 13 then (bif Nat.blt pc 10 then (bif Nat.beq pc 9 then some (.iconst 1, 10, [], 1, 0, []) else none) else (bif Nat.beq pc 10 then some (.goto 4, 13, [14], 0, 0, []) else none)) else (bif Nat.blt pc 14 then (bif Nat.beq pc 13 then some (.iconst 0, 14, [], 0, 0, []) else none) else (bif Nat.beq pc 14 then some (.ireturn, 15, [3], 0, 0, []) else none))))
theorem okX1_hasStopped : ∀ pc Y, pfX1_hasStopped pc = some Y → OKI m_X1_hasStopped pc Y := fun pc Y => ((bt_node (bt_node (bt_node (bt_leaf (P := OKI m_X1_hasStopped) oX1_hasStopped_0) (bt_leaf (P := OKI m_X1_hasStopped) oX1_hasStopped_1)) (bt_node (bt_leaf (P := OKI m_X1_hasStopped) oX1_hasStopped_4) (bt_leaf (P := OKI m_X1_hasStopped) oX1_hasStopped_6))) (bt_node (bt_node (bt_leaf (P := OKI m_X1_hasStopped) oX1_hasStopped_9) (bt_leaf (P := OKI m_X1_hasStopped) oX1_hasStopped_10)) (bt_node (bt_leaf (P := OKI m_X1_hasStopped) oX1_hasStopped_13) (bt_leaf (P := OKI m_X1_hasStopped) oX1_hasStopped_14)))) : pfX1_hasStopped pc = some Y → OKI m_X1_hasStopped pc Y)
def stpX1_hasStopped (pc : Nat) : Option (List Bool) := (bif Nat.beq pc 14 then some [false] else none)
def bX1_hasStopped_0 (d rc rs : Nat) (t : Nat)  (σ : XH) (Q : XV → XH → Prop) : Prop :=
  ((((hi σ 2 t 5) = (-1000000000) → Ex d rc rs m_X1_hasStopped 14 [vU] [vI 0] σ Q) ∧ (¬ (hi σ 2 t 5) = (-1000000000) → Ex d rc rs m_X1_hasStopped 14 [vU] [vI 1] σ Q)))
theorem sX1_hasStopped_0 {d rc rs : Nat} {t : Nat}  {σ : XH} {Q : XV → XH → Prop} (h : bX1_hasStopped_0 d rc rs t  σ Q) : Ex d rc rs m_X1_hasStopped 0 [vR (some (2, t))] [] σ Q :=
  xtree_sound (stop := stpX1_hasStopped) okX1_hasStopped 8 _ _ _ _ _ _ h
def bX1_hasStopped_14 (d rc rs : Nat) (q0 : Int32) (σ : XH) (Q : XV → XH → Prop) : Prop :=
  ((q0 = 0 ∨ q0 = 1) ∧ Q (vI q0) σ)
theorem sX1_hasStopped_14 {d rc rs : Nat} {q0 : Int32} {σ : XH} {Q : XV → XH → Prop} (h : bX1_hasStopped_14 d rc rs q0 σ Q) : Ex d rc rs m_X1_hasStopped 14 [vU] [vI q0] σ Q :=
  xtree_sound (stop := stpX1_hasStopped) okX1_hasStopped 3 _ _ _ _ _ _ h
/-! SpotTimers$Clock.isGoingAt(I)Z -/
theorem dX1_isGoingAt_0 : decode cX1_isGoingAt 0 = .ok (.aload_n 0, 1) := by decide +kernel
theorem dX1_isGoingAt_1 : decode cX1_isGoingAt 1 = .ok (.invokevirtual 33, 3) := by decide +kernel
theorem dX1_isGoingAt_4 : decode cX1_isGoingAt 4 = .ok (.ifCond .eq 11, 3) := by decide +kernel
theorem dX1_isGoingAt_7 : decode cX1_isGoingAt 7 = .ok (.iload_n 1, 1) := by decide +kernel
theorem dX1_isGoingAt_8 : decode cX1_isGoingAt 8 = .ok (.aload_n 0, 1) := by decide +kernel
theorem dX1_isGoingAt_9 : decode cX1_isGoingAt 9 = .ok (.getfield 23, 3) := by decide +kernel
theorem dX1_isGoingAt_12 : decode cX1_isGoingAt 12 = .ok (.if_icmp .gt 7, 3) := by decide +kernel
theorem dX1_isGoingAt_15 : decode cX1_isGoingAt 15 = .ok (.iconst 1, 1) := by decide +kernel
theorem dX1_isGoingAt_16 : decode cX1_isGoingAt 16 = .ok (.goto 4, 3) := by decide +kernel
theorem dX1_isGoingAt_19 : decode cX1_isGoingAt 19 = .ok (.iconst 0, 1) := by decide +kernel
theorem dX1_isGoingAt_20 : decode cX1_isGoingAt 20 = .ok (.ireturn, 1) := by decide +kernel
theorem oX1_isGoingAt_0 : OKI 8 0 (.aload_n 0, 1, [0], 0, 0, []) := And.intro dX1_isGoingAt_0 (And.intro rfl (rfl))
theorem oX1_isGoingAt_1 : OKI 8 1 (.invokevirtual 33, 4, [7, 1, 3, 0, 0, 1], 0, 0, []) := And.intro dX1_isGoingAt_1 (And.intro rfl (And.intro (by decide) (And.intro (by decide) (And.intro mo_X1_hasStopped (And.intro (tm_2 _ (List.mem_of_getElem? (i := 235) rfl) rfl) (And.intro (tm_2 _ (List.mem_of_getElem? (i := 215) rfl) rfl) (And.intro (tm_2 _ (List.mem_of_getElem? (i := 216) rfl) rfl) (Or.inl ⟨(RX1, TX1, 6), rfl, rfl⟩))))))))
theorem oX1_isGoingAt_4 : OKI 8 4 (.ifCond .eq 11, 7, [15], 0, 0, []) := And.intro dX1_isGoingAt_4 (And.intro rfl (by decide))
theorem oX1_isGoingAt_7 : OKI 8 7 (.iload_n 1, 8, [1], 0, 0, []) := And.intro dX1_isGoingAt_7 (And.intro rfl (rfl))
theorem oX1_isGoingAt_8 : OKI 8 8 (.aload_n 0, 9, [0], 0, 0, []) := And.intro dX1_isGoingAt_8 (And.intro rfl (rfl))
theorem oX1_isGoingAt_9 : OKI 8 9 (.getfield 23, 12, [2, 5, 0], 0, 0, []) := And.intro dX1_isGoingAt_9 (And.intro rfl (⟨(RX1, TX1, 6), "SpotTimers$Clock", rfl, by decide, tm_2 _ (List.mem_of_getElem? (i := 187) rfl) rfl, Or.inl rfl, Or.inr (Or.inr (And.intro rfl (Or.inl rfl)))⟩))
theorem oX1_isGoingAt_12 : OKI 8 12 (.if_icmp .gt 7, 15, [19], 0, 0, []) := And.intro dX1_isGoingAt_12 (And.intro rfl (by decide))
theorem oX1_isGoingAt_15 : OKI 8 15 (.iconst 1, 16, [], 1, 0, []) := And.intro dX1_isGoingAt_15 (And.intro rfl (by decide +kernel))
theorem oX1_isGoingAt_16 : OKI 8 16 (.goto 4, 19, [20], 0, 0, []) := And.intro dX1_isGoingAt_16 (And.intro rfl (by decide))
theorem oX1_isGoingAt_19 : OKI 8 19 (.iconst 0, 20, [], 0, 0, []) := And.intro dX1_isGoingAt_19 (And.intro rfl (by decide +kernel))
theorem oX1_isGoingAt_20 : OKI 8 20 (.ireturn, 21, [3], 0, 0, []) := And.intro dX1_isGoingAt_20 (Or.inr (Or.inl (And.intro rfl rfl)))
def pfX1_isGoingAt (pc : Nat) : Option XE := (bif Nat.blt pc 9 then (bif Nat.blt pc 4 then (bif Nat.blt pc 1 then (bif Nat.beq pc 0 then some (.aload_n 0, 1, [0], 0, 0, []) else none) else (bif Nat.beq pc 1 then some (.invokevirtual 33, 4, [7, 1, 3, 0, 0, 1], 0, 0, []) else none)) else (bif Nat.blt pc 7 then (bif Nat.beq pc 4 then some (.ifCond .eq 11, 7, [15], 0, 0, []) else none) else (bif Nat.blt pc 8 then (bif Nat.beq pc 7 then some (.iload_n 1, 8, [1], 0, 0, []) else none) else (bif Nat.beq pc 8 then some (.aload_n 0, 9, [0], 0, 0, []) else none)))) else (bif Nat.blt pc 16 then (bif Nat.blt pc 12 then (bif Nat.beq pc 9 then some (.getfield 23, 12, [2, 5, 0], 0, 0, []) else none) else (bif Nat.blt pc 15 then (bif Nat.beq pc 12 then some (.if_icmp .gt 7, 15, [19], 0, 0, []) else none) else (bif Nat.beq pc 15 then some (.iconst 1, 16, [], 1, 0, []) else none))) else (bif Nat.blt pc 19 then (bif Nat.beq pc 16 then some (.goto 4, 19, [20], 0, 0, []) else none) else (bif Nat.blt pc 20 then (bif Nat.beq pc 19 then some (.iconst 0, 20, [], 0, 0, []) else none) else (bif Nat.beq pc 20 then some (.ireturn, 21, [3], 0, 0, []) else none)))))
theorem okX1_isGoingAt : ∀ pc Y, pfX1_isGoingAt pc = some Y → OKI m_X1_isGoingAt pc Y := fun pc Y => ((bt_node (bt_node (bt_node (bt_leaf (P := OKI m_X1_isGoingAt) oX1_isGoingAt_0) (bt_leaf (P := OKI m_X1_isGoingAt) oX1_isGoingAt_1)) (bt_node (bt_leaf (P := OKI m_X1_isGoingAt) oX1_isGoingAt_4) (bt_node (bt_leaf (P := OKI m_X1_isGoingAt) oX1_isGoingAt_7) (bt_leaf (P := OKI m_X1_isGoingAt) oX1_isGoingAt_8)))) (bt_node (bt_node (bt_leaf (P := OKI m_X1_isGoingAt) oX1_isGoingAt_9) (bt_node (bt_leaf (P := OKI m_X1_isGoingAt) oX1_isGoingAt_12) (bt_leaf (P := OKI m_X1_isGoingAt) oX1_isGoingAt_15))) (bt_node (bt_leaf (P := OKI m_X1_isGoingAt) oX1_isGoingAt_16) (bt_node (bt_leaf (P := OKI m_X1_isGoingAt) oX1_isGoingAt_19) (bt_leaf (P := OKI m_X1_isGoingAt) oX1_isGoingAt_20))))) : pfX1_isGoingAt pc = some Y → OKI m_X1_isGoingAt pc Y)
def stpX1_isGoingAt (pc : Nat) : Option (List Bool) := (bif Nat.blt pc 20 then (bif Nat.beq pc 15 then some [false, false] else none) else (bif Nat.beq pc 20 then some [false, false] else none))
def bX1_isGoingAt_0 (d rc rs : Nat) (t : Nat) (a1 : Int32) (σ : XH) (Q : XV → XH → Prop) : Prop :=
  ((1 ≤ d ∧ Ec (d - 1) 0 0 m_X1_hasStopped [vR (some (2, t))] σ (kI fun x2 h1 => ((x2 = 0 → Ex d rc rs m_X1_isGoingAt 15 [vU, vU] [] h1 Q) ∧ (¬ x2 = 0 → ((((hi h1 2 t 5) < a1 → Ex d rc rs m_X1_isGoingAt 20 [vU, vU] [vI 0] h1 Q) ∧ (¬ (hi h1 2 t 5) < a1 → Ex d rc rs m_X1_isGoingAt 15 [vU, vU] [] h1 Q))))))))
theorem sX1_isGoingAt_0 {d rc rs : Nat} {t : Nat} {a1 : Int32} {σ : XH} {Q : XV → XH → Prop} (h : bX1_isGoingAt_0 d rc rs t a1 σ Q) : Ex d rc rs m_X1_isGoingAt 0 [vR (some (2, t)), vI a1] [] σ Q :=
  xtree_sound (stop := stpX1_isGoingAt) okX1_isGoingAt 10 _ _ _ _ _ _ h
def bX1_isGoingAt_15 (d rc rs : Nat)  (σ : XH) (Q : XV → XH → Prop) : Prop :=
  Ex d rc rs m_X1_isGoingAt 20 [vU, vU] [vI 1] σ Q
theorem sX1_isGoingAt_15 {d rc rs : Nat}  {σ : XH} {Q : XV → XH → Prop} (h : bX1_isGoingAt_15 d rc rs  σ Q) : Ex d rc rs m_X1_isGoingAt 15 [vU, vU] [] σ Q :=
  xtree_sound (stop := stpX1_isGoingAt) okX1_isGoingAt 4 _ _ _ _ _ _ h
def bX1_isGoingAt_20 (d rc rs : Nat) (q0 : Int32) (σ : XH) (Q : XV → XH → Prop) : Prop :=
  ((q0 = 0 ∨ q0 = 1) ∧ Q (vI q0) σ)
theorem sX1_isGoingAt_20 {d rc rs : Nat} {q0 : Int32} {σ : XH} {Q : XV → XH → Prop} (h : bX1_isGoingAt_20 d rc rs q0 σ Q) : Ex d rc rs m_X1_isGoingAt 20 [vU, vU] [vI q0] σ Q :=
  xtree_sound (stop := stpX1_isGoingAt) okX1_isGoingAt 3 _ _ _ _ _ _ h
/-! SpotTimers$Clock.addStar(II)V -/
theorem dX1_addStar_0 : decode cX1_addStar 0 = .ok (.aload_n 0, 1) := by decide +kernel
theorem dX1_addStar_1 : decode cX1_addStar 1 = .ok (.iload_n 1, 1) := by decide +kernel
theorem dX1_addStar_2 : decode cX1_addStar 2 = .ok (.invokevirtual 37, 3) := by decide +kernel
theorem dX1_addStar_5 : decode cX1_addStar 5 = .ok (.istore_n 3, 1) := by decide +kernel
theorem dX1_addStar_6 : decode cX1_addStar 6 = .ok (.iload_n 3, 1) := by decide +kernel
theorem dX1_addStar_7 : decode cX1_addStar 7 = .ok (.ifCond .lt 21, 3) := by decide +kernel
theorem dX1_addStar_10 : decode cX1_addStar 10 = .ok (.aload_n 0, 1) := by decide +kernel
theorem dX1_addStar_11 : decode cX1_addStar 11 = .ok (.getfield 9, 3) := by decide +kernel
theorem dX1_addStar_14 : decode cX1_addStar 14 = .ok (.iload_n 3, 1) := by decide +kernel
theorem dX1_addStar_15 : decode cX1_addStar 15 = .ok (.iaload, 1) := by decide +kernel
theorem dX1_addStar_16 : decode cX1_addStar 16 = .ok (.iload_n 1, 1) := by decide +kernel
theorem dX1_addStar_17 : decode cX1_addStar 17 = .ok (.if_icmp .ne 11, 3) := by decide +kernel
theorem dX1_addStar_20 : decode cX1_addStar 20 = .ok (.aload_n 0, 1) := by decide +kernel
theorem dX1_addStar_21 : decode cX1_addStar 21 = .ok (.getfield 15, 3) := by decide +kernel
theorem dX1_addStar_24 : decode cX1_addStar 24 = .ok (.iload_n 3, 1) := by decide +kernel
theorem dX1_addStar_25 : decode cX1_addStar 25 = .ok (.iload_n 2, 1) := by decide +kernel
theorem dX1_addStar_26 : decode cX1_addStar 26 = .ok (.iastore, 1) := by decide +kernel
theorem dX1_addStar_27 : decode cX1_addStar 27 = .ok (.return_, 1) := by decide +kernel
theorem dX1_addStar_28 : decode cX1_addStar 28 = .ok (.aload_n 0, 1) := by decide +kernel
theorem dX1_addStar_29 : decode cX1_addStar 29 = .ok (.getfield 18, 3) := by decide +kernel
theorem dX1_addStar_32 : decode cX1_addStar 32 = .ok (.bipush 90, 2) := by decide +kernel
theorem dX1_addStar_34 : decode cX1_addStar 34 = .ok (.if_icmp .lt 4, 3) := by decide +kernel
theorem dX1_addStar_37 : decode cX1_addStar 37 = .ok (.return_, 1) := by decide +kernel
theorem dX1_addStar_38 : decode cX1_addStar 38 = .ok (.aload_n 0, 1) := by decide +kernel
theorem dX1_addStar_39 : decode cX1_addStar 39 = .ok (.getfield 18, 3) := by decide +kernel
theorem dX1_addStar_42 : decode cX1_addStar 42 = .ok (.istore 4, 2) := by decide +kernel
theorem dX1_addStar_44 : decode cX1_addStar 44 = .ok (.iload 4, 2) := by decide +kernel
theorem dX1_addStar_46 : decode cX1_addStar 46 = .ok (.iload_n 3, 1) := by decide +kernel
theorem dX1_addStar_47 : decode cX1_addStar 47 = .ok (.iconst 1, 1) := by decide +kernel
theorem dX1_addStar_48 : decode cX1_addStar 48 = .ok (.iadd, 1) := by decide +kernel
theorem dX1_addStar_49 : decode cX1_addStar 49 = .ok (.if_icmp .le 41, 3) := by decide +kernel
theorem dX1_addStar_52 : decode cX1_addStar 52 = .ok (.aload_n 0, 1) := by decide +kernel
theorem dX1_addStar_53 : decode cX1_addStar 53 = .ok (.getfield 9, 3) := by decide +kernel
theorem dX1_addStar_56 : decode cX1_addStar 56 = .ok (.iload 4, 2) := by decide +kernel
theorem dX1_addStar_58 : decode cX1_addStar 58 = .ok (.aload_n 0, 1) := by decide +kernel
theorem dX1_addStar_59 : decode cX1_addStar 59 = .ok (.getfield 9, 3) := by decide +kernel
theorem dX1_addStar_62 : decode cX1_addStar 62 = .ok (.iload 4, 2) := by decide +kernel
theorem dX1_addStar_64 : decode cX1_addStar 64 = .ok (.iconst 1, 1) := by decide +kernel
theorem dX1_addStar_65 : decode cX1_addStar 65 = .ok (.isub, 1) := by decide +kernel
theorem dX1_addStar_66 : decode cX1_addStar 66 = .ok (.iaload, 1) := by decide +kernel
theorem dX1_addStar_67 : decode cX1_addStar 67 = .ok (.iastore, 1) := by decide +kernel
theorem dX1_addStar_68 : decode cX1_addStar 68 = .ok (.aload_n 0, 1) := by decide +kernel
theorem dX1_addStar_69 : decode cX1_addStar 69 = .ok (.getfield 15, 3) := by decide +kernel
theorem dX1_addStar_72 : decode cX1_addStar 72 = .ok (.iload 4, 2) := by decide +kernel
theorem dX1_addStar_74 : decode cX1_addStar 74 = .ok (.aload_n 0, 1) := by decide +kernel
theorem dX1_addStar_75 : decode cX1_addStar 75 = .ok (.getfield 15, 3) := by decide +kernel
theorem dX1_addStar_78 : decode cX1_addStar 78 = .ok (.iload 4, 2) := by decide +kernel
theorem dX1_addStar_80 : decode cX1_addStar 80 = .ok (.iconst 1, 1) := by decide +kernel
theorem dX1_addStar_81 : decode cX1_addStar 81 = .ok (.isub, 1) := by decide +kernel
theorem dX1_addStar_82 : decode cX1_addStar 82 = .ok (.iaload, 1) := by decide +kernel
theorem dX1_addStar_83 : decode cX1_addStar 83 = .ok (.iastore, 1) := by decide +kernel
theorem dX1_addStar_84 : decode cX1_addStar 84 = .ok (.iinc 4 (-1), 3) := by decide +kernel
theorem dX1_addStar_87 : decode cX1_addStar 87 = .ok (.goto (-43), 3) := by decide +kernel
theorem dX1_addStar_90 : decode cX1_addStar 90 = .ok (.aload_n 0, 1) := by decide +kernel
theorem dX1_addStar_91 : decode cX1_addStar 91 = .ok (.getfield 9, 3) := by decide +kernel
theorem dX1_addStar_94 : decode cX1_addStar 94 = .ok (.iload_n 3, 1) := by decide +kernel
theorem dX1_addStar_95 : decode cX1_addStar 95 = .ok (.iconst 1, 1) := by decide +kernel
theorem dX1_addStar_96 : decode cX1_addStar 96 = .ok (.iadd, 1) := by decide +kernel
theorem dX1_addStar_97 : decode cX1_addStar 97 = .ok (.iload_n 1, 1) := by decide +kernel
theorem dX1_addStar_98 : decode cX1_addStar 98 = .ok (.iastore, 1) := by decide +kernel
theorem dX1_addStar_99 : decode cX1_addStar 99 = .ok (.aload_n 0, 1) := by decide +kernel
theorem dX1_addStar_100 : decode cX1_addStar 100 = .ok (.getfield 15, 3) := by decide +kernel
theorem dX1_addStar_103 : decode cX1_addStar 103 = .ok (.iload_n 3, 1) := by decide +kernel
theorem dX1_addStar_104 : decode cX1_addStar 104 = .ok (.iconst 1, 1) := by decide +kernel
theorem dX1_addStar_105 : decode cX1_addStar 105 = .ok (.iadd, 1) := by decide +kernel
theorem dX1_addStar_106 : decode cX1_addStar 106 = .ok (.iload_n 2, 1) := by decide +kernel
theorem dX1_addStar_107 : decode cX1_addStar 107 = .ok (.iastore, 1) := by decide +kernel
theorem dX1_addStar_108 : decode cX1_addStar 108 = .ok (.aload_n 0, 1) := by decide +kernel
theorem dX1_addStar_109 : decode cX1_addStar 109 = .ok (.dup, 1) := by decide +kernel
theorem dX1_addStar_110 : decode cX1_addStar 110 = .ok (.getfield 18, 3) := by decide +kernel
theorem dX1_addStar_113 : decode cX1_addStar 113 = .ok (.iconst 1, 1) := by decide +kernel
theorem dX1_addStar_114 : decode cX1_addStar 114 = .ok (.iadd, 1) := by decide +kernel
theorem dX1_addStar_115 : decode cX1_addStar 115 = .ok (.putfield 18, 3) := by decide +kernel
theorem dX1_addStar_118 : decode cX1_addStar 118 = .ok (.return_, 1) := by decide +kernel
theorem oX1_addStar_0 : OKI 9 0 (.aload_n 0, 1, [0], 0, 0, []) := And.intro dX1_addStar_0 (And.intro rfl (rfl))
theorem oX1_addStar_1 : OKI 9 1 (.iload_n 1, 2, [1], 0, 0, []) := And.intro dX1_addStar_1 (And.intro rfl (rfl))
theorem oX1_addStar_2 : OKI 9 2 (.invokevirtual 37, 5, [10, 2, 3, 0, 0, 1], 0, 0, []) := And.intro dX1_addStar_2 (And.intro rfl (And.intro (by decide) (And.intro (by decide) (And.intro mo_X1_lastStarUpTo (And.intro (tm_3 _ (List.mem_of_getElem? (i := 0) rfl) rfl) (And.intro (tm_3 _ (List.mem_of_getElem? (i := 2) rfl) rfl) (And.intro (pm_1 _ (List.mem_of_getElem? (i := 6) rfl)) (Or.inl ⟨(RX1, TX1, 6), rfl, rfl⟩))))))))
theorem oX1_addStar_5 : OKI 9 5 (.istore_n 3, 6, [3], 0, 0, []) := And.intro dX1_addStar_5 (And.intro rfl (And.intro rfl (by decide)))
theorem oX1_addStar_6 : OKI 9 6 (.iload_n 3, 7, [3], 0, 0, []) := And.intro dX1_addStar_6 (And.intro rfl (rfl))
theorem oX1_addStar_7 : OKI 9 7 (.ifCond .lt 21, 10, [28], 0, 0, []) := And.intro dX1_addStar_7 (And.intro rfl (by decide))
theorem oX1_addStar_10 : OKI 9 10 (.aload_n 0, 11, [0], 0, 0, []) := And.intro dX1_addStar_10 (And.intro rfl (rfl))
theorem oX1_addStar_11 : OKI 9 11 (.getfield 9, 14, [2, 2, 2, 101, 0], 0, 0, []) := And.intro dX1_addStar_11 (And.intro rfl (⟨(RX1, TX1, 6), "SpotTimers$Clock", rfl, by decide, tm_2 _ (List.mem_of_getElem? (i := 183) rfl) rfl, Or.inl rfl, rfl, rfl⟩))
theorem oX1_addStar_14 : OKI 9 14 (.iload_n 3, 15, [3], 0, 0, []) := And.intro dX1_addStar_14 (And.intro rfl (rfl))
theorem oX1_addStar_15 : OKI 9 15 (.iaload, 16, [], 0, 0, []) := And.intro dX1_addStar_15 rfl
theorem oX1_addStar_16 : OKI 9 16 (.iload_n 1, 17, [1], 0, 0, []) := And.intro dX1_addStar_16 (And.intro rfl (rfl))
theorem oX1_addStar_17 : OKI 9 17 (.if_icmp .ne 11, 20, [28], 0, 0, []) := And.intro dX1_addStar_17 (And.intro rfl (by decide))
theorem oX1_addStar_20 : OKI 9 20 (.aload_n 0, 21, [0], 0, 0, []) := And.intro dX1_addStar_20 (And.intro rfl (rfl))
theorem oX1_addStar_21 : OKI 9 21 (.getfield 15, 24, [2, 3, 2, 102, 0], 0, 0, []) := And.intro dX1_addStar_21 (And.intro rfl (⟨(RX1, TX1, 6), "SpotTimers$Clock", rfl, by decide, tm_2 _ (List.mem_of_getElem? (i := 184) rfl) rfl, Or.inl rfl, rfl, rfl⟩))
theorem oX1_addStar_24 : OKI 9 24 (.iload_n 3, 25, [3], 0, 0, []) := And.intro dX1_addStar_24 (And.intro rfl (rfl))
theorem oX1_addStar_25 : OKI 9 25 (.iload_n 2, 26, [2], 0, 0, []) := And.intro dX1_addStar_25 (And.intro rfl (rfl))
theorem oX1_addStar_26 : OKI 9 26 (.iastore, 27, [], 0, 0, []) := And.intro dX1_addStar_26 rfl
theorem oX1_addStar_27 : OKI 9 27 (.return_, 28, [], 0, 0, []) := And.intro dX1_addStar_27 rfl
theorem oX1_addStar_28 : OKI 9 28 (.aload_n 0, 29, [0], 0, 0, []) := And.intro dX1_addStar_28 (And.intro rfl (rfl))
theorem oX1_addStar_29 : OKI 9 29 (.getfield 18, 32, [2, 4, 0], 0, 0, []) := And.intro dX1_addStar_29 (And.intro rfl (⟨(RX1, TX1, 6), "SpotTimers$Clock", rfl, by decide, tm_2 _ (List.mem_of_getElem? (i := 185) rfl) rfl, Or.inl rfl, Or.inr (Or.inr (And.intro rfl (Or.inl rfl)))⟩))
theorem oX1_addStar_32 : OKI 9 32 (.bipush 90, 34, [], 90, 0, []) := And.intro dX1_addStar_32 (And.intro rfl (by decide +kernel))
theorem oX1_addStar_34 : OKI 9 34 (.if_icmp .lt 4, 37, [38], 0, 0, []) := And.intro dX1_addStar_34 (And.intro rfl (by decide))
theorem oX1_addStar_37 : OKI 9 37 (.return_, 38, [], 0, 0, []) := And.intro dX1_addStar_37 rfl
theorem oX1_addStar_38 : OKI 9 38 (.aload_n 0, 39, [0], 0, 0, []) := And.intro dX1_addStar_38 (And.intro rfl (rfl))
theorem oX1_addStar_39 : OKI 9 39 (.getfield 18, 42, [2, 4, 0], 0, 0, []) := And.intro dX1_addStar_39 (And.intro rfl (⟨(RX1, TX1, 6), "SpotTimers$Clock", rfl, by decide, tm_2 _ (List.mem_of_getElem? (i := 185) rfl) rfl, Or.inl rfl, Or.inr (Or.inr (And.intro rfl (Or.inl rfl)))⟩))
theorem oX1_addStar_42 : OKI 9 42 (.istore 4, 44, [4], 0, 0, []) := And.intro dX1_addStar_42 (And.intro rfl (And.intro rfl (by decide)))
theorem oX1_addStar_44 : OKI 9 44 (.iload 4, 46, [4], 0, 0, []) := And.intro dX1_addStar_44 (And.intro rfl (rfl))
theorem oX1_addStar_46 : OKI 9 46 (.iload_n 3, 47, [3], 0, 0, []) := And.intro dX1_addStar_46 (And.intro rfl (rfl))
theorem oX1_addStar_47 : OKI 9 47 (.iconst 1, 48, [], 1, 0, []) := And.intro dX1_addStar_47 (And.intro rfl (by decide +kernel))
theorem oX1_addStar_48 : OKI 9 48 (.iadd, 49, [], 0, 0, []) := And.intro dX1_addStar_48 rfl
theorem oX1_addStar_49 : OKI 9 49 (.if_icmp .le 41, 52, [90], 0, 0, []) := And.intro dX1_addStar_49 (And.intro rfl (by decide))
theorem oX1_addStar_52 : OKI 9 52 (.aload_n 0, 53, [0], 0, 0, []) := And.intro dX1_addStar_52 (And.intro rfl (rfl))
theorem oX1_addStar_53 : OKI 9 53 (.getfield 9, 56, [2, 2, 2, 101, 0], 0, 0, []) := And.intro dX1_addStar_53 (And.intro rfl (⟨(RX1, TX1, 6), "SpotTimers$Clock", rfl, by decide, tm_2 _ (List.mem_of_getElem? (i := 183) rfl) rfl, Or.inl rfl, rfl, rfl⟩))
theorem oX1_addStar_56 : OKI 9 56 (.iload 4, 58, [4], 0, 0, []) := And.intro dX1_addStar_56 (And.intro rfl (rfl))
theorem oX1_addStar_58 : OKI 9 58 (.aload_n 0, 59, [0], 0, 0, []) := And.intro dX1_addStar_58 (And.intro rfl (rfl))
theorem oX1_addStar_59 : OKI 9 59 (.getfield 9, 62, [2, 2, 2, 101, 0], 0, 0, []) := And.intro dX1_addStar_59 (And.intro rfl (⟨(RX1, TX1, 6), "SpotTimers$Clock", rfl, by decide, tm_2 _ (List.mem_of_getElem? (i := 183) rfl) rfl, Or.inl rfl, rfl, rfl⟩))
theorem oX1_addStar_62 : OKI 9 62 (.iload 4, 64, [4], 0, 0, []) := And.intro dX1_addStar_62 (And.intro rfl (rfl))
theorem oX1_addStar_64 : OKI 9 64 (.iconst 1, 65, [], 1, 0, []) := And.intro dX1_addStar_64 (And.intro rfl (by decide +kernel))
theorem oX1_addStar_65 : OKI 9 65 (.isub, 66, [], 0, 0, []) := And.intro dX1_addStar_65 rfl
theorem oX1_addStar_66 : OKI 9 66 (.iaload, 67, [], 0, 0, []) := And.intro dX1_addStar_66 rfl
theorem oX1_addStar_67 : OKI 9 67 (.iastore, 68, [], 0, 0, []) := And.intro dX1_addStar_67 rfl
theorem oX1_addStar_68 : OKI 9 68 (.aload_n 0, 69, [0], 0, 0, []) := And.intro dX1_addStar_68 (And.intro rfl (rfl))
theorem oX1_addStar_69 : OKI 9 69 (.getfield 15, 72, [2, 3, 2, 102, 0], 0, 0, []) := And.intro dX1_addStar_69 (And.intro rfl (⟨(RX1, TX1, 6), "SpotTimers$Clock", rfl, by decide, tm_2 _ (List.mem_of_getElem? (i := 184) rfl) rfl, Or.inl rfl, rfl, rfl⟩))
theorem oX1_addStar_72 : OKI 9 72 (.iload 4, 74, [4], 0, 0, []) := And.intro dX1_addStar_72 (And.intro rfl (rfl))
theorem oX1_addStar_74 : OKI 9 74 (.aload_n 0, 75, [0], 0, 0, []) := And.intro dX1_addStar_74 (And.intro rfl (rfl))
theorem oX1_addStar_75 : OKI 9 75 (.getfield 15, 78, [2, 3, 2, 102, 0], 0, 0, []) := And.intro dX1_addStar_75 (And.intro rfl (⟨(RX1, TX1, 6), "SpotTimers$Clock", rfl, by decide, tm_2 _ (List.mem_of_getElem? (i := 184) rfl) rfl, Or.inl rfl, rfl, rfl⟩))
theorem oX1_addStar_78 : OKI 9 78 (.iload 4, 80, [4], 0, 0, []) := And.intro dX1_addStar_78 (And.intro rfl (rfl))
theorem oX1_addStar_80 : OKI 9 80 (.iconst 1, 81, [], 1, 0, []) := And.intro dX1_addStar_80 (And.intro rfl (by decide +kernel))
theorem oX1_addStar_81 : OKI 9 81 (.isub, 82, [], 0, 0, []) := And.intro dX1_addStar_81 rfl
theorem oX1_addStar_82 : OKI 9 82 (.iaload, 83, [], 0, 0, []) := And.intro dX1_addStar_82 rfl
theorem oX1_addStar_83 : OKI 9 83 (.iastore, 84, [], 0, 0, []) := And.intro dX1_addStar_83 rfl
theorem oX1_addStar_84 : OKI 9 84 (.iinc 4 (-1), 87, [4], (-1), 0, []) := And.intro dX1_addStar_84 (And.intro rfl (And.intro rfl (And.intro (by decide +kernel) (by decide))))
theorem oX1_addStar_87 : OKI 9 87 (.goto (-43), 90, [44], 0, 0, []) := And.intro dX1_addStar_87 (And.intro rfl (by decide))
theorem oX1_addStar_90 : OKI 9 90 (.aload_n 0, 91, [0], 0, 0, []) := And.intro dX1_addStar_90 (And.intro rfl (rfl))
theorem oX1_addStar_91 : OKI 9 91 (.getfield 9, 94, [2, 2, 2, 101, 0], 0, 0, []) := And.intro dX1_addStar_91 (And.intro rfl (⟨(RX1, TX1, 6), "SpotTimers$Clock", rfl, by decide, tm_2 _ (List.mem_of_getElem? (i := 183) rfl) rfl, Or.inl rfl, rfl, rfl⟩))
theorem oX1_addStar_94 : OKI 9 94 (.iload_n 3, 95, [3], 0, 0, []) := And.intro dX1_addStar_94 (And.intro rfl (rfl))
theorem oX1_addStar_95 : OKI 9 95 (.iconst 1, 96, [], 1, 0, []) := And.intro dX1_addStar_95 (And.intro rfl (by decide +kernel))
theorem oX1_addStar_96 : OKI 9 96 (.iadd, 97, [], 0, 0, []) := And.intro dX1_addStar_96 rfl
theorem oX1_addStar_97 : OKI 9 97 (.iload_n 1, 98, [1], 0, 0, []) := And.intro dX1_addStar_97 (And.intro rfl (rfl))
theorem oX1_addStar_98 : OKI 9 98 (.iastore, 99, [], 0, 0, []) := And.intro dX1_addStar_98 rfl
theorem oX1_addStar_99 : OKI 9 99 (.aload_n 0, 100, [0], 0, 0, []) := And.intro dX1_addStar_99 (And.intro rfl (rfl))
theorem oX1_addStar_100 : OKI 9 100 (.getfield 15, 103, [2, 3, 2, 102, 0], 0, 0, []) := And.intro dX1_addStar_100 (And.intro rfl (⟨(RX1, TX1, 6), "SpotTimers$Clock", rfl, by decide, tm_2 _ (List.mem_of_getElem? (i := 184) rfl) rfl, Or.inl rfl, rfl, rfl⟩))
theorem oX1_addStar_103 : OKI 9 103 (.iload_n 3, 104, [3], 0, 0, []) := And.intro dX1_addStar_103 (And.intro rfl (rfl))
theorem oX1_addStar_104 : OKI 9 104 (.iconst 1, 105, [], 1, 0, []) := And.intro dX1_addStar_104 (And.intro rfl (by decide +kernel))
theorem oX1_addStar_105 : OKI 9 105 (.iadd, 106, [], 0, 0, []) := And.intro dX1_addStar_105 rfl
theorem oX1_addStar_106 : OKI 9 106 (.iload_n 2, 107, [2], 0, 0, []) := And.intro dX1_addStar_106 (And.intro rfl (rfl))
theorem oX1_addStar_107 : OKI 9 107 (.iastore, 108, [], 0, 0, []) := And.intro dX1_addStar_107 rfl
theorem oX1_addStar_108 : OKI 9 108 (.aload_n 0, 109, [0], 0, 0, []) := And.intro dX1_addStar_108 (And.intro rfl (rfl))
theorem oX1_addStar_109 : OKI 9 109 (.dup, 110, [], 0, 0, []) := And.intro dX1_addStar_109 rfl
theorem oX1_addStar_110 : OKI 9 110 (.getfield 18, 113, [2, 4, 0], 0, 0, []) := And.intro dX1_addStar_110 (And.intro rfl (⟨(RX1, TX1, 6), "SpotTimers$Clock", rfl, by decide, tm_2 _ (List.mem_of_getElem? (i := 185) rfl) rfl, Or.inl rfl, Or.inr (Or.inr (And.intro rfl (Or.inl rfl)))⟩))
theorem oX1_addStar_113 : OKI 9 113 (.iconst 1, 114, [], 1, 0, []) := And.intro dX1_addStar_113 (And.intro rfl (by decide +kernel))
theorem oX1_addStar_114 : OKI 9 114 (.iadd, 115, [], 0, 0, []) := And.intro dX1_addStar_114 rfl
theorem oX1_addStar_115 : OKI 9 115 (.putfield 18, 118, [2, 4, 0], 0, 0, []) := And.intro dX1_addStar_115 (And.intro rfl (⟨(RX1, TX1, 6), "SpotTimers$Clock", rfl, by decide, tm_2 _ (List.mem_of_getElem? (i := 185) rfl) rfl, Or.inl rfl, Or.inl rfl, rfl⟩))
theorem oX1_addStar_118 : OKI 9 118 (.return_, 119, [], 0, 0, []) := And.intro dX1_addStar_118 rfl
def pfX1_addStar (pc : Nat) : Option XE := (bif Nat.blt pc 64 then (bif Nat.blt pc 28 then (bif Nat.blt pc 15 then (bif Nat.blt pc 6 then (bif Nat.blt pc 2 then (bif Nat.blt pc 1 then (bif Nat.beq pc 0 then some (.aload_n 0, 1, [0], 0, 0, []) else none) else (bif Nat.beq pc 1 then some (.iload_n 1, 2, [1], 0, 0, []) else none)) else (bif Nat.blt pc 5 then (bif Nat.beq pc 2 then some (.invokevirtual 37, 5, [10, 2, 3, 0, 0, 1], 0, 0, []) else none) else (bif Nat.beq pc 5 then some (.istore_n 3, 6, [3], 0, 0, []) else none))) else (bif Nat.blt pc 10 then (bif Nat.blt pc 7 then (bif Nat.beq pc 6 then some (.iload_n 3, 7, [3], 0, 0, []) else none) else (bif Nat.beq pc 7 then some (.ifCond .lt 21, 10, [28], 0, 0, []) else none)) else (bif Nat.blt pc 11 then (bif Nat.beq pc 10 then some (.aload_n 0, 11, [0], 0, 0, []) else none) else (bif Nat.blt pc 14 then (bif Nat.beq pc 11 then some (.getfield 9, 14, [2, 2, 2, 101, 0], 0, 0, []) else none) else (bif Nat.beq pc 14 then some (.iload_n 3, 15, [3], 0, 0, []) else none))))) else (bif Nat.blt pc 21 then (bif Nat.blt pc 17 then (bif Nat.blt pc 16 then (bif Nat.beq pc 15 then some (.iaload, 16, [], 0, 0, []) else none) else (bif Nat.beq pc 16 then some (.iload_n 1, 17, [1], 0, 0, []) else none)) else (bif Nat.blt pc 20 then (bif Nat.beq pc 17 then some (.if_icmp .ne 11, 20, [28], 0, 0, []) else none) else (bif Nat.beq pc 20 then some (.aload_n 0, 21, [0], 0, 0, []) else none))) else (bif Nat.blt pc 25 then (bif Nat.blt pc 24 then (bif Nat.beq pc 21 then some (.getfield 15, 24, [2, 3, 2, 102, 0], 0, 0, []) else none) else (bif Nat.beq pc 24 then some (.iload_n 3, 25, [3], 0, 0, []) else none)) else (bif Nat.blt pc 26 then (bif Nat.beq pc 25 then some (.iload_n 2, 26, [2], 0, 0, []) else none) else (bif Nat.blt pc 27 then (bif Nat.beq pc 26 then some (.iastore, 27, [], 0, 0, []) else none) else (bif Nat.beq pc 27 then some (.return_, 28, [], 0, 0, []) else none)))))) else (bif Nat.blt pc 46 then (bif Nat.blt pc 37 then (bif Nat.blt pc 32 then (bif Nat.blt pc 29 then (bif Nat.beq pc 28 then some (.aload_n 0, 29, [0], 0, 0, []) else none) else (bif Nat.beq pc 29 then some (.getfield 18, 32, [2, 4, 0], 0, 0, []) else none)) else (bif Nat.blt pc 34 then (bif Nat.beq pc 32 then some (.bipush 90, 34, [], 90, 0, []) else none) else (bif Nat.beq pc 34 then some (.if_icmp .lt 4, 37, [38], 0, 0, []) else none))) else (bif Nat.blt pc 39 then (bif Nat.blt pc 38 then (bif Nat.beq pc 37 then some (.return_, 38, [], 0, 0, []) else none) else (bif Nat.beq pc 38 then some (.aload_n 0, 39, [0], 0, 0, []) else none)) else (bif Nat.blt pc 42 then (bif Nat.beq pc 39 then some (.getfield 18, 42, [2, 4, 0], 0, 0, []) else none) else (bif Nat.blt pc 44 then (bif Nat.beq pc 42 then some (.istore 4, 44, [4], 0, 0, []) else none) else (bif Nat.beq pc 44 then some (.iload 4, 46, [4], 0, 0, []) else none))))) else (bif Nat.blt pc 53 then (bif Nat.blt pc 48 then (bif Nat.blt pc 47 then (bif Nat.beq pc 46 then some (.iload_n 3, 47, [3], 0, 0, []) else none) else (bif Nat.beq pc 47 then some (.iconst 1, 48, [], 1, 0, []) else none)) else (bif Nat.blt pc 49 then (bif Nat.beq pc 48 then some (.iadd, 49, [], 0, 0, []) else none) else (bif Nat.blt pc 52 then (bif Nat.beq pc 49 then some (.if_icmp .le 41, 52, [90], 0, 0, []) else none) else (bif Nat.beq pc 52 then some (.aload_n 0, 53, [0], 0, 0, []) else none)))) else (bif Nat.blt pc 58 then (bif Nat.blt pc 56 then (bif Nat.beq pc 53 then some (.getfield 9, 56, [2, 2, 2, 101, 0], 0, 0, []) else none) else (bif Nat.beq pc 56 then some (.iload 4, 58, [4], 0, 0, []) else none)) else (bif Nat.blt pc 59 then (bif Nat.beq pc 58 then some (.aload_n 0, 59, [0], 0, 0, []) else none) else (bif Nat.blt pc 62 then (bif Nat.beq pc 59 then some (.getfield 9, 62, [2, 2, 2, 101, 0], 0, 0, []) else none) else (bif Nat.beq pc 62 then some (.iload 4, 64, [4], 0, 0, []) else none))))))) else (bif Nat.blt pc 94 then (bif Nat.blt pc 78 then (bif Nat.blt pc 68 then (bif Nat.blt pc 66 then (bif Nat.blt pc 65 then (bif Nat.beq pc 64 then some (.iconst 1, 65, [], 1, 0, []) else none) else (bif Nat.beq pc 65 then some (.isub, 66, [], 0, 0, []) else none)) else (bif Nat.blt pc 67 then (bif Nat.beq pc 66 then some (.iaload, 67, [], 0, 0, []) else none) else (bif Nat.beq pc 67 then some (.iastore, 68, [], 0, 0, []) else none))) else (bif Nat.blt pc 72 then (bif Nat.blt pc 69 then (bif Nat.beq pc 68 then some (.aload_n 0, 69, [0], 0, 0, []) else none) else (bif Nat.beq pc 69 then some (.getfield 15, 72, [2, 3, 2, 102, 0], 0, 0, []) else none)) else (bif Nat.blt pc 74 then (bif Nat.beq pc 72 then some (.iload 4, 74, [4], 0, 0, []) else none) else (bif Nat.blt pc 75 then (bif Nat.beq pc 74 then some (.aload_n 0, 75, [0], 0, 0, []) else none) else (bif Nat.beq pc 75 then some (.getfield 15, 78, [2, 3, 2, 102, 0], 0, 0, []) else none))))) else (bif Nat.blt pc 83 then (bif Nat.blt pc 81 then (bif Nat.blt pc 80 then (bif Nat.beq pc 78 then some (.iload 4, 80, [4], 0, 0, []) else none) else (bif Nat.beq pc 80 then some (.iconst 1, 81, [], 1, 0, []) else none)) else (bif Nat.blt pc 82 then (bif Nat.beq pc 81 then some (.isub, 82, [], 0, 0, []) else none) else (bif Nat.beq pc 82 then some (.iaload, 83, [], 0, 0, []) else none))) else (bif Nat.blt pc 87 then (bif Nat.blt pc 84 then (bif Nat.beq pc 83 then some (.iastore, 84, [], 0, 0, []) else none) else (bif Nat.beq pc 84 then some (.iinc 4 (-1), 87, [4], (-1), 0, []) else none)) else (bif Nat.blt pc 90 then (bif Nat.beq pc 87 then some (.goto (-43), 90, [44], 0, 0, []) else none) else (bif Nat.blt pc 91 then (bif Nat.beq pc 90 then some (.aload_n 0, 91, [0], 0, 0, []) else none) else (bif Nat.beq pc 91 then some (.getfield 9, 94, [2, 2, 2, 101, 0], 0, 0, []) else none)))))) else (bif Nat.blt pc 105 then (bif Nat.blt pc 98 then (bif Nat.blt pc 96 then (bif Nat.blt pc 95 then (bif Nat.beq pc 94 then some (.iload_n 3, 95, [3], 0, 0, []) else none) else (bif Nat.beq pc 95 then some (.iconst 1, 96, [], 1, 0, []) else none)) else (bif Nat.blt pc 97 then (bif Nat.beq pc 96 then some (.iadd, 97, [], 0, 0, []) else none) else (bif Nat.beq pc 97 then some (.iload_n 1, 98, [1], 0, 0, []) else none))) else (bif Nat.blt pc 100 then (bif Nat.blt pc 99 then (bif Nat.beq pc 98 then some (.iastore, 99, [], 0, 0, []) else none) else (bif Nat.beq pc 99 then some (.aload_n 0, 100, [0], 0, 0, []) else none)) else (bif Nat.blt pc 103 then (bif Nat.beq pc 100 then some (.getfield 15, 103, [2, 3, 2, 102, 0], 0, 0, []) else none) else (bif Nat.blt pc 104 then (bif Nat.beq pc 103 then some (.iload_n 3, 104, [3], 0, 0, []) else none) else (bif Nat.beq pc 104 then some (.iconst 1, 105, [], 1, 0, []) else none))))) else (bif Nat.blt pc 110 then (bif Nat.blt pc 107 then (bif Nat.blt pc 106 then (bif Nat.beq pc 105 then some (.iadd, 106, [], 0, 0, []) else none) else (bif Nat.beq pc 106 then some (.iload_n 2, 107, [2], 0, 0, []) else none)) else (bif Nat.blt pc 108 then (bif Nat.beq pc 107 then some (.iastore, 108, [], 0, 0, []) else none) else (bif Nat.blt pc 109 then (bif Nat.beq pc 108 then some (.aload_n 0, 109, [0], 0, 0, []) else none) else (bif Nat.beq pc 109 then some (.dup, 110, [], 0, 0, []) else none)))) else (bif Nat.blt pc 114 then (bif Nat.blt pc 113 then (bif Nat.beq pc 110 then some (.getfield 18, 113, [2, 4, 0], 0, 0, []) else none) else (bif Nat.beq pc 113 then some (.iconst 1, 114, [], 1, 0, []) else none)) else (bif Nat.blt pc 115 then (bif Nat.beq pc 114 then some (.iadd, 115, [], 0, 0, []) else none) else (bif Nat.blt pc 118 then (bif Nat.beq pc 115 then some (.putfield 18, 118, [2, 4, 0], 0, 0, []) else none) else (bif Nat.beq pc 118 then some (.return_, 119, [], 0, 0, []) else none))))))))
theorem okX1_addStar : ∀ pc Y, pfX1_addStar pc = some Y → OKI m_X1_addStar pc Y := fun pc Y => ((bt_node (bt_node (bt_node (bt_node (bt_node (bt_node (bt_leaf (P := OKI m_X1_addStar) oX1_addStar_0) (bt_leaf (P := OKI m_X1_addStar) oX1_addStar_1)) (bt_node (bt_leaf (P := OKI m_X1_addStar) oX1_addStar_2) (bt_leaf (P := OKI m_X1_addStar) oX1_addStar_5))) (bt_node (bt_node (bt_leaf (P := OKI m_X1_addStar) oX1_addStar_6) (bt_leaf (P := OKI m_X1_addStar) oX1_addStar_7)) (bt_node (bt_leaf (P := OKI m_X1_addStar) oX1_addStar_10) (bt_node (bt_leaf (P := OKI m_X1_addStar) oX1_addStar_11) (bt_leaf (P := OKI m_X1_addStar) oX1_addStar_14))))) (bt_node (bt_node (bt_node (bt_leaf (P := OKI m_X1_addStar) oX1_addStar_15) (bt_leaf (P := OKI m_X1_addStar) oX1_addStar_16)) (bt_node (bt_leaf (P := OKI m_X1_addStar) oX1_addStar_17) (bt_leaf (P := OKI m_X1_addStar) oX1_addStar_20))) (bt_node (bt_node (bt_leaf (P := OKI m_X1_addStar) oX1_addStar_21) (bt_leaf (P := OKI m_X1_addStar) oX1_addStar_24)) (bt_node (bt_leaf (P := OKI m_X1_addStar) oX1_addStar_25) (bt_node (bt_leaf (P := OKI m_X1_addStar) oX1_addStar_26) (bt_leaf (P := OKI m_X1_addStar) oX1_addStar_27)))))) (bt_node (bt_node (bt_node (bt_node (bt_leaf (P := OKI m_X1_addStar) oX1_addStar_28) (bt_leaf (P := OKI m_X1_addStar) oX1_addStar_29)) (bt_node (bt_leaf (P := OKI m_X1_addStar) oX1_addStar_32) (bt_leaf (P := OKI m_X1_addStar) oX1_addStar_34))) (bt_node (bt_node (bt_leaf (P := OKI m_X1_addStar) oX1_addStar_37) (bt_leaf (P := OKI m_X1_addStar) oX1_addStar_38)) (bt_node (bt_leaf (P := OKI m_X1_addStar) oX1_addStar_39) (bt_node (bt_leaf (P := OKI m_X1_addStar) oX1_addStar_42) (bt_leaf (P := OKI m_X1_addStar) oX1_addStar_44))))) (bt_node (bt_node (bt_node (bt_leaf (P := OKI m_X1_addStar) oX1_addStar_46) (bt_leaf (P := OKI m_X1_addStar) oX1_addStar_47)) (bt_node (bt_leaf (P := OKI m_X1_addStar) oX1_addStar_48) (bt_node (bt_leaf (P := OKI m_X1_addStar) oX1_addStar_49) (bt_leaf (P := OKI m_X1_addStar) oX1_addStar_52)))) (bt_node (bt_node (bt_leaf (P := OKI m_X1_addStar) oX1_addStar_53) (bt_leaf (P := OKI m_X1_addStar) oX1_addStar_56)) (bt_node (bt_leaf (P := OKI m_X1_addStar) oX1_addStar_58) (bt_node (bt_leaf (P := OKI m_X1_addStar) oX1_addStar_59) (bt_leaf (P := OKI m_X1_addStar) oX1_addStar_62))))))) (bt_node (bt_node (bt_node (bt_node (bt_node (bt_leaf (P := OKI m_X1_addStar) oX1_addStar_64) (bt_leaf (P := OKI m_X1_addStar) oX1_addStar_65)) (bt_node (bt_leaf (P := OKI m_X1_addStar) oX1_addStar_66) (bt_leaf (P := OKI m_X1_addStar) oX1_addStar_67))) (bt_node (bt_node (bt_leaf (P := OKI m_X1_addStar) oX1_addStar_68) (bt_leaf (P := OKI m_X1_addStar) oX1_addStar_69)) (bt_node (bt_leaf (P := OKI m_X1_addStar) oX1_addStar_72) (bt_node (bt_leaf (P := OKI m_X1_addStar) oX1_addStar_74) (bt_leaf (P := OKI m_X1_addStar) oX1_addStar_75))))) (bt_node (bt_node (bt_node (bt_leaf (P := OKI m_X1_addStar) oX1_addStar_78) (bt_leaf (P := OKI m_X1_addStar) oX1_addStar_80)) (bt_node (bt_leaf (P := OKI m_X1_addStar) oX1_addStar_81) (bt_leaf (P := OKI m_X1_addStar) oX1_addStar_82))) (bt_node (bt_node (bt_leaf (P := OKI m_X1_addStar) oX1_addStar_83) (bt_leaf (P := OKI m_X1_addStar) oX1_addStar_84)) (bt_node (bt_leaf (P := OKI m_X1_addStar) oX1_addStar_87) (bt_node (bt_leaf (P := OKI m_X1_addStar) oX1_addStar_90) (bt_leaf (P := OKI m_X1_addStar) oX1_addStar_91)))))) (bt_node (bt_node (bt_node (bt_node (bt_leaf (P := OKI m_X1_addStar) oX1_addStar_94) (bt_leaf (P := OKI m_X1_addStar) oX1_addStar_95)) (bt_node (bt_leaf (P := OKI m_X1_addStar) oX1_addStar_96) (bt_leaf (P := OKI m_X1_addStar) oX1_addStar_97))) (bt_node (bt_node (bt_leaf (P := OKI m_X1_addStar) oX1_addStar_98) (bt_leaf (P := OKI m_X1_addStar) oX1_addStar_99)) (bt_node (bt_leaf (P := OKI m_X1_addStar) oX1_addStar_100) (bt_node (bt_leaf (P := OKI m_X1_addStar) oX1_addStar_103) (bt_leaf (P := OKI m_X1_addStar) oX1_addStar_104))))) (bt_node (bt_node (bt_node (bt_leaf (P := OKI m_X1_addStar) oX1_addStar_105) (bt_leaf (P := OKI m_X1_addStar) oX1_addStar_106)) (bt_node (bt_leaf (P := OKI m_X1_addStar) oX1_addStar_107) (bt_node (bt_leaf (P := OKI m_X1_addStar) oX1_addStar_108) (bt_leaf (P := OKI m_X1_addStar) oX1_addStar_109)))) (bt_node (bt_node (bt_leaf (P := OKI m_X1_addStar) oX1_addStar_110) (bt_leaf (P := OKI m_X1_addStar) oX1_addStar_113)) (bt_node (bt_leaf (P := OKI m_X1_addStar) oX1_addStar_114) (bt_node (bt_leaf (P := OKI m_X1_addStar) oX1_addStar_115) (bt_leaf (P := OKI m_X1_addStar) oX1_addStar_118)))))))) : pfX1_addStar pc = some Y → OKI m_X1_addStar pc Y)
def stpX1_addStar (pc : Nat) : Option (List Bool) := (bif Nat.blt pc 44 then (bif Nat.beq pc 28 then some [true, true, true, true, false] else none) else (bif Nat.beq pc 44 then some [true, true, true, true, true] else none))
def bX1_addStar_0 (d rc rs : Nat) (t : Nat) (a1 : Int32) (a2 : Int32) (σ : XH) (Q : XV → XH → Prop) : Prop :=
  ((1 ≤ d ∧ Ec (d - 1) 0 0 m_X1_lastStarUpTo [vR (some (2, t)), vI a1] σ (kI fun x2 h1 => ((x2 < 0 → Ex d rc rs m_X1_addStar 28 [vR (some (2, t)), vI a1, vI a2, vI x2, vU] [] h1 Q) ∧ (¬ x2 < 0 → ((hr h1 2 t 2 = some (101, t) ∧ ((vp_in x2 (hn h1 101 t) ∧ (((hi h1 101 t x2.toNatClampNeg) = a1 → ((hr h1 2 t 3 = some (102, t) ∧ ((vp_in x2 (hn h1 102 t) ∧ (∀ h3, h3 = wI h1 102 t x2.toNatClampNeg a2 → Q vU h3)))))) ∧ (¬ (hi h1 101 t x2.toNatClampNeg) = a1 → Ex d rc rs m_X1_addStar 28 [vR (some (2, t)), vI a1, vI a2, vI x2, vU] [] h1 Q)))))))))))
theorem sX1_addStar_0 {d rc rs : Nat} {t : Nat} {a1 : Int32} {a2 : Int32} {σ : XH} {Q : XV → XH → Prop} (h : bX1_addStar_0 d rc rs t a1 a2 σ Q) : Ex d rc rs m_X1_addStar 0 [vR (some (2, t)), vI a1, vI a2, vU, vU] [] σ Q :=
  xtree_sound (stop := stpX1_addStar) okX1_addStar 20 _ _ _ _ _ _ h
def bX1_addStar_28 (d rc rs : Nat) (t : Nat) (l1 : Int32) (l2 : Int32) (l3 : Int32) (σ : XH) (Q : XV → XH → Prop) : Prop :=
  ((((hi σ 2 t 4) < 90 → (Ex d rc rs m_X1_addStar 44 [vR (some (2, t)), vI l1, vI l2, vI l3, vI (hi σ 2 t 4)] [] σ Q)) ∧ (¬ (hi σ 2 t 4) < 90 → Q vU σ)))
theorem sX1_addStar_28 {d rc rs : Nat} {t : Nat} {l1 : Int32} {l2 : Int32} {l3 : Int32} {σ : XH} {Q : XV → XH → Prop} (h : bX1_addStar_28 d rc rs t l1 l2 l3 σ Q) : Ex d rc rs m_X1_addStar 28 [vR (some (2, t)), vI l1, vI l2, vI l3, vU] [] σ Q :=
  xtree_sound (stop := stpX1_addStar) okX1_addStar 9 _ _ _ _ _ _ h
def bX1_addStar_44 (d rc rs : Nat) (t : Nat) (l1 : Int32) (l2 : Int32) (l3 : Int32) (l4 : Int32) (σ : XH) (Q : XV → XH → Prop) : Prop :=
  (((l3 + 1) < l4 → ((hr σ 2 t 2 = some (101, t) ∧ ((hr σ 2 t 2 = some (101, t) ∧ ((vp_in (l4 - 1) (hn σ 101 t) ∧ ((vp_in l4 (hn σ 101 t) ∧ (∀ h4, h4 = wI σ 101 t l4.toNatClampNeg (hi σ 101 t (l4 - 1).toNatClampNeg) → ((hr h4 2 t 3 = some (102, t) ∧ ((hr h4 2 t 3 = some (102, t) ∧ ((vp_in (l4 - 1) (hn h4 102 t) ∧ ((vp_in l4 (hn h4 102 t) ∧ (∀ h5, h5 = wI h4 102 t l4.toNatClampNeg (hi h4 102 t (l4 - 1).toNatClampNeg) → Ex d rc rs m_X1_addStar 44 [vR (some (2, t)), vI l1, vI l2, vI l3, vI (l4 + (-1))] [] h5 Q))))))))))))))))))) ∧ (¬ (l3 + 1) < l4 → ((hr σ 2 t 2 = some (101, t) ∧ ((vp_in (l3 + 1) (hn σ 101 t) ∧ (∀ h1, h1 = wI σ 101 t (l3 + 1).toNatClampNeg l1 → ((hr h1 2 t 3 = some (102, t) ∧ ((vp_in (l3 + 1) (hn h1 102 t) ∧ (∀ h2, h2 = wI h1 102 t (l3 + 1).toNatClampNeg l2 → (((∀ h3, h3 = wI h2 2 t 4 ((hi h2 2 t 4) + 1) → Q vU h3)))))))))))))))
theorem sX1_addStar_44 {d rc rs : Nat} {t : Nat} {l1 : Int32} {l2 : Int32} {l3 : Int32} {l4 : Int32} {σ : XH} {Q : XV → XH → Prop} (h : bX1_addStar_44 d rc rs t l1 l2 l3 l4 σ Q) : Ex d rc rs m_X1_addStar 44 [vR (some (2, t)), vI l1, vI l2, vI l3, vI l4] [] σ Q :=
  xtree_sound (stop := stpX1_addStar) okX1_addStar 29 _ _ _ _ _ _ h
/-! SpotTimers$Clock.lastStarUpTo(I)I -/
theorem dX1_lastStarUpTo_0 : decode cX1_lastStarUpTo 0 = .ok (.iconst (-1), 1) := by decide +kernel
theorem dX1_lastStarUpTo_1 : decode cX1_lastStarUpTo 1 = .ok (.istore_n 2, 1) := by decide +kernel
theorem dX1_lastStarUpTo_2 : decode cX1_lastStarUpTo 2 = .ok (.iconst 0, 1) := by decide +kernel
theorem dX1_lastStarUpTo_3 : decode cX1_lastStarUpTo 3 = .ok (.istore_n 3, 1) := by decide +kernel
theorem dX1_lastStarUpTo_4 : decode cX1_lastStarUpTo 4 = .ok (.iload_n 3, 1) := by decide +kernel
theorem dX1_lastStarUpTo_5 : decode cX1_lastStarUpTo 5 = .ok (.aload_n 0, 1) := by decide +kernel
theorem dX1_lastStarUpTo_6 : decode cX1_lastStarUpTo 6 = .ok (.getfield 18, 3) := by decide +kernel
theorem dX1_lastStarUpTo_9 : decode cX1_lastStarUpTo 9 = .ok (.if_icmp .ge 21, 3) := by decide +kernel
theorem dX1_lastStarUpTo_12 : decode cX1_lastStarUpTo 12 = .ok (.aload_n 0, 1) := by decide +kernel
theorem dX1_lastStarUpTo_13 : decode cX1_lastStarUpTo 13 = .ok (.getfield 9, 3) := by decide +kernel
theorem dX1_lastStarUpTo_16 : decode cX1_lastStarUpTo 16 = .ok (.iload_n 3, 1) := by decide +kernel
theorem dX1_lastStarUpTo_17 : decode cX1_lastStarUpTo 17 = .ok (.iaload, 1) := by decide +kernel
theorem dX1_lastStarUpTo_18 : decode cX1_lastStarUpTo 18 = .ok (.iload_n 1, 1) := by decide +kernel
theorem dX1_lastStarUpTo_19 : decode cX1_lastStarUpTo 19 = .ok (.if_icmp .gt 11, 3) := by decide +kernel
theorem dX1_lastStarUpTo_22 : decode cX1_lastStarUpTo 22 = .ok (.iload_n 3, 1) := by decide +kernel
theorem dX1_lastStarUpTo_23 : decode cX1_lastStarUpTo 23 = .ok (.istore_n 2, 1) := by decide +kernel
theorem dX1_lastStarUpTo_24 : decode cX1_lastStarUpTo 24 = .ok (.iinc 3 1, 3) := by decide +kernel
theorem dX1_lastStarUpTo_27 : decode cX1_lastStarUpTo 27 = .ok (.goto (-23), 3) := by decide +kernel
theorem dX1_lastStarUpTo_30 : decode cX1_lastStarUpTo 30 = .ok (.iload_n 2, 1) := by decide +kernel
theorem dX1_lastStarUpTo_31 : decode cX1_lastStarUpTo 31 = .ok (.ireturn, 1) := by decide +kernel
theorem oX1_lastStarUpTo_0 : OKI 10 0 (.iconst (-1), 1, [], (-1), 0, []) := And.intro dX1_lastStarUpTo_0 (And.intro rfl (by decide +kernel))
theorem oX1_lastStarUpTo_1 : OKI 10 1 (.istore_n 2, 2, [2], 0, 0, []) := And.intro dX1_lastStarUpTo_1 (And.intro rfl (And.intro rfl (by decide)))
theorem oX1_lastStarUpTo_2 : OKI 10 2 (.iconst 0, 3, [], 0, 0, []) := And.intro dX1_lastStarUpTo_2 (And.intro rfl (by decide +kernel))
theorem oX1_lastStarUpTo_3 : OKI 10 3 (.istore_n 3, 4, [3], 0, 0, []) := And.intro dX1_lastStarUpTo_3 (And.intro rfl (And.intro rfl (by decide)))
theorem oX1_lastStarUpTo_4 : OKI 10 4 (.iload_n 3, 5, [3], 0, 0, []) := And.intro dX1_lastStarUpTo_4 (And.intro rfl (rfl))
theorem oX1_lastStarUpTo_5 : OKI 10 5 (.aload_n 0, 6, [0], 0, 0, []) := And.intro dX1_lastStarUpTo_5 (And.intro rfl (rfl))
theorem oX1_lastStarUpTo_6 : OKI 10 6 (.getfield 18, 9, [2, 4, 0], 0, 0, []) := And.intro dX1_lastStarUpTo_6 (And.intro rfl (⟨(RX1, TX1, 6), "SpotTimers$Clock", rfl, by decide, tm_2 _ (List.mem_of_getElem? (i := 185) rfl) rfl, Or.inl rfl, Or.inr (Or.inr (And.intro rfl (Or.inl rfl)))⟩))
theorem oX1_lastStarUpTo_9 : OKI 10 9 (.if_icmp .ge 21, 12, [30], 0, 0, []) := And.intro dX1_lastStarUpTo_9 (And.intro rfl (by decide))
theorem oX1_lastStarUpTo_12 : OKI 10 12 (.aload_n 0, 13, [0], 0, 0, []) := And.intro dX1_lastStarUpTo_12 (And.intro rfl (rfl))
theorem oX1_lastStarUpTo_13 : OKI 10 13 (.getfield 9, 16, [2, 2, 2, 101, 0], 0, 0, []) := And.intro dX1_lastStarUpTo_13 (And.intro rfl (⟨(RX1, TX1, 6), "SpotTimers$Clock", rfl, by decide, tm_2 _ (List.mem_of_getElem? (i := 183) rfl) rfl, Or.inl rfl, rfl, rfl⟩))
theorem oX1_lastStarUpTo_16 : OKI 10 16 (.iload_n 3, 17, [3], 0, 0, []) := And.intro dX1_lastStarUpTo_16 (And.intro rfl (rfl))
theorem oX1_lastStarUpTo_17 : OKI 10 17 (.iaload, 18, [], 0, 0, []) := And.intro dX1_lastStarUpTo_17 rfl
theorem oX1_lastStarUpTo_18 : OKI 10 18 (.iload_n 1, 19, [1], 0, 0, []) := And.intro dX1_lastStarUpTo_18 (And.intro rfl (rfl))
theorem oX1_lastStarUpTo_19 : OKI 10 19 (.if_icmp .gt 11, 22, [30], 0, 0, []) := And.intro dX1_lastStarUpTo_19 (And.intro rfl (by decide))
theorem oX1_lastStarUpTo_22 : OKI 10 22 (.iload_n 3, 23, [3], 0, 0, []) := And.intro dX1_lastStarUpTo_22 (And.intro rfl (rfl))
theorem oX1_lastStarUpTo_23 : OKI 10 23 (.istore_n 2, 24, [2], 0, 0, []) := And.intro dX1_lastStarUpTo_23 (And.intro rfl (And.intro rfl (by decide)))
theorem oX1_lastStarUpTo_24 : OKI 10 24 (.iinc 3 1, 27, [3], 1, 0, []) := And.intro dX1_lastStarUpTo_24 (And.intro rfl (And.intro rfl (And.intro (by decide +kernel) (by decide))))
theorem oX1_lastStarUpTo_27 : OKI 10 27 (.goto (-23), 30, [4], 0, 0, []) := And.intro dX1_lastStarUpTo_27 (And.intro rfl (by decide))
theorem oX1_lastStarUpTo_30 : OKI 10 30 (.iload_n 2, 31, [2], 0, 0, []) := And.intro dX1_lastStarUpTo_30 (And.intro rfl (rfl))
theorem oX1_lastStarUpTo_31 : OKI 10 31 (.ireturn, 32, [0], 0, 0, []) := And.intro dX1_lastStarUpTo_31 (Or.inl (And.intro rfl rfl))
def pfX1_lastStarUpTo (pc : Nat) : Option XE := (bif Nat.blt pc 16 then (bif Nat.blt pc 5 then (bif Nat.blt pc 2 then (bif Nat.blt pc 1 then (bif Nat.beq pc 0 then some (.iconst (-1), 1, [], (-1), 0, []) else none) else (bif Nat.beq pc 1 then some (.istore_n 2, 2, [2], 0, 0, []) else none)) else (bif Nat.blt pc 3 then (bif Nat.beq pc 2 then some (.iconst 0, 3, [], 0, 0, []) else none) else (bif Nat.blt pc 4 then (bif Nat.beq pc 3 then some (.istore_n 3, 4, [3], 0, 0, []) else none) else (bif Nat.beq pc 4 then some (.iload_n 3, 5, [3], 0, 0, []) else none)))) else (bif Nat.blt pc 9 then (bif Nat.blt pc 6 then (bif Nat.beq pc 5 then some (.aload_n 0, 6, [0], 0, 0, []) else none) else (bif Nat.beq pc 6 then some (.getfield 18, 9, [2, 4, 0], 0, 0, []) else none)) else (bif Nat.blt pc 12 then (bif Nat.beq pc 9 then some (.if_icmp .ge 21, 12, [30], 0, 0, []) else none) else (bif Nat.blt pc 13 then (bif Nat.beq pc 12 then some (.aload_n 0, 13, [0], 0, 0, []) else none) else (bif Nat.beq pc 13 then some (.getfield 9, 16, [2, 2, 2, 101, 0], 0, 0, []) else none))))) else (bif Nat.blt pc 23 then (bif Nat.blt pc 18 then (bif Nat.blt pc 17 then (bif Nat.beq pc 16 then some (.iload_n 3, 17, [3], 0, 0, []) else none) else (bif Nat.beq pc 17 then some (.iaload, 18, [], 0, 0, []) else none)) else (bif Nat.blt pc 19 then (bif Nat.beq pc 18 then some (.iload_n 1, 19, [1], 0, 0, []) else none) else (bif Nat.blt pc 22 then (bif Nat.beq pc 19 then some (.if_icmp .gt 11, 22, [30], 0, 0, []) else none) else (bif Nat.beq pc 22 then some (.iload_n 3, 23, [3], 0, 0, []) else none)))) else (bif Nat.blt pc 27 then (bif Nat.blt pc 24 then (bif Nat.beq pc 23 then some (.istore_n 2, 24, [2], 0, 0, []) else none) else (bif Nat.beq pc 24 then some (.iinc 3 1, 27, [3], 1, 0, []) else none)) else (bif Nat.blt pc 30 then (bif Nat.beq pc 27 then some (.goto (-23), 30, [4], 0, 0, []) else none) else (bif Nat.blt pc 31 then (bif Nat.beq pc 30 then some (.iload_n 2, 31, [2], 0, 0, []) else none) else (bif Nat.beq pc 31 then some (.ireturn, 32, [0], 0, 0, []) else none))))))
theorem okX1_lastStarUpTo : ∀ pc Y, pfX1_lastStarUpTo pc = some Y → OKI m_X1_lastStarUpTo pc Y := fun pc Y => ((bt_node (bt_node (bt_node (bt_node (bt_leaf (P := OKI m_X1_lastStarUpTo) oX1_lastStarUpTo_0) (bt_leaf (P := OKI m_X1_lastStarUpTo) oX1_lastStarUpTo_1)) (bt_node (bt_leaf (P := OKI m_X1_lastStarUpTo) oX1_lastStarUpTo_2) (bt_node (bt_leaf (P := OKI m_X1_lastStarUpTo) oX1_lastStarUpTo_3) (bt_leaf (P := OKI m_X1_lastStarUpTo) oX1_lastStarUpTo_4)))) (bt_node (bt_node (bt_leaf (P := OKI m_X1_lastStarUpTo) oX1_lastStarUpTo_5) (bt_leaf (P := OKI m_X1_lastStarUpTo) oX1_lastStarUpTo_6)) (bt_node (bt_leaf (P := OKI m_X1_lastStarUpTo) oX1_lastStarUpTo_9) (bt_node (bt_leaf (P := OKI m_X1_lastStarUpTo) oX1_lastStarUpTo_12) (bt_leaf (P := OKI m_X1_lastStarUpTo) oX1_lastStarUpTo_13))))) (bt_node (bt_node (bt_node (bt_leaf (P := OKI m_X1_lastStarUpTo) oX1_lastStarUpTo_16) (bt_leaf (P := OKI m_X1_lastStarUpTo) oX1_lastStarUpTo_17)) (bt_node (bt_leaf (P := OKI m_X1_lastStarUpTo) oX1_lastStarUpTo_18) (bt_node (bt_leaf (P := OKI m_X1_lastStarUpTo) oX1_lastStarUpTo_19) (bt_leaf (P := OKI m_X1_lastStarUpTo) oX1_lastStarUpTo_22)))) (bt_node (bt_node (bt_leaf (P := OKI m_X1_lastStarUpTo) oX1_lastStarUpTo_23) (bt_leaf (P := OKI m_X1_lastStarUpTo) oX1_lastStarUpTo_24)) (bt_node (bt_leaf (P := OKI m_X1_lastStarUpTo) oX1_lastStarUpTo_27) (bt_node (bt_leaf (P := OKI m_X1_lastStarUpTo) oX1_lastStarUpTo_30) (bt_leaf (P := OKI m_X1_lastStarUpTo) oX1_lastStarUpTo_31)))))) : pfX1_lastStarUpTo pc = some Y → OKI m_X1_lastStarUpTo pc Y)
def stpX1_lastStarUpTo (pc : Nat) : Option (List Bool) := (bif Nat.blt pc 30 then (bif Nat.beq pc 4 then some [true, true, true, true] else none) else (bif Nat.beq pc 30 then some [false, false, true, false] else none))
def bX1_lastStarUpTo_0 (d rc rs : Nat) (t : Nat) (a1 : Int32) (σ : XH) (Q : XV → XH → Prop) : Prop :=
  Ex d rc rs m_X1_lastStarUpTo 4 [vR (some (2, t)), vI a1, vI (-1), vI 0] [] σ Q
theorem sX1_lastStarUpTo_0 {d rc rs : Nat} {t : Nat} {a1 : Int32} {σ : XH} {Q : XV → XH → Prop} (h : bX1_lastStarUpTo_0 d rc rs t a1 σ Q) : Ex d rc rs m_X1_lastStarUpTo 0 [vR (some (2, t)), vI a1, vU, vU] [] σ Q :=
  xtree_sound (stop := stpX1_lastStarUpTo) okX1_lastStarUpTo 6 _ _ _ _ _ _ h
def bX1_lastStarUpTo_4 (d rc rs : Nat) (t : Nat) (l1 : Int32) (l2 : Int32) (l3 : Int32) (σ : XH) (Q : XV → XH → Prop) : Prop :=
  (((l3 < (hi σ 2 t 4) → ((hr σ 2 t 2 = some (101, t) ∧ ((vp_in l3 (hn σ 101 t) ∧ ((l1 < (hi σ 101 t l3.toNatClampNeg) → Ex d rc rs m_X1_lastStarUpTo 30 [vU, vU, vI l2, vU] [] σ Q) ∧ (¬ l1 < (hi σ 101 t l3.toNatClampNeg) → Ex d rc rs m_X1_lastStarUpTo 4 [vR (some (2, t)), vI l1, vI l3, vI (l3 + 1)] [] σ Q))))))) ∧ (¬ l3 < (hi σ 2 t 4) → Ex d rc rs m_X1_lastStarUpTo 30 [vU, vU, vI l2, vU] [] σ Q)))
theorem sX1_lastStarUpTo_4 {d rc rs : Nat} {t : Nat} {l1 : Int32} {l2 : Int32} {l3 : Int32} {σ : XH} {Q : XV → XH → Prop} (h : bX1_lastStarUpTo_4 d rc rs t l1 l2 l3 σ Q) : Ex d rc rs m_X1_lastStarUpTo 4 [vR (some (2, t)), vI l1, vI l2, vI l3] [] σ Q :=
  xtree_sound (stop := stpX1_lastStarUpTo) okX1_lastStarUpTo 16 _ _ _ _ _ _ h
def bX1_lastStarUpTo_30 (d rc rs : Nat) (l2 : Int32) (σ : XH) (Q : XV → XH → Prop) : Prop :=
  Q (vI l2) σ
theorem sX1_lastStarUpTo_30 {d rc rs : Nat} {l2 : Int32} {σ : XH} {Q : XV → XH → Prop} (h : bX1_lastStarUpTo_30 d rc rs l2 σ Q) : Ex d rc rs m_X1_lastStarUpTo 30 [vU, vU, vI l2, vU] [] σ Q :=
  xtree_sound (stop := stpX1_lastStarUpTo) okX1_lastStarUpTo 4 _ _ _ _ _ _ h
/-! SpotTimers$Clock.trueTime(I)I -/
theorem dX1_trueTime_0 : decode cX1_trueTime 0 = .ok (.aload_n 0, 1) := by decide +kernel
theorem dX1_trueTime_1 : decode cX1_trueTime 1 = .ok (.getfield 18, 3) := by decide +kernel
theorem dX1_trueTime_4 : decode cX1_trueTime 4 = .ok (.ifCond .eq 11, 3) := by decide +kernel
theorem dX1_trueTime_7 : decode cX1_trueTime 7 = .ok (.aload_n 0, 1) := by decide +kernel
theorem dX1_trueTime_8 : decode cX1_trueTime 8 = .ok (.iload_n 1, 1) := by decide +kernel
theorem dX1_trueTime_9 : decode cX1_trueTime 9 = .ok (.invokevirtual 41, 3) := by decide +kernel
theorem dX1_trueTime_12 : decode cX1_trueTime 12 = .ok (.ifCond .ne 6, 3) := by decide +kernel
theorem dX1_trueTime_15 : decode cX1_trueTime 15 = .ok (.ldc 22, 2) := by decide +kernel
theorem dX1_trueTime_17 : decode cX1_trueTime 17 = .ok (.ireturn, 1) := by decide +kernel
theorem dX1_trueTime_18 : decode cX1_trueTime 18 = .ok (.aload_n 0, 1) := by decide +kernel
theorem dX1_trueTime_19 : decode cX1_trueTime 19 = .ok (.getfield 18, 3) := by decide +kernel
theorem dX1_trueTime_22 : decode cX1_trueTime 22 = .ok (.iconst 1, 1) := by decide +kernel
theorem dX1_trueTime_23 : decode cX1_trueTime 23 = .ok (.if_icmp .ne 25, 3) := by decide +kernel
theorem dX1_trueTime_26 : decode cX1_trueTime 26 = .ok (.aload_n 0, 1) := by decide +kernel
theorem dX1_trueTime_27 : decode cX1_trueTime 27 = .ok (.getfield 15, 3) := by decide +kernel
theorem dX1_trueTime_30 : decode cX1_trueTime 30 = .ok (.iconst 0, 1) := by decide +kernel
theorem dX1_trueTime_31 : decode cX1_trueTime 31 = .ok (.iaload, 1) := by decide +kernel
theorem dX1_trueTime_32 : decode cX1_trueTime 32 = .ok (.i2l, 1) := by decide +kernel
theorem dX1_trueTime_33 : decode cX1_trueTime 33 = .ok (.iload_n 1, 1) := by decide +kernel
theorem dX1_trueTime_34 : decode cX1_trueTime 34 = .ok (.i2l, 1) := by decide +kernel
theorem dX1_trueTime_35 : decode cX1_trueTime 35 = .ok (.ladd, 1) := by decide +kernel
theorem dX1_trueTime_36 : decode cX1_trueTime 36 = .ok (.aload_n 0, 1) := by decide +kernel
theorem dX1_trueTime_37 : decode cX1_trueTime 37 = .ok (.getfield 9, 3) := by decide +kernel
theorem dX1_trueTime_40 : decode cX1_trueTime 40 = .ok (.iconst 0, 1) := by decide +kernel
theorem dX1_trueTime_41 : decode cX1_trueTime 41 = .ok (.iaload, 1) := by decide +kernel
theorem dX1_trueTime_42 : decode cX1_trueTime 42 = .ok (.i2l, 1) := by decide +kernel
theorem dX1_trueTime_43 : decode cX1_trueTime 43 = .ok (.lsub, 1) := by decide +kernel
theorem dX1_trueTime_44 : decode cX1_trueTime 44 = .ok (.invokestatic 45, 3) := by decide +kernel
theorem dX1_trueTime_47 : decode cX1_trueTime 47 = .ok (.ireturn, 1) := by decide +kernel
theorem dX1_trueTime_48 : decode cX1_trueTime 48 = .ok (.iconst 0, 1) := by decide +kernel
theorem dX1_trueTime_49 : decode cX1_trueTime 49 = .ok (.aload_n 0, 1) := by decide +kernel
theorem dX1_trueTime_50 : decode cX1_trueTime 50 = .ok (.iload_n 1, 1) := by decide +kernel
theorem dX1_trueTime_51 : decode cX1_trueTime 51 = .ok (.invokevirtual 37, 3) := by decide +kernel
theorem dX1_trueTime_54 : decode cX1_trueTime 54 = .ok (.aload_n 0, 1) := by decide +kernel
theorem dX1_trueTime_55 : decode cX1_trueTime 55 = .ok (.getfield 18, 3) := by decide +kernel
theorem dX1_trueTime_58 : decode cX1_trueTime 58 = .ok (.iconst 2, 1) := by decide +kernel
theorem dX1_trueTime_59 : decode cX1_trueTime 59 = .ok (.isub, 1) := by decide +kernel
theorem dX1_trueTime_60 : decode cX1_trueTime 60 = .ok (.invokestatic 49, 3) := by decide +kernel
theorem dX1_trueTime_63 : decode cX1_trueTime 63 = .ok (.invokestatic 55, 3) := by decide +kernel
theorem dX1_trueTime_66 : decode cX1_trueTime 66 = .ok (.istore_n 2, 1) := by decide +kernel
theorem dX1_trueTime_67 : decode cX1_trueTime 67 = .ok (.aload_n 0, 1) := by decide +kernel
theorem dX1_trueTime_68 : decode cX1_trueTime 68 = .ok (.getfield 9, 3) := by decide +kernel
theorem dX1_trueTime_71 : decode cX1_trueTime 71 = .ok (.iload_n 2, 1) := by decide +kernel
theorem dX1_trueTime_72 : decode cX1_trueTime 72 = .ok (.iconst 1, 1) := by decide +kernel
theorem dX1_trueTime_73 : decode cX1_trueTime 73 = .ok (.iadd, 1) := by decide +kernel
theorem dX1_trueTime_74 : decode cX1_trueTime 74 = .ok (.iaload, 1) := by decide +kernel
theorem dX1_trueTime_75 : decode cX1_trueTime 75 = .ok (.aload_n 0, 1) := by decide +kernel
theorem dX1_trueTime_76 : decode cX1_trueTime 76 = .ok (.getfield 9, 3) := by decide +kernel
theorem dX1_trueTime_79 : decode cX1_trueTime 79 = .ok (.iload_n 2, 1) := by decide +kernel
theorem dX1_trueTime_80 : decode cX1_trueTime 80 = .ok (.iaload, 1) := by decide +kernel
theorem dX1_trueTime_81 : decode cX1_trueTime 81 = .ok (.isub, 1) := by decide +kernel
theorem dX1_trueTime_82 : decode cX1_trueTime 82 = .ok (.i2l, 1) := by decide +kernel
theorem dX1_trueTime_83 : decode cX1_trueTime 83 = .ok (.lstore_n 3, 1) := by decide +kernel
theorem dX1_trueTime_84 : decode cX1_trueTime 84 = .ok (.lload_n 3, 1) := by decide +kernel
theorem dX1_trueTime_85 : decode cX1_trueTime 85 = .ok (.lconst 0, 1) := by decide +kernel
theorem dX1_trueTime_86 : decode cX1_trueTime 86 = .ok (.lcmp, 1) := by decide +kernel
theorem dX1_trueTime_87 : decode cX1_trueTime 87 = .ok (.ifCond .gt 6, 3) := by decide +kernel
theorem dX1_trueTime_90 : decode cX1_trueTime 90 = .ok (.ldc 22, 2) := by decide +kernel
theorem dX1_trueTime_92 : decode cX1_trueTime 92 = .ok (.ireturn, 1) := by decide +kernel
theorem dX1_trueTime_93 : decode cX1_trueTime 93 = .ok (.aload_n 0, 1) := by decide +kernel
theorem dX1_trueTime_94 : decode cX1_trueTime 94 = .ok (.getfield 15, 3) := by decide +kernel
theorem dX1_trueTime_97 : decode cX1_trueTime 97 = .ok (.iload_n 2, 1) := by decide +kernel
theorem dX1_trueTime_98 : decode cX1_trueTime 98 = .ok (.iconst 1, 1) := by decide +kernel
theorem dX1_trueTime_99 : decode cX1_trueTime 99 = .ok (.iadd, 1) := by decide +kernel
theorem dX1_trueTime_100 : decode cX1_trueTime 100 = .ok (.iaload, 1) := by decide +kernel
theorem dX1_trueTime_101 : decode cX1_trueTime 101 = .ok (.aload_n 0, 1) := by decide +kernel
theorem dX1_trueTime_102 : decode cX1_trueTime 102 = .ok (.getfield 15, 3) := by decide +kernel
theorem dX1_trueTime_105 : decode cX1_trueTime 105 = .ok (.iload_n 2, 1) := by decide +kernel
theorem dX1_trueTime_106 : decode cX1_trueTime 106 = .ok (.iaload, 1) := by decide +kernel
theorem dX1_trueTime_107 : decode cX1_trueTime 107 = .ok (.isub, 1) := by decide +kernel
theorem dX1_trueTime_108 : decode cX1_trueTime 108 = .ok (.i2l, 1) := by decide +kernel
theorem dX1_trueTime_109 : decode cX1_trueTime 109 = .ok (.lstore 5, 2) := by decide +kernel
theorem dX1_trueTime_111 : decode cX1_trueTime 111 = .ok (.iload_n 1, 1) := by decide +kernel
theorem dX1_trueTime_112 : decode cX1_trueTime 112 = .ok (.aload_n 0, 1) := by decide +kernel
theorem dX1_trueTime_113 : decode cX1_trueTime 113 = .ok (.getfield 9, 3) := by decide +kernel
theorem dX1_trueTime_116 : decode cX1_trueTime 116 = .ok (.iload_n 2, 1) := by decide +kernel
theorem dX1_trueTime_117 : decode cX1_trueTime 117 = .ok (.iaload, 1) := by decide +kernel
theorem dX1_trueTime_118 : decode cX1_trueTime 118 = .ok (.isub, 1) := by decide +kernel
theorem dX1_trueTime_119 : decode cX1_trueTime 119 = .ok (.i2l, 1) := by decide +kernel
theorem dX1_trueTime_120 : decode cX1_trueTime 120 = .ok (.lstore 7, 2) := by decide +kernel
theorem dX1_trueTime_122 : decode cX1_trueTime 122 = .ok (.aload_n 0, 1) := by decide +kernel
theorem dX1_trueTime_123 : decode cX1_trueTime 123 = .ok (.getfield 15, 3) := by decide +kernel
theorem dX1_trueTime_126 : decode cX1_trueTime 126 = .ok (.iload_n 2, 1) := by decide +kernel
theorem dX1_trueTime_127 : decode cX1_trueTime 127 = .ok (.iaload, 1) := by decide +kernel
theorem dX1_trueTime_128 : decode cX1_trueTime 128 = .ok (.i2l, 1) := by decide +kernel
theorem dX1_trueTime_129 : decode cX1_trueTime 129 = .ok (.lload 7, 2) := by decide +kernel
theorem dX1_trueTime_131 : decode cX1_trueTime 131 = .ok (.lload 5, 2) := by decide +kernel
theorem dX1_trueTime_133 : decode cX1_trueTime 133 = .ok (.lmul, 1) := by decide +kernel
theorem dX1_trueTime_134 : decode cX1_trueTime 134 = .ok (.lload_n 3, 1) := by decide +kernel
theorem dX1_trueTime_135 : decode cX1_trueTime 135 = .ok (.invokestatic 58, 3) := by decide +kernel
theorem dX1_trueTime_138 : decode cX1_trueTime 138 = .ok (.ladd, 1) := by decide +kernel
theorem dX1_trueTime_139 : decode cX1_trueTime 139 = .ok (.invokestatic 45, 3) := by decide +kernel
theorem dX1_trueTime_142 : decode cX1_trueTime 142 = .ok (.ireturn, 1) := by decide +kernel
theorem oX1_trueTime_0 : OKI 11 0 (.aload_n 0, 1, [0], 0, 0, []) := And.intro dX1_trueTime_0 (And.intro rfl (rfl))
theorem oX1_trueTime_1 : OKI 11 1 (.getfield 18, 4, [2, 4, 0], 0, 0, []) := And.intro dX1_trueTime_1 (And.intro rfl (⟨(RX1, TX1, 6), "SpotTimers$Clock", rfl, by decide, tm_2 _ (List.mem_of_getElem? (i := 185) rfl) rfl, Or.inl rfl, Or.inr (Or.inr (And.intro rfl (Or.inl rfl)))⟩))
theorem oX1_trueTime_4 : OKI 11 4 (.ifCond .eq 11, 7, [15], 0, 0, []) := And.intro dX1_trueTime_4 (And.intro rfl (by decide))
theorem oX1_trueTime_7 : OKI 11 7 (.aload_n 0, 8, [0], 0, 0, []) := And.intro dX1_trueTime_7 (And.intro rfl (rfl))
theorem oX1_trueTime_8 : OKI 11 8 (.iload_n 1, 9, [1], 0, 0, []) := And.intro dX1_trueTime_8 (And.intro rfl (rfl))
theorem oX1_trueTime_9 : OKI 11 9 (.invokevirtual 41, 12, [8, 2, 3, 0, 0, 1], 0, 0, []) := And.intro dX1_trueTime_9 (And.intro rfl (And.intro (by decide) (And.intro (by decide) (And.intro mo_X1_isGoingAt (And.intro (tm_3 _ (List.mem_of_getElem? (i := 12) rfl) rfl) (And.intro (tm_2 _ (List.mem_of_getElem? (i := 232) rfl) rfl) (And.intro (tm_2 _ (List.mem_of_getElem? (i := 233) rfl) rfl) (Or.inl ⟨(RX1, TX1, 6), rfl, rfl⟩))))))))
theorem oX1_trueTime_12 : OKI 11 12 (.ifCond .ne 6, 15, [18], 0, 0, []) := And.intro dX1_trueTime_12 (And.intro rfl (by decide))
theorem oX1_trueTime_15 : OKI 11 15 (.ldc 22, 17, [], (-1000000000), 0, []) := And.intro dX1_trueTime_15 (And.intro rfl (tm_2 _ (List.mem_of_getElem? (i := 174) rfl) rfl))
theorem oX1_trueTime_17 : OKI 11 17 (.ireturn, 18, [0], 0, 0, []) := And.intro dX1_trueTime_17 (Or.inl (And.intro rfl rfl))
theorem oX1_trueTime_18 : OKI 11 18 (.aload_n 0, 19, [0], 0, 0, []) := And.intro dX1_trueTime_18 (And.intro rfl (rfl))
theorem oX1_trueTime_19 : OKI 11 19 (.getfield 18, 22, [2, 4, 0], 0, 0, []) := And.intro dX1_trueTime_19 (And.intro rfl (⟨(RX1, TX1, 6), "SpotTimers$Clock", rfl, by decide, tm_2 _ (List.mem_of_getElem? (i := 185) rfl) rfl, Or.inl rfl, Or.inr (Or.inr (And.intro rfl (Or.inl rfl)))⟩))
theorem oX1_trueTime_22 : OKI 11 22 (.iconst 1, 23, [], 1, 0, []) := And.intro dX1_trueTime_22 (And.intro rfl (by decide +kernel))
theorem oX1_trueTime_23 : OKI 11 23 (.if_icmp .ne 25, 26, [48], 0, 0, []) := And.intro dX1_trueTime_23 (And.intro rfl (by decide))
theorem oX1_trueTime_26 : OKI 11 26 (.aload_n 0, 27, [0], 0, 0, []) := And.intro dX1_trueTime_26 (And.intro rfl (rfl))
theorem oX1_trueTime_27 : OKI 11 27 (.getfield 15, 30, [2, 3, 2, 102, 0], 0, 0, []) := And.intro dX1_trueTime_27 (And.intro rfl (⟨(RX1, TX1, 6), "SpotTimers$Clock", rfl, by decide, tm_2 _ (List.mem_of_getElem? (i := 184) rfl) rfl, Or.inl rfl, rfl, rfl⟩))
theorem oX1_trueTime_30 : OKI 11 30 (.iconst 0, 31, [], 0, 0, []) := And.intro dX1_trueTime_30 (And.intro rfl (by decide +kernel))
theorem oX1_trueTime_31 : OKI 11 31 (.iaload, 32, [], 0, 0, []) := And.intro dX1_trueTime_31 rfl
theorem oX1_trueTime_32 : OKI 11 32 (.i2l, 33, [], 0, 0, []) := And.intro dX1_trueTime_32 rfl
theorem oX1_trueTime_33 : OKI 11 33 (.iload_n 1, 34, [1], 0, 0, []) := And.intro dX1_trueTime_33 (And.intro rfl (rfl))
theorem oX1_trueTime_34 : OKI 11 34 (.i2l, 35, [], 0, 0, []) := And.intro dX1_trueTime_34 rfl
theorem oX1_trueTime_35 : OKI 11 35 (.ladd, 36, [], 0, 0, []) := And.intro dX1_trueTime_35 rfl
theorem oX1_trueTime_36 : OKI 11 36 (.aload_n 0, 37, [0], 0, 0, []) := And.intro dX1_trueTime_36 (And.intro rfl (rfl))
theorem oX1_trueTime_37 : OKI 11 37 (.getfield 9, 40, [2, 2, 2, 101, 0], 0, 0, []) := And.intro dX1_trueTime_37 (And.intro rfl (⟨(RX1, TX1, 6), "SpotTimers$Clock", rfl, by decide, tm_2 _ (List.mem_of_getElem? (i := 183) rfl) rfl, Or.inl rfl, rfl, rfl⟩))
theorem oX1_trueTime_40 : OKI 11 40 (.iconst 0, 41, [], 0, 0, []) := And.intro dX1_trueTime_40 (And.intro rfl (by decide +kernel))
theorem oX1_trueTime_41 : OKI 11 41 (.iaload, 42, [], 0, 0, []) := And.intro dX1_trueTime_41 rfl
theorem oX1_trueTime_42 : OKI 11 42 (.i2l, 43, [], 0, 0, []) := And.intro dX1_trueTime_42 rfl
theorem oX1_trueTime_43 : OKI 11 43 (.lsub, 44, [], 0, 0, []) := And.intro dX1_trueTime_43 rfl
theorem oX1_trueTime_44 : OKI 11 44 (.invokestatic 45, 47, [12, 1, 0, 0, 0, 1], 0, 0, []) := And.intro dX1_trueTime_44 (And.intro rfl (And.intro rfl (And.intro mo_X1_trueTimeOrNone (And.intro (Or.inl (tm_3 _ (List.mem_of_getElem? (i := 13) rfl) rfl)) (tm_3 _ (List.mem_of_getElem? (i := 14) rfl) rfl)))))
theorem oX1_trueTime_47 : OKI 11 47 (.ireturn, 48, [0], 0, 0, []) := And.intro dX1_trueTime_47 (Or.inl (And.intro rfl rfl))
theorem oX1_trueTime_48 : OKI 11 48 (.iconst 0, 49, [], 0, 0, []) := And.intro dX1_trueTime_48 (And.intro rfl (by decide +kernel))
theorem oX1_trueTime_49 : OKI 11 49 (.aload_n 0, 50, [0], 0, 0, []) := And.intro dX1_trueTime_49 (And.intro rfl (rfl))
theorem oX1_trueTime_50 : OKI 11 50 (.iload_n 1, 51, [1], 0, 0, []) := And.intro dX1_trueTime_50 (And.intro rfl (rfl))
theorem oX1_trueTime_51 : OKI 11 51 (.invokevirtual 37, 54, [10, 2, 3, 0, 0, 1], 0, 0, []) := And.intro dX1_trueTime_51 (And.intro rfl (And.intro (by decide) (And.intro (by decide) (And.intro mo_X1_lastStarUpTo (And.intro (tm_3 _ (List.mem_of_getElem? (i := 0) rfl) rfl) (And.intro (tm_3 _ (List.mem_of_getElem? (i := 2) rfl) rfl) (And.intro (pm_1 _ (List.mem_of_getElem? (i := 6) rfl)) (Or.inl ⟨(RX1, TX1, 6), rfl, rfl⟩))))))))
theorem oX1_trueTime_54 : OKI 11 54 (.aload_n 0, 55, [0], 0, 0, []) := And.intro dX1_trueTime_54 (And.intro rfl (rfl))
theorem oX1_trueTime_55 : OKI 11 55 (.getfield 18, 58, [2, 4, 0], 0, 0, []) := And.intro dX1_trueTime_55 (And.intro rfl (⟨(RX1, TX1, 6), "SpotTimers$Clock", rfl, by decide, tm_2 _ (List.mem_of_getElem? (i := 185) rfl) rfl, Or.inl rfl, Or.inr (Or.inr (And.intro rfl (Or.inl rfl)))⟩))
theorem oX1_trueTime_58 : OKI 11 58 (.iconst 2, 59, [], 2, 0, []) := And.intro dX1_trueTime_58 (And.intro rfl (by decide +kernel))
theorem oX1_trueTime_59 : OKI 11 59 (.isub, 60, [], 0, 0, []) := And.intro dX1_trueTime_59 rfl
theorem oX1_trueTime_60 : OKI 11 60 (.invokestatic 49, 63, [254, 2, 0, 0, 0, 1], 0, 0, []) := And.intro dX1_trueTime_60 (And.intro rfl (And.intro rfl (And.intro mo_J9_min_7cf53 (And.intro (Or.inl (tm_3 _ (List.mem_of_getElem? (i := 18) rfl) rfl)) (tm_2 _ (List.mem_of_getElem? (i := 139) rfl) rfl)))))
theorem oX1_trueTime_63 : OKI 11 63 (.invokestatic 55, 66, [252, 2, 0, 0, 0, 1], 0, 0, []) := And.intro dX1_trueTime_63 (And.intro rfl (And.intro rfl (And.intro mo_J9_max_7cf53 (And.intro (Or.inl (tm_3 _ (List.mem_of_getElem? (i := 19) rfl) rfl)) (tm_1 _ (List.mem_of_getElem? (i := 89) rfl) rfl)))))
theorem oX1_trueTime_66 : OKI 11 66 (.istore_n 2, 67, [2], 0, 0, []) := And.intro dX1_trueTime_66 (And.intro rfl (And.intro rfl (by decide)))
theorem oX1_trueTime_67 : OKI 11 67 (.aload_n 0, 68, [0], 0, 0, []) := And.intro dX1_trueTime_67 (And.intro rfl (rfl))
theorem oX1_trueTime_68 : OKI 11 68 (.getfield 9, 71, [2, 2, 2, 101, 0], 0, 0, []) := And.intro dX1_trueTime_68 (And.intro rfl (⟨(RX1, TX1, 6), "SpotTimers$Clock", rfl, by decide, tm_2 _ (List.mem_of_getElem? (i := 183) rfl) rfl, Or.inl rfl, rfl, rfl⟩))
theorem oX1_trueTime_71 : OKI 11 71 (.iload_n 2, 72, [2], 0, 0, []) := And.intro dX1_trueTime_71 (And.intro rfl (rfl))
theorem oX1_trueTime_72 : OKI 11 72 (.iconst 1, 73, [], 1, 0, []) := And.intro dX1_trueTime_72 (And.intro rfl (by decide +kernel))
theorem oX1_trueTime_73 : OKI 11 73 (.iadd, 74, [], 0, 0, []) := And.intro dX1_trueTime_73 rfl
theorem oX1_trueTime_74 : OKI 11 74 (.iaload, 75, [], 0, 0, []) := And.intro dX1_trueTime_74 rfl
theorem oX1_trueTime_75 : OKI 11 75 (.aload_n 0, 76, [0], 0, 0, []) := And.intro dX1_trueTime_75 (And.intro rfl (rfl))
theorem oX1_trueTime_76 : OKI 11 76 (.getfield 9, 79, [2, 2, 2, 101, 0], 0, 0, []) := And.intro dX1_trueTime_76 (And.intro rfl (⟨(RX1, TX1, 6), "SpotTimers$Clock", rfl, by decide, tm_2 _ (List.mem_of_getElem? (i := 183) rfl) rfl, Or.inl rfl, rfl, rfl⟩))
theorem oX1_trueTime_79 : OKI 11 79 (.iload_n 2, 80, [2], 0, 0, []) := And.intro dX1_trueTime_79 (And.intro rfl (rfl))
theorem oX1_trueTime_80 : OKI 11 80 (.iaload, 81, [], 0, 0, []) := And.intro dX1_trueTime_80 rfl
theorem oX1_trueTime_81 : OKI 11 81 (.isub, 82, [], 0, 0, []) := And.intro dX1_trueTime_81 rfl
theorem oX1_trueTime_82 : OKI 11 82 (.i2l, 83, [], 0, 0, []) := And.intro dX1_trueTime_82 rfl
theorem oX1_trueTime_83 : OKI 11 83 (.lstore_n 3, 84, [3], 0, 0, []) := And.intro dX1_trueTime_83 (And.intro rfl (And.intro rfl (by decide)))
theorem oX1_trueTime_84 : OKI 11 84 (.lload_n 3, 85, [3], 0, 0, []) := And.intro dX1_trueTime_84 (And.intro rfl (rfl))
theorem oX1_trueTime_85 : OKI 11 85 (.lconst 0, 86, [], 0, 0, []) := And.intro dX1_trueTime_85 (And.intro rfl (by decide +kernel))
theorem oX1_trueTime_86 : OKI 11 86 (.lcmp, 87, [], 0, 0, []) := And.intro dX1_trueTime_86 rfl
theorem oX1_trueTime_87 : OKI 11 87 (.ifCond .gt 6, 90, [93], 0, 0, []) := And.intro dX1_trueTime_87 (And.intro rfl (by decide))
theorem oX1_trueTime_90 : OKI 11 90 (.ldc 22, 92, [], (-1000000000), 0, []) := And.intro dX1_trueTime_90 (And.intro rfl (tm_2 _ (List.mem_of_getElem? (i := 174) rfl) rfl))
theorem oX1_trueTime_92 : OKI 11 92 (.ireturn, 93, [0], 0, 0, []) := And.intro dX1_trueTime_92 (Or.inl (And.intro rfl rfl))
theorem oX1_trueTime_93 : OKI 11 93 (.aload_n 0, 94, [0], 0, 0, []) := And.intro dX1_trueTime_93 (And.intro rfl (rfl))
theorem oX1_trueTime_94 : OKI 11 94 (.getfield 15, 97, [2, 3, 2, 102, 0], 0, 0, []) := And.intro dX1_trueTime_94 (And.intro rfl (⟨(RX1, TX1, 6), "SpotTimers$Clock", rfl, by decide, tm_2 _ (List.mem_of_getElem? (i := 184) rfl) rfl, Or.inl rfl, rfl, rfl⟩))
theorem oX1_trueTime_97 : OKI 11 97 (.iload_n 2, 98, [2], 0, 0, []) := And.intro dX1_trueTime_97 (And.intro rfl (rfl))
theorem oX1_trueTime_98 : OKI 11 98 (.iconst 1, 99, [], 1, 0, []) := And.intro dX1_trueTime_98 (And.intro rfl (by decide +kernel))
theorem oX1_trueTime_99 : OKI 11 99 (.iadd, 100, [], 0, 0, []) := And.intro dX1_trueTime_99 rfl
theorem oX1_trueTime_100 : OKI 11 100 (.iaload, 101, [], 0, 0, []) := And.intro dX1_trueTime_100 rfl
theorem oX1_trueTime_101 : OKI 11 101 (.aload_n 0, 102, [0], 0, 0, []) := And.intro dX1_trueTime_101 (And.intro rfl (rfl))
theorem oX1_trueTime_102 : OKI 11 102 (.getfield 15, 105, [2, 3, 2, 102, 0], 0, 0, []) := And.intro dX1_trueTime_102 (And.intro rfl (⟨(RX1, TX1, 6), "SpotTimers$Clock", rfl, by decide, tm_2 _ (List.mem_of_getElem? (i := 184) rfl) rfl, Or.inl rfl, rfl, rfl⟩))
theorem oX1_trueTime_105 : OKI 11 105 (.iload_n 2, 106, [2], 0, 0, []) := And.intro dX1_trueTime_105 (And.intro rfl (rfl))
theorem oX1_trueTime_106 : OKI 11 106 (.iaload, 107, [], 0, 0, []) := And.intro dX1_trueTime_106 rfl
theorem oX1_trueTime_107 : OKI 11 107 (.isub, 108, [], 0, 0, []) := And.intro dX1_trueTime_107 rfl
theorem oX1_trueTime_108 : OKI 11 108 (.i2l, 109, [], 0, 0, []) := And.intro dX1_trueTime_108 rfl
theorem oX1_trueTime_109 : OKI 11 109 (.lstore 5, 111, [5], 0, 0, []) := And.intro dX1_trueTime_109 (And.intro rfl (And.intro rfl (by decide)))
theorem oX1_trueTime_111 : OKI 11 111 (.iload_n 1, 112, [1], 0, 0, []) := And.intro dX1_trueTime_111 (And.intro rfl (rfl))
theorem oX1_trueTime_112 : OKI 11 112 (.aload_n 0, 113, [0], 0, 0, []) := And.intro dX1_trueTime_112 (And.intro rfl (rfl))
theorem oX1_trueTime_113 : OKI 11 113 (.getfield 9, 116, [2, 2, 2, 101, 0], 0, 0, []) := And.intro dX1_trueTime_113 (And.intro rfl (⟨(RX1, TX1, 6), "SpotTimers$Clock", rfl, by decide, tm_2 _ (List.mem_of_getElem? (i := 183) rfl) rfl, Or.inl rfl, rfl, rfl⟩))
theorem oX1_trueTime_116 : OKI 11 116 (.iload_n 2, 117, [2], 0, 0, []) := And.intro dX1_trueTime_116 (And.intro rfl (rfl))
theorem oX1_trueTime_117 : OKI 11 117 (.iaload, 118, [], 0, 0, []) := And.intro dX1_trueTime_117 rfl
theorem oX1_trueTime_118 : OKI 11 118 (.isub, 119, [], 0, 0, []) := And.intro dX1_trueTime_118 rfl
theorem oX1_trueTime_119 : OKI 11 119 (.i2l, 120, [], 0, 0, []) := And.intro dX1_trueTime_119 rfl
theorem oX1_trueTime_120 : OKI 11 120 (.lstore 7, 122, [7], 0, 0, []) := And.intro dX1_trueTime_120 (And.intro rfl (And.intro rfl (by decide)))
theorem oX1_trueTime_122 : OKI 11 122 (.aload_n 0, 123, [0], 0, 0, []) := And.intro dX1_trueTime_122 (And.intro rfl (rfl))
theorem oX1_trueTime_123 : OKI 11 123 (.getfield 15, 126, [2, 3, 2, 102, 0], 0, 0, []) := And.intro dX1_trueTime_123 (And.intro rfl (⟨(RX1, TX1, 6), "SpotTimers$Clock", rfl, by decide, tm_2 _ (List.mem_of_getElem? (i := 184) rfl) rfl, Or.inl rfl, rfl, rfl⟩))
theorem oX1_trueTime_126 : OKI 11 126 (.iload_n 2, 127, [2], 0, 0, []) := And.intro dX1_trueTime_126 (And.intro rfl (rfl))
theorem oX1_trueTime_127 : OKI 11 127 (.iaload, 128, [], 0, 0, []) := And.intro dX1_trueTime_127 rfl
theorem oX1_trueTime_128 : OKI 11 128 (.i2l, 129, [], 0, 0, []) := And.intro dX1_trueTime_128 rfl
theorem oX1_trueTime_129 : OKI 11 129 (.lload 7, 131, [7], 0, 0, []) := And.intro dX1_trueTime_129 (And.intro rfl (rfl))
theorem oX1_trueTime_131 : OKI 11 131 (.lload 5, 133, [5], 0, 0, []) := And.intro dX1_trueTime_131 (And.intro rfl (rfl))
theorem oX1_trueTime_133 : OKI 11 133 (.lmul, 134, [], 0, 0, []) := And.intro dX1_trueTime_133 rfl
theorem oX1_trueTime_134 : OKI 11 134 (.lload_n 3, 135, [3], 0, 0, []) := And.intro dX1_trueTime_134 (And.intro rfl (rfl))
theorem oX1_trueTime_135 : OKI 11 135 (.invokestatic 58, 138, [249, 2, 0, 0, 0, 2], 0, 0, []) := And.intro dX1_trueTime_135 (And.intro rfl (And.intro rfl (And.intro mo_J9_floorDiv_f86c9 (And.intro (Or.inl (tm_3 _ (List.mem_of_getElem? (i := 20) rfl) rfl)) (tm_3 _ (List.mem_of_getElem? (i := 21) rfl) rfl)))))
theorem oX1_trueTime_138 : OKI 11 138 (.ladd, 139, [], 0, 0, []) := And.intro dX1_trueTime_138 rfl
theorem oX1_trueTime_139 : OKI 11 139 (.invokestatic 45, 142, [12, 1, 0, 0, 0, 1], 0, 0, []) := And.intro dX1_trueTime_139 (And.intro rfl (And.intro rfl (And.intro mo_X1_trueTimeOrNone (And.intro (Or.inl (tm_3 _ (List.mem_of_getElem? (i := 13) rfl) rfl)) (tm_3 _ (List.mem_of_getElem? (i := 14) rfl) rfl)))))
theorem oX1_trueTime_142 : OKI 11 142 (.ireturn, 143, [0], 0, 0, []) := And.intro dX1_trueTime_142 (Or.inl (And.intro rfl rfl))
def pfX1_trueTime (pc : Nat) : Option XE := (bif Nat.blt pc 75 then (bif Nat.blt pc 40 then (bif Nat.blt pc 22 then (bif Nat.blt pc 9 then (bif Nat.blt pc 4 then (bif Nat.blt pc 1 then (bif Nat.beq pc 0 then some (.aload_n 0, 1, [0], 0, 0, []) else none) else (bif Nat.beq pc 1 then some (.getfield 18, 4, [2, 4, 0], 0, 0, []) else none)) else (bif Nat.blt pc 7 then (bif Nat.beq pc 4 then some (.ifCond .eq 11, 7, [15], 0, 0, []) else none) else (bif Nat.blt pc 8 then (bif Nat.beq pc 7 then some (.aload_n 0, 8, [0], 0, 0, []) else none) else (bif Nat.beq pc 8 then some (.iload_n 1, 9, [1], 0, 0, []) else none)))) else (bif Nat.blt pc 17 then (bif Nat.blt pc 12 then (bif Nat.beq pc 9 then some (.invokevirtual 41, 12, [8, 2, 3, 0, 0, 1], 0, 0, []) else none) else (bif Nat.blt pc 15 then (bif Nat.beq pc 12 then some (.ifCond .ne 6, 15, [18], 0, 0, []) else none) else (bif Nat.beq pc 15 then some (.ldc 22, 17, [], (-1000000000), 0, []) else none))) else (bif Nat.blt pc 18 then (bif Nat.beq pc 17 then some (.ireturn, 18, [0], 0, 0, []) else none) else (bif Nat.blt pc 19 then (bif Nat.beq pc 18 then some (.aload_n 0, 19, [0], 0, 0, []) else none) else (bif Nat.beq pc 19 then some (.getfield 18, 22, [2, 4, 0], 0, 0, []) else none))))) else (bif Nat.blt pc 32 then (bif Nat.blt pc 27 then (bif Nat.blt pc 23 then (bif Nat.beq pc 22 then some (.iconst 1, 23, [], 1, 0, []) else none) else (bif Nat.blt pc 26 then (bif Nat.beq pc 23 then some (.if_icmp .ne 25, 26, [48], 0, 0, []) else none) else (bif Nat.beq pc 26 then some (.aload_n 0, 27, [0], 0, 0, []) else none))) else (bif Nat.blt pc 30 then (bif Nat.beq pc 27 then some (.getfield 15, 30, [2, 3, 2, 102, 0], 0, 0, []) else none) else (bif Nat.blt pc 31 then (bif Nat.beq pc 30 then some (.iconst 0, 31, [], 0, 0, []) else none) else (bif Nat.beq pc 31 then some (.iaload, 32, [], 0, 0, []) else none)))) else (bif Nat.blt pc 35 then (bif Nat.blt pc 33 then (bif Nat.beq pc 32 then some (.i2l, 33, [], 0, 0, []) else none) else (bif Nat.blt pc 34 then (bif Nat.beq pc 33 then some (.iload_n 1, 34, [1], 0, 0, []) else none) else (bif Nat.beq pc 34 then some (.i2l, 35, [], 0, 0, []) else none))) else (bif Nat.blt pc 36 then (bif Nat.beq pc 35 then some (.ladd, 36, [], 0, 0, []) else none) else (bif Nat.blt pc 37 then (bif Nat.beq pc 36 then some (.aload_n 0, 37, [0], 0, 0, []) else none) else (bif Nat.beq pc 37 then some (.getfield 9, 40, [2, 2, 2, 101, 0], 0, 0, []) else none)))))) else (bif Nat.blt pc 55 then (bif Nat.blt pc 47 then (bif Nat.blt pc 42 then (bif Nat.blt pc 41 then (bif Nat.beq pc 40 then some (.iconst 0, 41, [], 0, 0, []) else none) else (bif Nat.beq pc 41 then some (.iaload, 42, [], 0, 0, []) else none)) else (bif Nat.blt pc 43 then (bif Nat.beq pc 42 then some (.i2l, 43, [], 0, 0, []) else none) else (bif Nat.blt pc 44 then (bif Nat.beq pc 43 then some (.lsub, 44, [], 0, 0, []) else none) else (bif Nat.beq pc 44 then some (.invokestatic 45, 47, [12, 1, 0, 0, 0, 1], 0, 0, []) else none)))) else (bif Nat.blt pc 50 then (bif Nat.blt pc 48 then (bif Nat.beq pc 47 then some (.ireturn, 48, [0], 0, 0, []) else none) else (bif Nat.blt pc 49 then (bif Nat.beq pc 48 then some (.iconst 0, 49, [], 0, 0, []) else none) else (bif Nat.beq pc 49 then some (.aload_n 0, 50, [0], 0, 0, []) else none))) else (bif Nat.blt pc 51 then (bif Nat.beq pc 50 then some (.iload_n 1, 51, [1], 0, 0, []) else none) else (bif Nat.blt pc 54 then (bif Nat.beq pc 51 then some (.invokevirtual 37, 54, [10, 2, 3, 0, 0, 1], 0, 0, []) else none) else (bif Nat.beq pc 54 then some (.aload_n 0, 55, [0], 0, 0, []) else none))))) else (bif Nat.blt pc 67 then (bif Nat.blt pc 60 then (bif Nat.blt pc 58 then (bif Nat.beq pc 55 then some (.getfield 18, 58, [2, 4, 0], 0, 0, []) else none) else (bif Nat.blt pc 59 then (bif Nat.beq pc 58 then some (.iconst 2, 59, [], 2, 0, []) else none) else (bif Nat.beq pc 59 then some (.isub, 60, [], 0, 0, []) else none))) else (bif Nat.blt pc 63 then (bif Nat.beq pc 60 then some (.invokestatic 49, 63, [254, 2, 0, 0, 0, 1], 0, 0, []) else none) else (bif Nat.blt pc 66 then (bif Nat.beq pc 63 then some (.invokestatic 55, 66, [252, 2, 0, 0, 0, 1], 0, 0, []) else none) else (bif Nat.beq pc 66 then some (.istore_n 2, 67, [2], 0, 0, []) else none)))) else (bif Nat.blt pc 72 then (bif Nat.blt pc 68 then (bif Nat.beq pc 67 then some (.aload_n 0, 68, [0], 0, 0, []) else none) else (bif Nat.blt pc 71 then (bif Nat.beq pc 68 then some (.getfield 9, 71, [2, 2, 2, 101, 0], 0, 0, []) else none) else (bif Nat.beq pc 71 then some (.iload_n 2, 72, [2], 0, 0, []) else none))) else (bif Nat.blt pc 73 then (bif Nat.beq pc 72 then some (.iconst 1, 73, [], 1, 0, []) else none) else (bif Nat.blt pc 74 then (bif Nat.beq pc 73 then some (.iadd, 74, [], 0, 0, []) else none) else (bif Nat.beq pc 74 then some (.iaload, 75, [], 0, 0, []) else none))))))) else (bif Nat.blt pc 107 then (bif Nat.blt pc 90 then (bif Nat.blt pc 82 then (bif Nat.blt pc 79 then (bif Nat.blt pc 76 then (bif Nat.beq pc 75 then some (.aload_n 0, 76, [0], 0, 0, []) else none) else (bif Nat.beq pc 76 then some (.getfield 9, 79, [2, 2, 2, 101, 0], 0, 0, []) else none)) else (bif Nat.blt pc 80 then (bif Nat.beq pc 79 then some (.iload_n 2, 80, [2], 0, 0, []) else none) else (bif Nat.blt pc 81 then (bif Nat.beq pc 80 then some (.iaload, 81, [], 0, 0, []) else none) else (bif Nat.beq pc 81 then some (.isub, 82, [], 0, 0, []) else none)))) else (bif Nat.blt pc 85 then (bif Nat.blt pc 83 then (bif Nat.beq pc 82 then some (.i2l, 83, [], 0, 0, []) else none) else (bif Nat.blt pc 84 then (bif Nat.beq pc 83 then some (.lstore_n 3, 84, [3], 0, 0, []) else none) else (bif Nat.beq pc 84 then some (.lload_n 3, 85, [3], 0, 0, []) else none))) else (bif Nat.blt pc 86 then (bif Nat.beq pc 85 then some (.lconst 0, 86, [], 0, 0, []) else none) else (bif Nat.blt pc 87 then (bif Nat.beq pc 86 then some (.lcmp, 87, [], 0, 0, []) else none) else (bif Nat.beq pc 87 then some (.ifCond .gt 6, 90, [93], 0, 0, []) else none))))) else (bif Nat.blt pc 99 then (bif Nat.blt pc 94 then (bif Nat.blt pc 92 then (bif Nat.beq pc 90 then some (.ldc 22, 92, [], (-1000000000), 0, []) else none) else (bif Nat.blt pc 93 then (bif Nat.beq pc 92 then some (.ireturn, 93, [0], 0, 0, []) else none) else (bif Nat.beq pc 93 then some (.aload_n 0, 94, [0], 0, 0, []) else none))) else (bif Nat.blt pc 97 then (bif Nat.beq pc 94 then some (.getfield 15, 97, [2, 3, 2, 102, 0], 0, 0, []) else none) else (bif Nat.blt pc 98 then (bif Nat.beq pc 97 then some (.iload_n 2, 98, [2], 0, 0, []) else none) else (bif Nat.beq pc 98 then some (.iconst 1, 99, [], 1, 0, []) else none)))) else (bif Nat.blt pc 102 then (bif Nat.blt pc 100 then (bif Nat.beq pc 99 then some (.iadd, 100, [], 0, 0, []) else none) else (bif Nat.blt pc 101 then (bif Nat.beq pc 100 then some (.iaload, 101, [], 0, 0, []) else none) else (bif Nat.beq pc 101 then some (.aload_n 0, 102, [0], 0, 0, []) else none))) else (bif Nat.blt pc 105 then (bif Nat.beq pc 102 then some (.getfield 15, 105, [2, 3, 2, 102, 0], 0, 0, []) else none) else (bif Nat.blt pc 106 then (bif Nat.beq pc 105 then some (.iload_n 2, 106, [2], 0, 0, []) else none) else (bif Nat.beq pc 106 then some (.iaload, 107, [], 0, 0, []) else none)))))) else (bif Nat.blt pc 123 then (bif Nat.blt pc 116 then (bif Nat.blt pc 111 then (bif Nat.blt pc 108 then (bif Nat.beq pc 107 then some (.isub, 108, [], 0, 0, []) else none) else (bif Nat.blt pc 109 then (bif Nat.beq pc 108 then some (.i2l, 109, [], 0, 0, []) else none) else (bif Nat.beq pc 109 then some (.lstore 5, 111, [5], 0, 0, []) else none))) else (bif Nat.blt pc 112 then (bif Nat.beq pc 111 then some (.iload_n 1, 112, [1], 0, 0, []) else none) else (bif Nat.blt pc 113 then (bif Nat.beq pc 112 then some (.aload_n 0, 113, [0], 0, 0, []) else none) else (bif Nat.beq pc 113 then some (.getfield 9, 116, [2, 2, 2, 101, 0], 0, 0, []) else none)))) else (bif Nat.blt pc 119 then (bif Nat.blt pc 117 then (bif Nat.beq pc 116 then some (.iload_n 2, 117, [2], 0, 0, []) else none) else (bif Nat.blt pc 118 then (bif Nat.beq pc 117 then some (.iaload, 118, [], 0, 0, []) else none) else (bif Nat.beq pc 118 then some (.isub, 119, [], 0, 0, []) else none))) else (bif Nat.blt pc 120 then (bif Nat.beq pc 119 then some (.i2l, 120, [], 0, 0, []) else none) else (bif Nat.blt pc 122 then (bif Nat.beq pc 120 then some (.lstore 7, 122, [7], 0, 0, []) else none) else (bif Nat.beq pc 122 then some (.aload_n 0, 123, [0], 0, 0, []) else none))))) else (bif Nat.blt pc 133 then (bif Nat.blt pc 128 then (bif Nat.blt pc 126 then (bif Nat.beq pc 123 then some (.getfield 15, 126, [2, 3, 2, 102, 0], 0, 0, []) else none) else (bif Nat.blt pc 127 then (bif Nat.beq pc 126 then some (.iload_n 2, 127, [2], 0, 0, []) else none) else (bif Nat.beq pc 127 then some (.iaload, 128, [], 0, 0, []) else none))) else (bif Nat.blt pc 129 then (bif Nat.beq pc 128 then some (.i2l, 129, [], 0, 0, []) else none) else (bif Nat.blt pc 131 then (bif Nat.beq pc 129 then some (.lload 7, 131, [7], 0, 0, []) else none) else (bif Nat.beq pc 131 then some (.lload 5, 133, [5], 0, 0, []) else none)))) else (bif Nat.blt pc 138 then (bif Nat.blt pc 134 then (bif Nat.beq pc 133 then some (.lmul, 134, [], 0, 0, []) else none) else (bif Nat.blt pc 135 then (bif Nat.beq pc 134 then some (.lload_n 3, 135, [3], 0, 0, []) else none) else (bif Nat.beq pc 135 then some (.invokestatic 58, 138, [249, 2, 0, 0, 0, 2], 0, 0, []) else none))) else (bif Nat.blt pc 139 then (bif Nat.beq pc 138 then some (.ladd, 139, [], 0, 0, []) else none) else (bif Nat.blt pc 142 then (bif Nat.beq pc 139 then some (.invokestatic 45, 142, [12, 1, 0, 0, 0, 1], 0, 0, []) else none) else (bif Nat.beq pc 142 then some (.ireturn, 143, [0], 0, 0, []) else none))))))))
theorem okX1_trueTime : ∀ pc Y, pfX1_trueTime pc = some Y → OKI m_X1_trueTime pc Y := fun pc Y => ((bt_node (bt_node (bt_node (bt_node (bt_node (bt_node (bt_leaf (P := OKI m_X1_trueTime) oX1_trueTime_0) (bt_leaf (P := OKI m_X1_trueTime) oX1_trueTime_1)) (bt_node (bt_leaf (P := OKI m_X1_trueTime) oX1_trueTime_4) (bt_node (bt_leaf (P := OKI m_X1_trueTime) oX1_trueTime_7) (bt_leaf (P := OKI m_X1_trueTime) oX1_trueTime_8)))) (bt_node (bt_node (bt_leaf (P := OKI m_X1_trueTime) oX1_trueTime_9) (bt_node (bt_leaf (P := OKI m_X1_trueTime) oX1_trueTime_12) (bt_leaf (P := OKI m_X1_trueTime) oX1_trueTime_15))) (bt_node (bt_leaf (P := OKI m_X1_trueTime) oX1_trueTime_17) (bt_node (bt_leaf (P := OKI m_X1_trueTime) oX1_trueTime_18) (bt_leaf (P := OKI m_X1_trueTime) oX1_trueTime_19))))) (bt_node (bt_node (bt_node (bt_leaf (P := OKI m_X1_trueTime) oX1_trueTime_22) (bt_node (bt_leaf (P := OKI m_X1_trueTime) oX1_trueTime_23) (bt_leaf (P := OKI m_X1_trueTime) oX1_trueTime_26))) (bt_node (bt_leaf (P := OKI m_X1_trueTime) oX1_trueTime_27) (bt_node (bt_leaf (P := OKI m_X1_trueTime) oX1_trueTime_30) (bt_leaf (P := OKI m_X1_trueTime) oX1_trueTime_31)))) (bt_node (bt_node (bt_leaf (P := OKI m_X1_trueTime) oX1_trueTime_32) (bt_node (bt_leaf (P := OKI m_X1_trueTime) oX1_trueTime_33) (bt_leaf (P := OKI m_X1_trueTime) oX1_trueTime_34))) (bt_node (bt_leaf (P := OKI m_X1_trueTime) oX1_trueTime_35) (bt_node (bt_leaf (P := OKI m_X1_trueTime) oX1_trueTime_36) (bt_leaf (P := OKI m_X1_trueTime) oX1_trueTime_37)))))) (bt_node (bt_node (bt_node (bt_node (bt_leaf (P := OKI m_X1_trueTime) oX1_trueTime_40) (bt_leaf (P := OKI m_X1_trueTime) oX1_trueTime_41)) (bt_node (bt_leaf (P := OKI m_X1_trueTime) oX1_trueTime_42) (bt_node (bt_leaf (P := OKI m_X1_trueTime) oX1_trueTime_43) (bt_leaf (P := OKI m_X1_trueTime) oX1_trueTime_44)))) (bt_node (bt_node (bt_leaf (P := OKI m_X1_trueTime) oX1_trueTime_47) (bt_node (bt_leaf (P := OKI m_X1_trueTime) oX1_trueTime_48) (bt_leaf (P := OKI m_X1_trueTime) oX1_trueTime_49))) (bt_node (bt_leaf (P := OKI m_X1_trueTime) oX1_trueTime_50) (bt_node (bt_leaf (P := OKI m_X1_trueTime) oX1_trueTime_51) (bt_leaf (P := OKI m_X1_trueTime) oX1_trueTime_54))))) (bt_node (bt_node (bt_node (bt_leaf (P := OKI m_X1_trueTime) oX1_trueTime_55) (bt_node (bt_leaf (P := OKI m_X1_trueTime) oX1_trueTime_58) (bt_leaf (P := OKI m_X1_trueTime) oX1_trueTime_59))) (bt_node (bt_leaf (P := OKI m_X1_trueTime) oX1_trueTime_60) (bt_node (bt_leaf (P := OKI m_X1_trueTime) oX1_trueTime_63) (bt_leaf (P := OKI m_X1_trueTime) oX1_trueTime_66)))) (bt_node (bt_node (bt_leaf (P := OKI m_X1_trueTime) oX1_trueTime_67) (bt_node (bt_leaf (P := OKI m_X1_trueTime) oX1_trueTime_68) (bt_leaf (P := OKI m_X1_trueTime) oX1_trueTime_71))) (bt_node (bt_leaf (P := OKI m_X1_trueTime) oX1_trueTime_72) (bt_node (bt_leaf (P := OKI m_X1_trueTime) oX1_trueTime_73) (bt_leaf (P := OKI m_X1_trueTime) oX1_trueTime_74))))))) (bt_node (bt_node (bt_node (bt_node (bt_node (bt_leaf (P := OKI m_X1_trueTime) oX1_trueTime_75) (bt_leaf (P := OKI m_X1_trueTime) oX1_trueTime_76)) (bt_node (bt_leaf (P := OKI m_X1_trueTime) oX1_trueTime_79) (bt_node (bt_leaf (P := OKI m_X1_trueTime) oX1_trueTime_80) (bt_leaf (P := OKI m_X1_trueTime) oX1_trueTime_81)))) (bt_node (bt_node (bt_leaf (P := OKI m_X1_trueTime) oX1_trueTime_82) (bt_node (bt_leaf (P := OKI m_X1_trueTime) oX1_trueTime_83) (bt_leaf (P := OKI m_X1_trueTime) oX1_trueTime_84))) (bt_node (bt_leaf (P := OKI m_X1_trueTime) oX1_trueTime_85) (bt_node (bt_leaf (P := OKI m_X1_trueTime) oX1_trueTime_86) (bt_leaf (P := OKI m_X1_trueTime) oX1_trueTime_87))))) (bt_node (bt_node (bt_node (bt_leaf (P := OKI m_X1_trueTime) oX1_trueTime_90) (bt_node (bt_leaf (P := OKI m_X1_trueTime) oX1_trueTime_92) (bt_leaf (P := OKI m_X1_trueTime) oX1_trueTime_93))) (bt_node (bt_leaf (P := OKI m_X1_trueTime) oX1_trueTime_94) (bt_node (bt_leaf (P := OKI m_X1_trueTime) oX1_trueTime_97) (bt_leaf (P := OKI m_X1_trueTime) oX1_trueTime_98)))) (bt_node (bt_node (bt_leaf (P := OKI m_X1_trueTime) oX1_trueTime_99) (bt_node (bt_leaf (P := OKI m_X1_trueTime) oX1_trueTime_100) (bt_leaf (P := OKI m_X1_trueTime) oX1_trueTime_101))) (bt_node (bt_leaf (P := OKI m_X1_trueTime) oX1_trueTime_102) (bt_node (bt_leaf (P := OKI m_X1_trueTime) oX1_trueTime_105) (bt_leaf (P := OKI m_X1_trueTime) oX1_trueTime_106)))))) (bt_node (bt_node (bt_node (bt_node (bt_leaf (P := OKI m_X1_trueTime) oX1_trueTime_107) (bt_node (bt_leaf (P := OKI m_X1_trueTime) oX1_trueTime_108) (bt_leaf (P := OKI m_X1_trueTime) oX1_trueTime_109))) (bt_node (bt_leaf (P := OKI m_X1_trueTime) oX1_trueTime_111) (bt_node (bt_leaf (P := OKI m_X1_trueTime) oX1_trueTime_112) (bt_leaf (P := OKI m_X1_trueTime) oX1_trueTime_113)))) (bt_node (bt_node (bt_leaf (P := OKI m_X1_trueTime) oX1_trueTime_116) (bt_node (bt_leaf (P := OKI m_X1_trueTime) oX1_trueTime_117) (bt_leaf (P := OKI m_X1_trueTime) oX1_trueTime_118))) (bt_node (bt_leaf (P := OKI m_X1_trueTime) oX1_trueTime_119) (bt_node (bt_leaf (P := OKI m_X1_trueTime) oX1_trueTime_120) (bt_leaf (P := OKI m_X1_trueTime) oX1_trueTime_122))))) (bt_node (bt_node (bt_node (bt_leaf (P := OKI m_X1_trueTime) oX1_trueTime_123) (bt_node (bt_leaf (P := OKI m_X1_trueTime) oX1_trueTime_126) (bt_leaf (P := OKI m_X1_trueTime) oX1_trueTime_127))) (bt_node (bt_leaf (P := OKI m_X1_trueTime) oX1_trueTime_128) (bt_node (bt_leaf (P := OKI m_X1_trueTime) oX1_trueTime_129) (bt_leaf (P := OKI m_X1_trueTime) oX1_trueTime_131)))) (bt_node (bt_node (bt_leaf (P := OKI m_X1_trueTime) oX1_trueTime_133) (bt_node (bt_leaf (P := OKI m_X1_trueTime) oX1_trueTime_134) (bt_leaf (P := OKI m_X1_trueTime) oX1_trueTime_135))) (bt_node (bt_leaf (P := OKI m_X1_trueTime) oX1_trueTime_138) (bt_node (bt_leaf (P := OKI m_X1_trueTime) oX1_trueTime_139) (bt_leaf (P := OKI m_X1_trueTime) oX1_trueTime_142)))))))) : pfX1_trueTime pc = some Y → OKI m_X1_trueTime pc Y)
def stpX1_trueTime (pc : Nat) : Option (List Bool) := (bif Nat.blt pc 67 then (bif Nat.beq pc 15 then some [false, false, false, false, false, false, false, false, false] else none) else (bif Nat.beq pc 67 then some [true, true, true, false, false, false, false, false, false] else none))
def bX1_trueTime_0 (d rc rs : Nat) (t : Nat) (a1 : Int32) (σ : XH) (Q : XV → XH → Prop) : Prop :=
  ((((hi σ 2 t 4) = 0 → Ex d rc rs m_X1_trueTime 15 [vU, vU, vU, vU, vU, vU, vU, vU, vU] [] σ Q) ∧ (¬ (hi σ 2 t 4) = 0 → ((1 ≤ d ∧ Ec (d - 1) 0 0 m_X1_isGoingAt [vR (some (2, t)), vI a1] σ (kI fun x2 h1 => ((x2 = 0 → Ex d rc rs m_X1_trueTime 15 [vU, vU, vU, vU, vU, vU, vU, vU, vU] [] h1 Q) ∧ (¬ x2 = 0 → ((((hi h1 2 t 4) = 1 → ((hr h1 2 t 3 = some (102, t) ∧ ((vp_in 0 (hn h1 102 t) ∧ ((hr h1 2 t 2 = some (101, t) ∧ ((vp_in 0 (hn h1 101 t) ∧ (1 ≤ d ∧ Ec (d - 1) 0 0 m_X1_trueTimeOrNone [vL ((((hi h1 102 t (0 : Int32).toNatClampNeg).toInt64) + a1.toInt64) - ((hi h1 101 t (0 : Int32).toNatClampNeg).toInt64))] h1 (kI fun x10 h9 => Q (vI x10) h9))))))))))) ∧ (¬ (hi h1 2 t 4) = 1 → ((1 ≤ d ∧ Ec (d - 1) 0 0 m_X1_lastStarUpTo [vR (some (2, t)), vI a1] h1 (kI fun x4 h3 => ((1 ≤ d ∧ Ec (d - 1) 0 0 m_J9_min_7cf53 [vI x4, vI ((hi h3 2 t 4) - 2)] h3 (kI fun x6 h5 => (1 ≤ d ∧ Ec (d - 1) 0 0 m_J9_max_7cf53 [vI 0, vI x6] h5 (kI fun x8 h7 => Ex d rc rs m_X1_trueTime 67 [vR (some (2, t)), vI a1, vI x8, vU, vU, vU, vU, vU, vU] [] h7 Q)))))))))))))))))))
theorem sX1_trueTime_0 {d rc rs : Nat} {t : Nat} {a1 : Int32} {σ : XH} {Q : XV → XH → Prop} (h : bX1_trueTime_0 d rc rs t a1 σ Q) : Ex d rc rs m_X1_trueTime 0 [vR (some (2, t)), vI a1, vU, vU, vU, vU, vU, vU, vU] [] σ Q :=
  xtree_sound (stop := stpX1_trueTime) okX1_trueTime 29 _ _ _ _ _ _ h
def bX1_trueTime_15 (d rc rs : Nat)  (σ : XH) (Q : XV → XH → Prop) : Prop :=
  Q (vI (-1000000000)) σ
theorem sX1_trueTime_15 {d rc rs : Nat}  {σ : XH} {Q : XV → XH → Prop} (h : bX1_trueTime_15 d rc rs  σ Q) : Ex d rc rs m_X1_trueTime 15 [vU, vU, vU, vU, vU, vU, vU, vU, vU] [] σ Q :=
  xtree_sound (stop := stpX1_trueTime) okX1_trueTime 4 _ _ _ _ _ _ h
def bX1_trueTime_67 (d rc rs : Nat) (t : Nat) (l1 : Int32) (l2 : Int32) (σ : XH) (Q : XV → XH → Prop) : Prop :=
  ((hr σ 2 t 2 = some (101, t) ∧ ((vp_in (l2 + 1) (hn σ 101 t) ∧ ((hr σ 2 t 2 = some (101, t) ∧ ((vp_in l2 (hn σ 101 t) ∧ ((0 < (lg_cmp (((hi σ 101 t (l2 + 1).toNatClampNeg) - (hi σ 101 t l2.toNatClampNeg)).toInt64) 0) → ((hr σ 2 t 3 = some (102, t) ∧ ((vp_in (l2 + 1) (hn σ 102 t) ∧ ((hr σ 2 t 3 = some (102, t) ∧ ((vp_in l2 (hn σ 102 t) ∧ ((hr σ 2 t 2 = some (101, t) ∧ ((vp_in l2 (hn σ 101 t) ∧ ((hr σ 2 t 3 = some (102, t) ∧ ((vp_in l2 (hn σ 102 t) ∧ (1 ≤ d ∧ Ec (d - 1) 0 0 m_J9_floorDiv_f86c9 [vL (((l1 - (hi σ 101 t l2.toNatClampNeg)).toInt64) * (((hi σ 102 t (l2 + 1).toNatClampNeg) - (hi σ 102 t l2.toNatClampNeg)).toInt64)), vL (((hi σ 101 t (l2 + 1).toNatClampNeg) - (hi σ 101 t l2.toNatClampNeg)).toInt64)] σ (kL fun x2 h1 => (1 ≤ d ∧ Ec (d - 1) 0 0 m_X1_trueTimeOrNone [vL (((hi σ 102 t l2.toNatClampNeg).toInt64) + x2)] h1 (kI fun x4 h3 => Q (vI x4) h3))))))))))))))))))))) ∧ (¬ 0 < (lg_cmp (((hi σ 101 t (l2 + 1).toNatClampNeg) - (hi σ 101 t l2.toNatClampNeg)).toInt64) 0) → Q (vI (-1000000000)) σ))))))))))
set_option maxRecDepth 40000 in
set_option maxHeartbeats 4000000 in
theorem sX1_trueTime_67 {d rc rs : Nat} {t : Nat} {l1 : Int32} {l2 : Int32} {σ : XH} {Q : XV → XH → Prop} (h : bX1_trueTime_67 d rc rs t l1 l2 σ Q) : Ex d rc rs m_X1_trueTime 67 [vR (some (2, t)), vI l1, vI l2, vU, vU, vU, vU, vU, vU] [] σ Q :=
  xtree_sound (stop := stpX1_trueTime) okX1_trueTime 53 _ _ _ _ _ _ h
/-! SpotTimers$Clock.trueTimeOrNone(J)I -/
theorem dX1_trueTimeOrNone_0 : decode cX1_trueTimeOrNone 0 = .ok (.lload_n 0, 1) := by decide +kernel
theorem dX1_trueTimeOrNone_1 : decode cX1_trueTimeOrNone 1 = .ok (.ldc2_w 62, 3) := by decide +kernel
theorem dX1_trueTimeOrNone_4 : decode cX1_trueTimeOrNone 4 = .ok (.lcmp, 1) := by decide +kernel
theorem dX1_trueTimeOrNone_5 : decode cX1_trueTimeOrNone 5 = .ok (.ifCond .lt 11, 3) := by decide +kernel
theorem dX1_trueTimeOrNone_8 : decode cX1_trueTimeOrNone 8 = .ok (.lload_n 0, 1) := by decide +kernel
theorem dX1_trueTimeOrNone_9 : decode cX1_trueTimeOrNone 9 = .ok (.ldc2_w 64, 3) := by decide +kernel
theorem dX1_trueTimeOrNone_12 : decode cX1_trueTimeOrNone 12 = .ok (.lcmp, 1) := by decide +kernel
theorem dX1_trueTimeOrNone_13 : decode cX1_trueTimeOrNone 13 = .ok (.ifCond .le 8, 3) := by decide +kernel
theorem dX1_trueTimeOrNone_16 : decode cX1_trueTimeOrNone 16 = .ok (.ldc 22, 2) := by decide +kernel
theorem dX1_trueTimeOrNone_18 : decode cX1_trueTimeOrNone 18 = .ok (.goto 5, 3) := by decide +kernel
theorem dX1_trueTimeOrNone_21 : decode cX1_trueTimeOrNone 21 = .ok (.lload_n 0, 1) := by decide +kernel
theorem dX1_trueTimeOrNone_22 : decode cX1_trueTimeOrNone 22 = .ok (.l2i, 1) := by decide +kernel
theorem dX1_trueTimeOrNone_23 : decode cX1_trueTimeOrNone 23 = .ok (.ireturn, 1) := by decide +kernel
theorem oX1_trueTimeOrNone_0 : OKI 12 0 (.lload_n 0, 1, [0], 0, 0, []) := And.intro dX1_trueTimeOrNone_0 (And.intro rfl (rfl))
theorem oX1_trueTimeOrNone_1 : OKI 12 1 (.ldc2_w 62, 4, [], 0, (-2000000), []) := And.intro dX1_trueTimeOrNone_1 (And.intro rfl (tm_3 _ (List.mem_of_getElem? (i := 16) rfl) rfl))
theorem oX1_trueTimeOrNone_4 : OKI 12 4 (.lcmp, 5, [], 0, 0, []) := And.intro dX1_trueTimeOrNone_4 rfl
theorem oX1_trueTimeOrNone_5 : OKI 12 5 (.ifCond .lt 11, 8, [16], 0, 0, []) := And.intro dX1_trueTimeOrNone_5 (And.intro rfl (by decide))
theorem oX1_trueTimeOrNone_8 : OKI 12 8 (.lload_n 0, 9, [0], 0, 0, []) := And.intro dX1_trueTimeOrNone_8 (And.intro rfl (rfl))
theorem oX1_trueTimeOrNone_9 : OKI 12 9 (.ldc2_w 64, 12, [], 0, 2000000, []) := And.intro dX1_trueTimeOrNone_9 (And.intro rfl (tm_3 _ (List.mem_of_getElem? (i := 17) rfl) rfl))
theorem oX1_trueTimeOrNone_12 : OKI 12 12 (.lcmp, 13, [], 0, 0, []) := And.intro dX1_trueTimeOrNone_12 rfl
theorem oX1_trueTimeOrNone_13 : OKI 12 13 (.ifCond .le 8, 16, [21], 0, 0, []) := And.intro dX1_trueTimeOrNone_13 (And.intro rfl (by decide))
theorem oX1_trueTimeOrNone_16 : OKI 12 16 (.ldc 22, 18, [], (-1000000000), 0, []) := And.intro dX1_trueTimeOrNone_16 (And.intro rfl (tm_2 _ (List.mem_of_getElem? (i := 174) rfl) rfl))
theorem oX1_trueTimeOrNone_18 : OKI 12 18 (.goto 5, 21, [23], 0, 0, []) := And.intro dX1_trueTimeOrNone_18 (And.intro rfl (by decide))
theorem oX1_trueTimeOrNone_21 : OKI 12 21 (.lload_n 0, 22, [0], 0, 0, []) := And.intro dX1_trueTimeOrNone_21 (And.intro rfl (rfl))
theorem oX1_trueTimeOrNone_22 : OKI 12 22 (.l2i, 23, [], 0, 0, []) := And.intro dX1_trueTimeOrNone_22 rfl
theorem oX1_trueTimeOrNone_23 : OKI 12 23 (.ireturn, 24, [0], 0, 0, []) := And.intro dX1_trueTimeOrNone_23 (Or.inl (And.intro rfl rfl))
def pfX1_trueTimeOrNone (pc : Nat) : Option XE := (bif Nat.blt pc 12 then (bif Nat.blt pc 5 then (bif Nat.blt pc 1 then (bif Nat.beq pc 0 then some (.lload_n 0, 1, [0], 0, 0, []) else none) else (bif Nat.blt pc 4 then (bif Nat.beq pc 1 then some (.ldc2_w 62, 4, [], 0, (-2000000), []) else none) else (bif Nat.beq pc 4 then some (.lcmp, 5, [], 0, 0, []) else none))) else (bif Nat.blt pc 8 then (bif Nat.beq pc 5 then some (.ifCond .lt 11, 8, [16], 0, 0, []) else none) else (bif Nat.blt pc 9 then (bif Nat.beq pc 8 then some (.lload_n 0, 9, [0], 0, 0, []) else none) else (bif Nat.beq pc 9 then some (.ldc2_w 64, 12, [], 0, 2000000, []) else none)))) else (bif Nat.blt pc 18 then (bif Nat.blt pc 13 then (bif Nat.beq pc 12 then some (.lcmp, 13, [], 0, 0, []) else none) else (bif Nat.blt pc 16 then (bif Nat.beq pc 13 then some (.ifCond .le 8, 16, [21], 0, 0, []) else none) else (bif Nat.beq pc 16 then some (.ldc 22, 18, [], (-1000000000), 0, []) else none))) else (bif Nat.blt pc 22 then (bif Nat.blt pc 21 then (bif Nat.beq pc 18 then some (.goto 5, 21, [23], 0, 0, []) else none) else (bif Nat.beq pc 21 then some (.lload_n 0, 22, [0], 0, 0, []) else none)) else (bif Nat.blt pc 23 then (bif Nat.beq pc 22 then some (.l2i, 23, [], 0, 0, []) else none) else (bif Nat.beq pc 23 then some (.ireturn, 24, [0], 0, 0, []) else none)))))
theorem okX1_trueTimeOrNone : ∀ pc Y, pfX1_trueTimeOrNone pc = some Y → OKI m_X1_trueTimeOrNone pc Y := fun pc Y => ((bt_node (bt_node (bt_node (bt_leaf (P := OKI m_X1_trueTimeOrNone) oX1_trueTimeOrNone_0) (bt_node (bt_leaf (P := OKI m_X1_trueTimeOrNone) oX1_trueTimeOrNone_1) (bt_leaf (P := OKI m_X1_trueTimeOrNone) oX1_trueTimeOrNone_4))) (bt_node (bt_leaf (P := OKI m_X1_trueTimeOrNone) oX1_trueTimeOrNone_5) (bt_node (bt_leaf (P := OKI m_X1_trueTimeOrNone) oX1_trueTimeOrNone_8) (bt_leaf (P := OKI m_X1_trueTimeOrNone) oX1_trueTimeOrNone_9)))) (bt_node (bt_node (bt_leaf (P := OKI m_X1_trueTimeOrNone) oX1_trueTimeOrNone_12) (bt_node (bt_leaf (P := OKI m_X1_trueTimeOrNone) oX1_trueTimeOrNone_13) (bt_leaf (P := OKI m_X1_trueTimeOrNone) oX1_trueTimeOrNone_16))) (bt_node (bt_node (bt_leaf (P := OKI m_X1_trueTimeOrNone) oX1_trueTimeOrNone_18) (bt_leaf (P := OKI m_X1_trueTimeOrNone) oX1_trueTimeOrNone_21)) (bt_node (bt_leaf (P := OKI m_X1_trueTimeOrNone) oX1_trueTimeOrNone_22) (bt_leaf (P := OKI m_X1_trueTimeOrNone) oX1_trueTimeOrNone_23))))) : pfX1_trueTimeOrNone pc = some Y → OKI m_X1_trueTimeOrNone pc Y)
def stpX1_trueTimeOrNone (pc : Nat) : Option (List Bool) := (bif Nat.blt pc 23 then (bif Nat.beq pc 16 then some [false, false] else none) else (bif Nat.beq pc 23 then some [false, false] else none))
def bX1_trueTimeOrNone_0 (d rc rs : Nat) (a1 : Int64) (σ : XH) (Q : XV → XH → Prop) : Prop :=
  (((lg_cmp a1 (-2000000)) < 0 → Ex d rc rs m_X1_trueTimeOrNone 16 [vU, vU] [] σ Q) ∧ (¬ (lg_cmp a1 (-2000000)) < 0 → ((0 < (lg_cmp a1 2000000) → Ex d rc rs m_X1_trueTimeOrNone 16 [vU, vU] [] σ Q) ∧ (¬ 0 < (lg_cmp a1 2000000) → Ex d rc rs m_X1_trueTimeOrNone 23 [vU, vU] [vI a1.toInt32] σ Q))))
theorem sX1_trueTimeOrNone_0 {d rc rs : Nat} {a1 : Int64} {σ : XH} {Q : XV → XH → Prop} (h : bX1_trueTimeOrNone_0 d rc rs a1 σ Q) : Ex d rc rs m_X1_trueTimeOrNone 0 [vL a1, vU] [] σ Q :=
  xtree_sound (stop := stpX1_trueTimeOrNone) okX1_trueTimeOrNone 12 _ _ _ _ _ _ h
def bX1_trueTimeOrNone_16 (d rc rs : Nat)  (σ : XH) (Q : XV → XH → Prop) : Prop :=
  Ex d rc rs m_X1_trueTimeOrNone 23 [vU, vU] [vI (-1000000000)] σ Q
theorem sX1_trueTimeOrNone_16 {d rc rs : Nat}  {σ : XH} {Q : XV → XH → Prop} (h : bX1_trueTimeOrNone_16 d rc rs  σ Q) : Ex d rc rs m_X1_trueTimeOrNone 16 [vU, vU] [] σ Q :=
  xtree_sound (stop := stpX1_trueTimeOrNone) okX1_trueTimeOrNone 4 _ _ _ _ _ _ h
def bX1_trueTimeOrNone_23 (d rc rs : Nat) (q0 : Int32) (σ : XH) (Q : XV → XH → Prop) : Prop :=
  Q (vI q0) σ
theorem sX1_trueTimeOrNone_23 {d rc rs : Nat} {q0 : Int32} {σ : XH} {Q : XV → XH → Prop} (h : bX1_trueTimeOrNone_23 d rc rs q0 σ Q) : Ex d rc rs m_X1_trueTimeOrNone 23 [vU, vU] [vI q0] σ Q :=
  xtree_sound (stop := stpX1_trueTimeOrNone) okX1_trueTimeOrNone 3 _ _ _ _ _ _ h
/-! SpotTimers$Letter.<init>(IIII)V -/
theorem dX2_init_0 : decode cX2_init 0 = .ok (.aload_n 0, 1) := by decide +kernel
theorem dX2_init_1 : decode cX2_init 1 = .ok (.invokespecial 1, 3) := by decide +kernel
theorem dX2_init_4 : decode cX2_init 4 = .ok (.aload_n 0, 1) := by decide +kernel
theorem dX2_init_5 : decode cX2_init 5 = .ok (.iload_n 1, 1) := by decide +kernel
theorem dX2_init_6 : decode cX2_init 6 = .ok (.putfield 7, 3) := by decide +kernel
theorem dX2_init_9 : decode cX2_init 9 = .ok (.aload_n 0, 1) := by decide +kernel
theorem dX2_init_10 : decode cX2_init 10 = .ok (.iload_n 2, 1) := by decide +kernel
theorem dX2_init_11 : decode cX2_init 11 = .ok (.putfield 13, 3) := by decide +kernel
theorem dX2_init_14 : decode cX2_init 14 = .ok (.aload_n 0, 1) := by decide +kernel
theorem dX2_init_15 : decode cX2_init 15 = .ok (.iload_n 3, 1) := by decide +kernel
theorem dX2_init_16 : decode cX2_init 16 = .ok (.putfield 16, 3) := by decide +kernel
theorem dX2_init_19 : decode cX2_init 19 = .ok (.aload_n 0, 1) := by decide +kernel
theorem dX2_init_20 : decode cX2_init 20 = .ok (.iload 4, 2) := by decide +kernel
theorem dX2_init_22 : decode cX2_init 22 = .ok (.putfield 19, 3) := by decide +kernel
theorem dX2_init_25 : decode cX2_init 25 = .ok (.return_, 1) := by decide +kernel
theorem oX2_init_0 : OKI 13 0 (.aload_n 0, 1, [0], 0, 0, []) := And.intro dX2_init_0 (And.intro rfl (rfl))
theorem oX2_init_1 : OKI 13 1 (.invokespecial 1, 4, [9004], 0, 0, []) := And.intro dX2_init_1 (And.intro rfl (And.intro rfl (And.intro (tm_3 _ (List.mem_of_getElem? (i := 193) rfl) rfl) (And.intro (tm_1 _ (List.mem_of_getElem? (i := 32) rfl) rfl) (tm_1 _ (List.mem_of_getElem? (i := 33) rfl) rfl)))))
theorem oX2_init_4 : OKI 13 4 (.aload_n 0, 5, [0], 0, 0, []) := And.intro dX2_init_4 (And.intro rfl (rfl))
theorem oX2_init_5 : OKI 13 5 (.iload_n 1, 6, [1], 0, 0, []) := And.intro dX2_init_5 (And.intro rfl (rfl))
theorem oX2_init_6 : OKI 13 6 (.putfield 7, 9, [3, 0, 0], 0, 0, []) := And.intro dX2_init_6 (And.intro rfl (⟨(RX2, TX2, 4), "SpotTimers$Letter", rfl, by decide, tm_3 _ (List.mem_of_getElem? (i := 194) rfl) rfl, Or.inl rfl, Or.inr (And.intro rfl (And.intro rfl rfl)), rfl⟩))
theorem oX2_init_9 : OKI 13 9 (.aload_n 0, 10, [0], 0, 0, []) := And.intro dX2_init_9 (And.intro rfl (rfl))
theorem oX2_init_10 : OKI 13 10 (.iload_n 2, 11, [2], 0, 0, []) := And.intro dX2_init_10 (And.intro rfl (rfl))
theorem oX2_init_11 : OKI 13 11 (.putfield 13, 14, [3, 1, 0], 0, 0, []) := And.intro dX2_init_11 (And.intro rfl (⟨(RX2, TX2, 4), "SpotTimers$Letter", rfl, by decide, tm_3 _ (List.mem_of_getElem? (i := 196) rfl) rfl, Or.inl rfl, Or.inr (And.intro rfl (And.intro rfl rfl)), rfl⟩))
theorem oX2_init_14 : OKI 13 14 (.aload_n 0, 15, [0], 0, 0, []) := And.intro dX2_init_14 (And.intro rfl (rfl))
theorem oX2_init_15 : OKI 13 15 (.iload_n 3, 16, [3], 0, 0, []) := And.intro dX2_init_15 (And.intro rfl (rfl))
theorem oX2_init_16 : OKI 13 16 (.putfield 16, 19, [3, 2, 0], 0, 0, []) := And.intro dX2_init_16 (And.intro rfl (⟨(RX2, TX2, 4), "SpotTimers$Letter", rfl, by decide, tm_3 _ (List.mem_of_getElem? (i := 198) rfl) rfl, Or.inl rfl, Or.inr (And.intro rfl (And.intro rfl rfl)), rfl⟩))
theorem oX2_init_19 : OKI 13 19 (.aload_n 0, 20, [0], 0, 0, []) := And.intro dX2_init_19 (And.intro rfl (rfl))
theorem oX2_init_20 : OKI 13 20 (.iload 4, 22, [4], 0, 0, []) := And.intro dX2_init_20 (And.intro rfl (rfl))
theorem oX2_init_22 : OKI 13 22 (.putfield 19, 25, [3, 3, 0], 0, 0, []) := And.intro dX2_init_22 (And.intro rfl (⟨(RX2, TX2, 4), "SpotTimers$Letter", rfl, by decide, tm_3 _ (List.mem_of_getElem? (i := 200) rfl) rfl, Or.inl rfl, Or.inr (And.intro rfl (And.intro rfl rfl)), rfl⟩))
theorem oX2_init_25 : OKI 13 25 (.return_, 26, [], 0, 0, []) := And.intro dX2_init_25 rfl
def pfX2_init (pc : Nat) : Option XE := (bif Nat.blt pc 11 then (bif Nat.blt pc 5 then (bif Nat.blt pc 1 then (bif Nat.beq pc 0 then some (.aload_n 0, 1, [0], 0, 0, []) else none) else (bif Nat.blt pc 4 then (bif Nat.beq pc 1 then some (.invokespecial 1, 4, [9004], 0, 0, []) else none) else (bif Nat.beq pc 4 then some (.aload_n 0, 5, [0], 0, 0, []) else none))) else (bif Nat.blt pc 9 then (bif Nat.blt pc 6 then (bif Nat.beq pc 5 then some (.iload_n 1, 6, [1], 0, 0, []) else none) else (bif Nat.beq pc 6 then some (.putfield 7, 9, [3, 0, 0], 0, 0, []) else none)) else (bif Nat.blt pc 10 then (bif Nat.beq pc 9 then some (.aload_n 0, 10, [0], 0, 0, []) else none) else (bif Nat.beq pc 10 then some (.iload_n 2, 11, [2], 0, 0, []) else none)))) else (bif Nat.blt pc 19 then (bif Nat.blt pc 15 then (bif Nat.blt pc 14 then (bif Nat.beq pc 11 then some (.putfield 13, 14, [3, 1, 0], 0, 0, []) else none) else (bif Nat.beq pc 14 then some (.aload_n 0, 15, [0], 0, 0, []) else none)) else (bif Nat.blt pc 16 then (bif Nat.beq pc 15 then some (.iload_n 3, 16, [3], 0, 0, []) else none) else (bif Nat.beq pc 16 then some (.putfield 16, 19, [3, 2, 0], 0, 0, []) else none))) else (bif Nat.blt pc 22 then (bif Nat.blt pc 20 then (bif Nat.beq pc 19 then some (.aload_n 0, 20, [0], 0, 0, []) else none) else (bif Nat.beq pc 20 then some (.iload 4, 22, [4], 0, 0, []) else none)) else (bif Nat.blt pc 25 then (bif Nat.beq pc 22 then some (.putfield 19, 25, [3, 3, 0], 0, 0, []) else none) else (bif Nat.beq pc 25 then some (.return_, 26, [], 0, 0, []) else none)))))
theorem okX2_init : ∀ pc Y, pfX2_init pc = some Y → OKI m_X2_init pc Y := fun pc Y => ((bt_node (bt_node (bt_node (bt_leaf (P := OKI m_X2_init) oX2_init_0) (bt_node (bt_leaf (P := OKI m_X2_init) oX2_init_1) (bt_leaf (P := OKI m_X2_init) oX2_init_4))) (bt_node (bt_node (bt_leaf (P := OKI m_X2_init) oX2_init_5) (bt_leaf (P := OKI m_X2_init) oX2_init_6)) (bt_node (bt_leaf (P := OKI m_X2_init) oX2_init_9) (bt_leaf (P := OKI m_X2_init) oX2_init_10)))) (bt_node (bt_node (bt_node (bt_leaf (P := OKI m_X2_init) oX2_init_11) (bt_leaf (P := OKI m_X2_init) oX2_init_14)) (bt_node (bt_leaf (P := OKI m_X2_init) oX2_init_15) (bt_leaf (P := OKI m_X2_init) oX2_init_16))) (bt_node (bt_node (bt_leaf (P := OKI m_X2_init) oX2_init_19) (bt_leaf (P := OKI m_X2_init) oX2_init_20)) (bt_node (bt_leaf (P := OKI m_X2_init) oX2_init_22) (bt_leaf (P := OKI m_X2_init) oX2_init_25))))) : pfX2_init pc = some Y → OKI m_X2_init pc Y)
def stpX2_init (_ : Nat) : Option (List Bool) := none
def bX2_init_0 (d rc rs : Nat) (t : Nat) (a1 : Int32) (a2 : Int32) (a3 : Int32) (a4 : Int32) (σ : XH) (Q : XV → XH → Prop) : Prop :=
  ((1 ≤ d ∧ ((∀ h1, h1 = wI σ 3 t 0 a1 → ((∀ h2, h2 = wI h1 3 t 1 a2 → ((∀ h3, h3 = wI h2 3 t 2 a3 → ((∀ h4, h4 = wI h3 3 t 3 a4 → Q vU h4))))))))))
theorem sX2_init_0 {d rc rs : Nat} {t : Nat} {a1 : Int32} {a2 : Int32} {a3 : Int32} {a4 : Int32} {σ : XH} {Q : XV → XH → Prop} (h : bX2_init_0 d rc rs t a1 a2 a3 a4 σ Q) : Ex d rc rs m_X2_init 0 [vR (some (3, t)), vI a1, vI a2, vI a3, vI a4] [] σ Q :=
  xtree_sound (stop := stpX2_init) okX2_init 17 _ _ _ _ _ _ h
/-! SpotTimers$Place.<init>(II)V -/
theorem dX3_init_0 : decode cX3_init 0 = .ok (.aload_n 0, 1) := by decide +kernel
theorem dX3_init_1 : decode cX3_init 1 = .ok (.invokespecial 1, 3) := by decide +kernel
theorem dX3_init_4 : decode cX3_init 4 = .ok (.aload_n 0, 1) := by decide +kernel
theorem dX3_init_5 : decode cX3_init 5 = .ok (.iload_n 1, 1) := by decide +kernel
theorem dX3_init_6 : decode cX3_init 6 = .ok (.putfield 7, 3) := by decide +kernel
theorem dX3_init_9 : decode cX3_init 9 = .ok (.aload_n 0, 1) := by decide +kernel
theorem dX3_init_10 : decode cX3_init 10 = .ok (.iload_n 2, 1) := by decide +kernel
theorem dX3_init_11 : decode cX3_init 11 = .ok (.putfield 13, 3) := by decide +kernel
theorem dX3_init_14 : decode cX3_init 14 = .ok (.return_, 1) := by decide +kernel
theorem oX3_init_0 : OKI 14 0 (.aload_n 0, 1, [0], 0, 0, []) := And.intro dX3_init_0 (And.intro rfl (rfl))
theorem oX3_init_1 : OKI 14 1 (.invokespecial 1, 4, [9004], 0, 0, []) := And.intro dX3_init_1 (And.intro rfl (And.intro rfl (And.intro (tm_5 _ (List.mem_of_getElem? (i := 64) rfl) rfl) (And.intro (tm_1 _ (List.mem_of_getElem? (i := 32) rfl) rfl) (tm_1 _ (List.mem_of_getElem? (i := 33) rfl) rfl)))))
theorem oX3_init_4 : OKI 14 4 (.aload_n 0, 5, [0], 0, 0, []) := And.intro dX3_init_4 (And.intro rfl (rfl))
theorem oX3_init_5 : OKI 14 5 (.iload_n 1, 6, [1], 0, 0, []) := And.intro dX3_init_5 (And.intro rfl (rfl))
theorem oX3_init_6 : OKI 14 6 (.putfield 7, 9, [4, 0, 0], 0, 0, []) := And.intro dX3_init_6 (And.intro rfl (⟨(RX3, TX3, 2), "SpotTimers$Place", rfl, by decide, tm_5 _ (List.mem_of_getElem? (i := 65) rfl) rfl, Or.inl rfl, Or.inr (And.intro rfl (And.intro rfl rfl)), rfl⟩))
theorem oX3_init_9 : OKI 14 9 (.aload_n 0, 10, [0], 0, 0, []) := And.intro dX3_init_9 (And.intro rfl (rfl))
theorem oX3_init_10 : OKI 14 10 (.iload_n 2, 11, [2], 0, 0, []) := And.intro dX3_init_10 (And.intro rfl (rfl))
theorem oX3_init_11 : OKI 14 11 (.putfield 13, 14, [4, 1, 0], 0, 0, []) := And.intro dX3_init_11 (And.intro rfl (⟨(RX3, TX3, 2), "SpotTimers$Place", rfl, by decide, tm_5 _ (List.mem_of_getElem? (i := 67) rfl) rfl, Or.inl rfl, Or.inr (And.intro rfl (And.intro rfl rfl)), rfl⟩))
theorem oX3_init_14 : OKI 14 14 (.return_, 15, [], 0, 0, []) := And.intro dX3_init_14 rfl
def pfX3_init (pc : Nat) : Option XE := (bif Nat.blt pc 6 then (bif Nat.blt pc 4 then (bif Nat.blt pc 1 then (bif Nat.beq pc 0 then some (.aload_n 0, 1, [0], 0, 0, []) else none) else (bif Nat.beq pc 1 then some (.invokespecial 1, 4, [9004], 0, 0, []) else none)) else (bif Nat.blt pc 5 then (bif Nat.beq pc 4 then some (.aload_n 0, 5, [0], 0, 0, []) else none) else (bif Nat.beq pc 5 then some (.iload_n 1, 6, [1], 0, 0, []) else none))) else (bif Nat.blt pc 10 then (bif Nat.blt pc 9 then (bif Nat.beq pc 6 then some (.putfield 7, 9, [4, 0, 0], 0, 0, []) else none) else (bif Nat.beq pc 9 then some (.aload_n 0, 10, [0], 0, 0, []) else none)) else (bif Nat.blt pc 11 then (bif Nat.beq pc 10 then some (.iload_n 2, 11, [2], 0, 0, []) else none) else (bif Nat.blt pc 14 then (bif Nat.beq pc 11 then some (.putfield 13, 14, [4, 1, 0], 0, 0, []) else none) else (bif Nat.beq pc 14 then some (.return_, 15, [], 0, 0, []) else none)))))
theorem okX3_init : ∀ pc Y, pfX3_init pc = some Y → OKI m_X3_init pc Y := fun pc Y => ((bt_node (bt_node (bt_node (bt_leaf (P := OKI m_X3_init) oX3_init_0) (bt_leaf (P := OKI m_X3_init) oX3_init_1)) (bt_node (bt_leaf (P := OKI m_X3_init) oX3_init_4) (bt_leaf (P := OKI m_X3_init) oX3_init_5))) (bt_node (bt_node (bt_leaf (P := OKI m_X3_init) oX3_init_6) (bt_leaf (P := OKI m_X3_init) oX3_init_9)) (bt_node (bt_leaf (P := OKI m_X3_init) oX3_init_10) (bt_node (bt_leaf (P := OKI m_X3_init) oX3_init_11) (bt_leaf (P := OKI m_X3_init) oX3_init_14))))) : pfX3_init pc = some Y → OKI m_X3_init pc Y)
def stpX3_init (_ : Nat) : Option (List Bool) := none
def bX3_init_0 (d rc rs : Nat) (t : Nat) (a1 : Int32) (a2 : Int32) (σ : XH) (Q : XV → XH → Prop) : Prop :=
  ((1 ≤ d ∧ ((∀ h1, h1 = wI σ 4 t 0 a1 → ((∀ h2, h2 = wI h1 4 t 1 a2 → Q vU h2))))))
theorem sX3_init_0 {d rc rs : Nat} {t : Nat} {a1 : Int32} {a2 : Int32} {σ : XH} {Q : XV → XH → Prop} (h : bX3_init_0 d rc rs t a1 a2 σ Q) : Ex d rc rs m_X3_init 0 [vR (some (4, t)), vI a1, vI a2] [] σ Q :=
  xtree_sound (stop := stpX3_init) okX3_init 11 _ _ _ _ _ _ h
/-! SpotTimers$Reading.<init>(IILSpotTimers$Clock;IILSpotTimers$Reading;)V -/
theorem dX4_init_0 : decode cX4_init 0 = .ok (.aload_n 0, 1) := by decide +kernel
theorem dX4_init_1 : decode cX4_init 1 = .ok (.invokespecial 3, 3) := by decide +kernel
theorem dX4_init_4 : decode cX4_init 4 = .ok (.aload_n 0, 1) := by decide +kernel
theorem dX4_init_5 : decode cX4_init 5 = .ok (.iconst 0, 1) := by decide +kernel
theorem dX4_init_6 : decode cX4_init 6 = .ok (.putfield 9, 3) := by decide +kernel
theorem dX4_init_9 : decode cX4_init 9 = .ok (.aload_n 0, 1) := by decide +kernel
theorem dX4_init_10 : decode cX4_init 10 = .ok (.iconst 0, 1) := by decide +kernel
theorem dX4_init_11 : decode cX4_init 11 = .ok (.putfield 15, 3) := by decide +kernel
theorem dX4_init_14 : decode cX4_init 14 = .ok (.aload_n 0, 1) := by decide +kernel
theorem dX4_init_15 : decode cX4_init 15 = .ok (.iconst 0, 1) := by decide +kernel
theorem dX4_init_16 : decode cX4_init 16 = .ok (.putfield 18, 3) := by decide +kernel
theorem dX4_init_19 : decode cX4_init 19 = .ok (.aload_n 0, 1) := by decide +kernel
theorem dX4_init_20 : decode cX4_init 20 = .ok (.iconst 0, 1) := by decide +kernel
theorem dX4_init_21 : decode cX4_init 21 = .ok (.putfield 21, 3) := by decide +kernel
theorem dX4_init_24 : decode cX4_init 24 = .ok (.aload_n 0, 1) := by decide +kernel
theorem dX4_init_25 : decode cX4_init 25 = .ok (.iconst 0, 1) := by decide +kernel
theorem dX4_init_26 : decode cX4_init 26 = .ok (.putfield 24, 3) := by decide +kernel
theorem dX4_init_29 : decode cX4_init 29 = .ok (.aload_n 0, 1) := by decide +kernel
theorem dX4_init_30 : decode cX4_init 30 = .ok (.iload_n 1, 1) := by decide +kernel
theorem dX4_init_31 : decode cX4_init 31 = .ok (.putfield 27, 3) := by decide +kernel
theorem dX4_init_34 : decode cX4_init 34 = .ok (.aload_n 0, 1) := by decide +kernel
theorem dX4_init_35 : decode cX4_init 35 = .ok (.iload_n 2, 1) := by decide +kernel
theorem dX4_init_36 : decode cX4_init 36 = .ok (.putfield 30, 3) := by decide +kernel
theorem dX4_init_39 : decode cX4_init 39 = .ok (.aload_n 0, 1) := by decide +kernel
theorem dX4_init_40 : decode cX4_init 40 = .ok (.aload_n 3, 1) := by decide +kernel
theorem dX4_init_41 : decode cX4_init 41 = .ok (.putfield 33, 3) := by decide +kernel
theorem dX4_init_44 : decode cX4_init 44 = .ok (.aload_n 0, 1) := by decide +kernel
theorem dX4_init_45 : decode cX4_init 45 = .ok (.iload 4, 2) := by decide +kernel
theorem dX4_init_47 : decode cX4_init 47 = .ok (.putfield 37, 3) := by decide +kernel
theorem dX4_init_50 : decode cX4_init 50 = .ok (.aload_n 0, 1) := by decide +kernel
theorem dX4_init_51 : decode cX4_init 51 = .ok (.iload 5, 2) := by decide +kernel
theorem dX4_init_53 : decode cX4_init 53 = .ok (.putfield 40, 3) := by decide +kernel
theorem dX4_init_56 : decode cX4_init 56 = .ok (.aload_n 0, 1) := by decide +kernel
theorem dX4_init_57 : decode cX4_init 57 = .ok (.aload 6, 2) := by decide +kernel
theorem dX4_init_59 : decode cX4_init 59 = .ok (.putfield 43, 3) := by decide +kernel
theorem dX4_init_62 : decode cX4_init 62 = .ok (.return_, 1) := by decide +kernel
theorem oX4_init_0 : OKI 15 0 (.aload_n 0, 1, [0], 0, 0, []) := And.intro dX4_init_0 (And.intro rfl (rfl))
theorem oX4_init_1 : OKI 15 1 (.invokespecial 3, 4, [9004], 0, 0, []) := And.intro dX4_init_1 (And.intro rfl (And.intro rfl (And.intro (tm_3 _ (List.mem_of_getElem? (i := 46) rfl) rfl) (And.intro (tm_1 _ (List.mem_of_getElem? (i := 32) rfl) rfl) (tm_1 _ (List.mem_of_getElem? (i := 33) rfl) rfl)))))
theorem oX4_init_4 : OKI 15 4 (.aload_n 0, 5, [0], 0, 0, []) := And.intro dX4_init_4 (And.intro rfl (rfl))
theorem oX4_init_5 : OKI 15 5 (.iconst 0, 6, [], 0, 0, []) := And.intro dX4_init_5 (And.intro rfl (by decide +kernel))
theorem oX4_init_6 : OKI 15 6 (.putfield 9, 9, [5, 6, 0], 0, 0, []) := And.intro dX4_init_6 (And.intro rfl (⟨(RX4, TX4, 11), "SpotTimers$Reading", rfl, by decide, tm_3 _ (List.mem_of_getElem? (i := 66) rfl) rfl, Or.inl rfl, Or.inl rfl, rfl⟩))
theorem oX4_init_9 : OKI 15 9 (.aload_n 0, 10, [0], 0, 0, []) := And.intro dX4_init_9 (And.intro rfl (rfl))
theorem oX4_init_10 : OKI 15 10 (.iconst 0, 11, [], 0, 0, []) := And.intro dX4_init_10 (And.intro rfl (by decide +kernel))
theorem oX4_init_11 : OKI 15 11 (.putfield 15, 14, [5, 7, 0], 0, 0, []) := And.intro dX4_init_11 (And.intro rfl (⟨(RX4, TX4, 11), "SpotTimers$Reading", rfl, by decide, tm_3 _ (List.mem_of_getElem? (i := 68) rfl) rfl, Or.inl rfl, Or.inl rfl, rfl⟩))
theorem oX4_init_14 : OKI 15 14 (.aload_n 0, 15, [0], 0, 0, []) := And.intro dX4_init_14 (And.intro rfl (rfl))
theorem oX4_init_15 : OKI 15 15 (.iconst 0, 16, [], 0, 0, []) := And.intro dX4_init_15 (And.intro rfl (by decide +kernel))
theorem oX4_init_16 : OKI 15 16 (.putfield 18, 19, [5, 8, 0], 0, 0, []) := And.intro dX4_init_16 (And.intro rfl (⟨(RX4, TX4, 11), "SpotTimers$Reading", rfl, by decide, tm_3 _ (List.mem_of_getElem? (i := 72) rfl) rfl, Or.inl rfl, Or.inl rfl, rfl⟩))
theorem oX4_init_19 : OKI 15 19 (.aload_n 0, 20, [0], 0, 0, []) := And.intro dX4_init_19 (And.intro rfl (rfl))
theorem oX4_init_20 : OKI 15 20 (.iconst 0, 21, [], 0, 0, []) := And.intro dX4_init_20 (And.intro rfl (by decide +kernel))
theorem oX4_init_21 : OKI 15 21 (.putfield 21, 24, [5, 9, 0], 0, 0, []) := And.intro dX4_init_21 (And.intro rfl (⟨(RX4, TX4, 11), "SpotTimers$Reading", rfl, by decide, tm_3 _ (List.mem_of_getElem? (i := 74) rfl) rfl, Or.inl rfl, Or.inl rfl, rfl⟩))
theorem oX4_init_24 : OKI 15 24 (.aload_n 0, 25, [0], 0, 0, []) := And.intro dX4_init_24 (And.intro rfl (rfl))
theorem oX4_init_25 : OKI 15 25 (.iconst 0, 26, [], 0, 0, []) := And.intro dX4_init_25 (And.intro rfl (by decide +kernel))
theorem oX4_init_26 : OKI 15 26 (.putfield 24, 29, [5, 10, 0], 0, 0, []) := And.intro dX4_init_26 (And.intro rfl (⟨(RX4, TX4, 11), "SpotTimers$Reading", rfl, by decide, tm_3 _ (List.mem_of_getElem? (i := 76) rfl) rfl, Or.inl rfl, Or.inl rfl, rfl⟩))
theorem oX4_init_29 : OKI 15 29 (.aload_n 0, 30, [0], 0, 0, []) := And.intro dX4_init_29 (And.intro rfl (rfl))
theorem oX4_init_30 : OKI 15 30 (.iload_n 1, 31, [1], 0, 0, []) := And.intro dX4_init_30 (And.intro rfl (rfl))
theorem oX4_init_31 : OKI 15 31 (.putfield 27, 34, [5, 0, 0], 0, 0, []) := And.intro dX4_init_31 (And.intro rfl (⟨(RX4, TX4, 11), "SpotTimers$Reading", rfl, by decide, tm_3 _ (List.mem_of_getElem? (i := 47) rfl) rfl, Or.inl rfl, Or.inr (And.intro rfl (And.intro rfl rfl)), rfl⟩))
theorem oX4_init_34 : OKI 15 34 (.aload_n 0, 35, [0], 0, 0, []) := And.intro dX4_init_34 (And.intro rfl (rfl))
theorem oX4_init_35 : OKI 15 35 (.iload_n 2, 36, [2], 0, 0, []) := And.intro dX4_init_35 (And.intro rfl (rfl))
theorem oX4_init_36 : OKI 15 36 (.putfield 30, 39, [5, 1, 0], 0, 0, []) := And.intro dX4_init_36 (And.intro rfl (⟨(RX4, TX4, 11), "SpotTimers$Reading", rfl, by decide, tm_3 _ (List.mem_of_getElem? (i := 51) rfl) rfl, Or.inl rfl, Or.inr (And.intro rfl (And.intro rfl rfl)), rfl⟩))
theorem oX4_init_39 : OKI 15 39 (.aload_n 0, 40, [0], 0, 0, []) := And.intro dX4_init_39 (And.intro rfl (rfl))
theorem oX4_init_40 : OKI 15 40 (.aload_n 3, 41, [3], 0, 0, []) := And.intro dX4_init_40 (And.intro rfl (rfl))
theorem oX4_init_41 : OKI 15 41 (.putfield 33, 44, [5, 2, 2], 0, 0, []) := And.intro dX4_init_41 (And.intro rfl (⟨(RX4, TX4, 11), "SpotTimers$Reading", rfl, by decide, tm_3 _ (List.mem_of_getElem? (i := 54) rfl) rfl, Or.inl rfl, Or.inr (And.intro rfl (And.intro rfl rfl)), rfl⟩))
theorem oX4_init_44 : OKI 15 44 (.aload_n 0, 45, [0], 0, 0, []) := And.intro dX4_init_44 (And.intro rfl (rfl))
theorem oX4_init_45 : OKI 15 45 (.iload 4, 47, [4], 0, 0, []) := And.intro dX4_init_45 (And.intro rfl (rfl))
theorem oX4_init_47 : OKI 15 47 (.putfield 37, 50, [5, 3, 0], 0, 0, []) := And.intro dX4_init_47 (And.intro rfl (⟨(RX4, TX4, 11), "SpotTimers$Reading", rfl, by decide, tm_3 _ (List.mem_of_getElem? (i := 58) rfl) rfl, Or.inl rfl, Or.inr (And.intro rfl (And.intro rfl rfl)), rfl⟩))
theorem oX4_init_50 : OKI 15 50 (.aload_n 0, 51, [0], 0, 0, []) := And.intro dX4_init_50 (And.intro rfl (rfl))
theorem oX4_init_51 : OKI 15 51 (.iload 5, 53, [5], 0, 0, []) := And.intro dX4_init_51 (And.intro rfl (rfl))
theorem oX4_init_53 : OKI 15 53 (.putfield 40, 56, [5, 4, 0], 0, 0, []) := And.intro dX4_init_53 (And.intro rfl (⟨(RX4, TX4, 11), "SpotTimers$Reading", rfl, by decide, tm_3 _ (List.mem_of_getElem? (i := 62) rfl) rfl, Or.inl rfl, Or.inr (And.intro rfl (And.intro rfl rfl)), rfl⟩))
theorem oX4_init_56 : OKI 15 56 (.aload_n 0, 57, [0], 0, 0, []) := And.intro dX4_init_56 (And.intro rfl (rfl))
theorem oX4_init_57 : OKI 15 57 (.aload 6, 59, [6], 0, 0, []) := And.intro dX4_init_57 (And.intro rfl (rfl))
theorem oX4_init_59 : OKI 15 59 (.putfield 43, 62, [5, 5, 2], 0, 0, []) := And.intro dX4_init_59 (And.intro rfl (⟨(RX4, TX4, 11), "SpotTimers$Reading", rfl, by decide, tm_3 _ (List.mem_of_getElem? (i := 64) rfl) rfl, Or.inl rfl, Or.inr (And.intro rfl (And.intro rfl rfl)), rfl⟩))
theorem oX4_init_62 : OKI 15 62 (.return_, 63, [], 0, 0, []) := And.intro dX4_init_62 rfl
def pfX4_init (pc : Nat) : Option XE := (bif Nat.blt pc 30 then (bif Nat.blt pc 15 then (bif Nat.blt pc 6 then (bif Nat.blt pc 4 then (bif Nat.blt pc 1 then (bif Nat.beq pc 0 then some (.aload_n 0, 1, [0], 0, 0, []) else none) else (bif Nat.beq pc 1 then some (.invokespecial 3, 4, [9004], 0, 0, []) else none)) else (bif Nat.blt pc 5 then (bif Nat.beq pc 4 then some (.aload_n 0, 5, [0], 0, 0, []) else none) else (bif Nat.beq pc 5 then some (.iconst 0, 6, [], 0, 0, []) else none))) else (bif Nat.blt pc 10 then (bif Nat.blt pc 9 then (bif Nat.beq pc 6 then some (.putfield 9, 9, [5, 6, 0], 0, 0, []) else none) else (bif Nat.beq pc 9 then some (.aload_n 0, 10, [0], 0, 0, []) else none)) else (bif Nat.blt pc 11 then (bif Nat.beq pc 10 then some (.iconst 0, 11, [], 0, 0, []) else none) else (bif Nat.blt pc 14 then (bif Nat.beq pc 11 then some (.putfield 15, 14, [5, 7, 0], 0, 0, []) else none) else (bif Nat.beq pc 14 then some (.aload_n 0, 15, [0], 0, 0, []) else none))))) else (bif Nat.blt pc 21 then (bif Nat.blt pc 19 then (bif Nat.blt pc 16 then (bif Nat.beq pc 15 then some (.iconst 0, 16, [], 0, 0, []) else none) else (bif Nat.beq pc 16 then some (.putfield 18, 19, [5, 8, 0], 0, 0, []) else none)) else (bif Nat.blt pc 20 then (bif Nat.beq pc 19 then some (.aload_n 0, 20, [0], 0, 0, []) else none) else (bif Nat.beq pc 20 then some (.iconst 0, 21, [], 0, 0, []) else none))) else (bif Nat.blt pc 25 then (bif Nat.blt pc 24 then (bif Nat.beq pc 21 then some (.putfield 21, 24, [5, 9, 0], 0, 0, []) else none) else (bif Nat.beq pc 24 then some (.aload_n 0, 25, [0], 0, 0, []) else none)) else (bif Nat.blt pc 26 then (bif Nat.beq pc 25 then some (.iconst 0, 26, [], 0, 0, []) else none) else (bif Nat.blt pc 29 then (bif Nat.beq pc 26 then some (.putfield 24, 29, [5, 10, 0], 0, 0, []) else none) else (bif Nat.beq pc 29 then some (.aload_n 0, 30, [0], 0, 0, []) else none)))))) else (bif Nat.blt pc 45 then (bif Nat.blt pc 36 then (bif Nat.blt pc 34 then (bif Nat.blt pc 31 then (bif Nat.beq pc 30 then some (.iload_n 1, 31, [1], 0, 0, []) else none) else (bif Nat.beq pc 31 then some (.putfield 27, 34, [5, 0, 0], 0, 0, []) else none)) else (bif Nat.blt pc 35 then (bif Nat.beq pc 34 then some (.aload_n 0, 35, [0], 0, 0, []) else none) else (bif Nat.beq pc 35 then some (.iload_n 2, 36, [2], 0, 0, []) else none))) else (bif Nat.blt pc 40 then (bif Nat.blt pc 39 then (bif Nat.beq pc 36 then some (.putfield 30, 39, [5, 1, 0], 0, 0, []) else none) else (bif Nat.beq pc 39 then some (.aload_n 0, 40, [0], 0, 0, []) else none)) else (bif Nat.blt pc 41 then (bif Nat.beq pc 40 then some (.aload_n 3, 41, [3], 0, 0, []) else none) else (bif Nat.blt pc 44 then (bif Nat.beq pc 41 then some (.putfield 33, 44, [5, 2, 2], 0, 0, []) else none) else (bif Nat.beq pc 44 then some (.aload_n 0, 45, [0], 0, 0, []) else none))))) else (bif Nat.blt pc 53 then (bif Nat.blt pc 50 then (bif Nat.blt pc 47 then (bif Nat.beq pc 45 then some (.iload 4, 47, [4], 0, 0, []) else none) else (bif Nat.beq pc 47 then some (.putfield 37, 50, [5, 3, 0], 0, 0, []) else none)) else (bif Nat.blt pc 51 then (bif Nat.beq pc 50 then some (.aload_n 0, 51, [0], 0, 0, []) else none) else (bif Nat.beq pc 51 then some (.iload 5, 53, [5], 0, 0, []) else none))) else (bif Nat.blt pc 57 then (bif Nat.blt pc 56 then (bif Nat.beq pc 53 then some (.putfield 40, 56, [5, 4, 0], 0, 0, []) else none) else (bif Nat.beq pc 56 then some (.aload_n 0, 57, [0], 0, 0, []) else none)) else (bif Nat.blt pc 59 then (bif Nat.beq pc 57 then some (.aload 6, 59, [6], 0, 0, []) else none) else (bif Nat.blt pc 62 then (bif Nat.beq pc 59 then some (.putfield 43, 62, [5, 5, 2], 0, 0, []) else none) else (bif Nat.beq pc 62 then some (.return_, 63, [], 0, 0, []) else none)))))))
theorem okX4_init : ∀ pc Y, pfX4_init pc = some Y → OKI m_X4_init pc Y := fun pc Y => ((bt_node (bt_node (bt_node (bt_node (bt_node (bt_leaf (P := OKI m_X4_init) oX4_init_0) (bt_leaf (P := OKI m_X4_init) oX4_init_1)) (bt_node (bt_leaf (P := OKI m_X4_init) oX4_init_4) (bt_leaf (P := OKI m_X4_init) oX4_init_5))) (bt_node (bt_node (bt_leaf (P := OKI m_X4_init) oX4_init_6) (bt_leaf (P := OKI m_X4_init) oX4_init_9)) (bt_node (bt_leaf (P := OKI m_X4_init) oX4_init_10) (bt_node (bt_leaf (P := OKI m_X4_init) oX4_init_11) (bt_leaf (P := OKI m_X4_init) oX4_init_14))))) (bt_node (bt_node (bt_node (bt_leaf (P := OKI m_X4_init) oX4_init_15) (bt_leaf (P := OKI m_X4_init) oX4_init_16)) (bt_node (bt_leaf (P := OKI m_X4_init) oX4_init_19) (bt_leaf (P := OKI m_X4_init) oX4_init_20))) (bt_node (bt_node (bt_leaf (P := OKI m_X4_init) oX4_init_21) (bt_leaf (P := OKI m_X4_init) oX4_init_24)) (bt_node (bt_leaf (P := OKI m_X4_init) oX4_init_25) (bt_node (bt_leaf (P := OKI m_X4_init) oX4_init_26) (bt_leaf (P := OKI m_X4_init) oX4_init_29)))))) (bt_node (bt_node (bt_node (bt_node (bt_leaf (P := OKI m_X4_init) oX4_init_30) (bt_leaf (P := OKI m_X4_init) oX4_init_31)) (bt_node (bt_leaf (P := OKI m_X4_init) oX4_init_34) (bt_leaf (P := OKI m_X4_init) oX4_init_35))) (bt_node (bt_node (bt_leaf (P := OKI m_X4_init) oX4_init_36) (bt_leaf (P := OKI m_X4_init) oX4_init_39)) (bt_node (bt_leaf (P := OKI m_X4_init) oX4_init_40) (bt_node (bt_leaf (P := OKI m_X4_init) oX4_init_41) (bt_leaf (P := OKI m_X4_init) oX4_init_44))))) (bt_node (bt_node (bt_node (bt_leaf (P := OKI m_X4_init) oX4_init_45) (bt_leaf (P := OKI m_X4_init) oX4_init_47)) (bt_node (bt_leaf (P := OKI m_X4_init) oX4_init_50) (bt_leaf (P := OKI m_X4_init) oX4_init_51))) (bt_node (bt_node (bt_leaf (P := OKI m_X4_init) oX4_init_53) (bt_leaf (P := OKI m_X4_init) oX4_init_56)) (bt_node (bt_leaf (P := OKI m_X4_init) oX4_init_57) (bt_node (bt_leaf (P := OKI m_X4_init) oX4_init_59) (bt_leaf (P := OKI m_X4_init) oX4_init_62))))))) : pfX4_init pc = some Y → OKI m_X4_init pc Y)
def stpX4_init (pc : Nat) : Option (List Bool) := (bif Nat.beq pc 44 then some [true, false, false, false, true, true, true] else none)
def bX4_init_0 (d rc rs : Nat) (t : Nat) (a1 : Int32) (a2 : Int32) (a3 : Option XO) (a4 : Int32) (a5 : Int32) (a6 : Option XO) (σ : XH) (Q : XV → XH → Prop) : Prop :=
  ((1 ≤ d ∧ ((∀ h1, h1 = wI σ 5 t 6 0 → ((∀ h2, h2 = wI h1 5 t 7 0 → ((∀ h3, h3 = wI h2 5 t 8 0 → ((∀ h4, h4 = wI h3 5 t 9 0 → ((∀ h5, h5 = wI h4 5 t 10 0 → ((∀ h6, h6 = wI h5 5 t 0 a1 → ((∀ h7, h7 = wI h6 5 t 1 a2 → ((∀ h8, h8 = wR h7 5 t 2 a3 → Ex d rc rs m_X4_init 44 [vR (some (5, t)), vU, vU, vU, vI a4, vI a5, vR a6] [] h8 Q))))))))))))))))))
theorem sX4_init_0 {d rc rs : Nat} {t : Nat} {a1 : Int32} {a2 : Int32} {a3 : Option XO} {a4 : Int32} {a5 : Int32} {a6 : Option XO} {σ : XH} {Q : XV → XH → Prop} (h : bX4_init_0 d rc rs t a1 a2 a3 a4 a5 a6 σ Q) : Ex d rc rs m_X4_init 0 [vR (some (5, t)), vI a1, vI a2, vR a3, vI a4, vI a5, vR a6] [] σ Q :=
  xtree_sound (stop := stpX4_init) okX4_init 28 _ _ _ _ _ _ h
def bX4_init_44 (d rc rs : Nat) (t : Nat) (l4 : Int32) (l5 : Int32) (l6 : Option XO) (σ : XH) (Q : XV → XH → Prop) : Prop :=
  ((∀ h1, h1 = wI σ 5 t 3 l4 → ((∀ h2, h2 = wI h1 5 t 4 l5 → ((∀ h3, h3 = wR h2 5 t 5 l6 → Q vU h3))))))
theorem sX4_init_44 {d rc rs : Nat} {t : Nat} {l4 : Int32} {l5 : Int32} {l6 : Option XO} {σ : XH} {Q : XV → XH → Prop} (h : bX4_init_44 d rc rs t l4 l5 l6 σ Q) : Ex d rc rs m_X4_init 44 [vR (some (5, t)), vU, vU, vU, vI l4, vI l5, vR l6] [] σ Q :=
  xtree_sound (stop := stpX4_init) okX4_init 12 _ _ _ _ _ _ h
/-! SpotTimers$Reading.isWithdrawn()Z -/
theorem dX4_isWithdrawn_0 : decode cX4_isWithdrawn 0 = .ok (.aload_n 0, 1) := by decide +kernel
theorem dX4_isWithdrawn_1 : decode cX4_isWithdrawn 1 = .ok (.getfield 24, 3) := by decide +kernel
theorem dX4_isWithdrawn_4 : decode cX4_isWithdrawn 4 = .ok (.ifCond .le 7, 3) := by decide +kernel
theorem dX4_isWithdrawn_7 : decode cX4_isWithdrawn 7 = .ok (.iconst 1, 1) := by decide +kernel
theorem dX4_isWithdrawn_8 : decode cX4_isWithdrawn 8 = .ok (.goto 4, 3) := by decide +kernel
theorem dX4_isWithdrawn_11 : decode cX4_isWithdrawn 11 = .ok (.iconst 0, 1) := by decide +kernel
theorem dX4_isWithdrawn_12 : decode cX4_isWithdrawn 12 = .ok (.ireturn, 1) := by decide +kernel
theorem oX4_isWithdrawn_0 : OKI 16 0 (.aload_n 0, 1, [0], 0, 0, []) := And.intro dX4_isWithdrawn_0 (And.intro rfl (rfl))
theorem oX4_isWithdrawn_1 : OKI 16 1 (.getfield 24, 4, [5, 10, 0], 0, 0, []) := And.intro dX4_isWithdrawn_1 (And.intro rfl (⟨(RX4, TX4, 11), "SpotTimers$Reading", rfl, by decide, tm_3 _ (List.mem_of_getElem? (i := 76) rfl) rfl, Or.inl rfl, Or.inr (Or.inr (And.intro rfl (Or.inl rfl)))⟩))
theorem oX4_isWithdrawn_4 : OKI 16 4 (.ifCond .le 7, 7, [11], 0, 0, []) := And.intro dX4_isWithdrawn_4 (And.intro rfl (by decide))
theorem oX4_isWithdrawn_7 : OKI 16 7 (.iconst 1, 8, [], 1, 0, []) := And.intro dX4_isWithdrawn_7 (And.intro rfl (by decide +kernel))
theorem oX4_isWithdrawn_8 : OKI 16 8 (.goto 4, 11, [12], 0, 0, []) := And.intro dX4_isWithdrawn_8 (And.intro rfl (by decide))
theorem oX4_isWithdrawn_11 : OKI 16 11 (.iconst 0, 12, [], 0, 0, []) := And.intro dX4_isWithdrawn_11 (And.intro rfl (by decide +kernel))
theorem oX4_isWithdrawn_12 : OKI 16 12 (.ireturn, 13, [3], 0, 0, []) := And.intro dX4_isWithdrawn_12 (Or.inr (Or.inl (And.intro rfl rfl)))
def pfX4_isWithdrawn (pc : Nat) : Option XE := (bif Nat.blt pc 7 then (bif Nat.blt pc 1 then (bif Nat.beq pc 0 then some (.aload_n 0, 1, [0], 0, 0, []) else none) else (bif Nat.blt pc 4 then (bif Nat.beq pc 1 then some (.getfield 24, 4, [5, 10, 0], 0, 0, []) else none) else (bif Nat.beq pc 4 then some (.ifCond .le 7, 7, [11], 0, 0, []) else none))) else (bif Nat.blt pc 11 then (bif Nat.blt pc 8 then (bif Nat.beq pc 7 then some (.iconst 1, 8, [], 1, 0, []) else none) else (bif Nat.beq pc 8 then some (.goto 4, 11, [12], 0, 0, []) else none)) else (bif Nat.blt pc 12 then (bif Nat.beq pc 11 then some (.iconst 0, 12, [], 0, 0, []) else none) else (bif Nat.beq pc 12 then some (.ireturn, 13, [3], 0, 0, []) else none))))
theorem okX4_isWithdrawn : ∀ pc Y, pfX4_isWithdrawn pc = some Y → OKI m_X4_isWithdrawn pc Y := fun pc Y => ((bt_node (bt_node (bt_leaf (P := OKI m_X4_isWithdrawn) oX4_isWithdrawn_0) (bt_node (bt_leaf (P := OKI m_X4_isWithdrawn) oX4_isWithdrawn_1) (bt_leaf (P := OKI m_X4_isWithdrawn) oX4_isWithdrawn_4))) (bt_node (bt_node (bt_leaf (P := OKI m_X4_isWithdrawn) oX4_isWithdrawn_7) (bt_leaf (P := OKI m_X4_isWithdrawn) oX4_isWithdrawn_8)) (bt_node (bt_leaf (P := OKI m_X4_isWithdrawn) oX4_isWithdrawn_11) (bt_leaf (P := OKI m_X4_isWithdrawn) oX4_isWithdrawn_12)))) : pfX4_isWithdrawn pc = some Y → OKI m_X4_isWithdrawn pc Y)
def stpX4_isWithdrawn (pc : Nat) : Option (List Bool) := (bif Nat.beq pc 12 then some [false] else none)
def bX4_isWithdrawn_0 (d rc rs : Nat) (t : Nat)  (σ : XH) (Q : XV → XH → Prop) : Prop :=
  (((0 < (hi σ 5 t 10) → Ex d rc rs m_X4_isWithdrawn 12 [vU] [vI 1] σ Q) ∧ (¬ 0 < (hi σ 5 t 10) → Ex d rc rs m_X4_isWithdrawn 12 [vU] [vI 0] σ Q)))
theorem sX4_isWithdrawn_0 {d rc rs : Nat} {t : Nat}  {σ : XH} {Q : XV → XH → Prop} (h : bX4_isWithdrawn_0 d rc rs t  σ Q) : Ex d rc rs m_X4_isWithdrawn 0 [vR (some (5, t))] [] σ Q :=
  xtree_sound (stop := stpX4_isWithdrawn) okX4_isWithdrawn 7 _ _ _ _ _ _ h
def bX4_isWithdrawn_12 (d rc rs : Nat) (q0 : Int32) (σ : XH) (Q : XV → XH → Prop) : Prop :=
  ((q0 = 0 ∨ q0 = 1) ∧ Q (vI q0) σ)
theorem sX4_isWithdrawn_12 {d rc rs : Nat} {q0 : Int32} {σ : XH} {Q : XV → XH → Prop} (h : bX4_isWithdrawn_12 d rc rs q0 σ Q) : Ex d rc rs m_X4_isWithdrawn 12 [vU] [vI q0] σ Q :=
  xtree_sound (stop := stpX4_isWithdrawn) okX4_isWithdrawn 3 _ _ _ _ _ _ h
/-! SpotTimers$Reading.kindNow()I -/
theorem dX4_kindNow_0 : decode cX4_kindNow 0 = .ok (.aload_n 0, 1) := by decide +kernel
theorem dX4_kindNow_1 : decode cX4_kindNow 1 = .ok (.invokevirtual 47, 3) := by decide +kernel
theorem dX4_kindNow_4 : decode cX4_kindNow 4 = .ok (.ifCond .eq 8, 3) := by decide +kernel
theorem dX4_kindNow_7 : decode cX4_kindNow 7 = .ok (.bipush 7, 2) := by decide +kernel
theorem dX4_kindNow_9 : decode cX4_kindNow 9 = .ok (.goto 7, 3) := by decide +kernel
theorem dX4_kindNow_12 : decode cX4_kindNow 12 = .ok (.aload_n 0, 1) := by decide +kernel
theorem dX4_kindNow_13 : decode cX4_kindNow 13 = .ok (.getfield 30, 3) := by decide +kernel
theorem dX4_kindNow_16 : decode cX4_kindNow 16 = .ok (.ireturn, 1) := by decide +kernel
theorem oX4_kindNow_0 : OKI 17 0 (.aload_n 0, 1, [0], 0, 0, []) := And.intro dX4_kindNow_0 (And.intro rfl (rfl))
theorem oX4_kindNow_1 : OKI 17 1 (.invokevirtual 47, 4, [16, 1, 6, 0, 0, 1], 0, 0, []) := And.intro dX4_kindNow_1 (And.intro rfl (And.intro (by decide) (And.intro (by decide) (And.intro mo_X4_isWithdrawn (And.intro (tm_2 _ (List.mem_of_getElem? (i := 227) rfl) rfl) (And.intro (tm_2 _ (List.mem_of_getElem? (i := 228) rfl) rfl) (And.intro (tm_2 _ (List.mem_of_getElem? (i := 229) rfl) rfl) (Or.inl ⟨(RX4, TX4, 11), rfl, rfl⟩))))))))
theorem oX4_kindNow_4 : OKI 17 4 (.ifCond .eq 8, 7, [12], 0, 0, []) := And.intro dX4_kindNow_4 (And.intro rfl (by decide))
theorem oX4_kindNow_7 : OKI 17 7 (.bipush 7, 9, [], 7, 0, []) := And.intro dX4_kindNow_7 (And.intro rfl (by decide +kernel))
theorem oX4_kindNow_9 : OKI 17 9 (.goto 7, 12, [16], 0, 0, []) := And.intro dX4_kindNow_9 (And.intro rfl (by decide))
theorem oX4_kindNow_12 : OKI 17 12 (.aload_n 0, 13, [0], 0, 0, []) := And.intro dX4_kindNow_12 (And.intro rfl (rfl))
theorem oX4_kindNow_13 : OKI 17 13 (.getfield 30, 16, [5, 1, 0], 0, 0, []) := And.intro dX4_kindNow_13 (And.intro rfl (⟨(RX4, TX4, 11), "SpotTimers$Reading", rfl, by decide, tm_3 _ (List.mem_of_getElem? (i := 51) rfl) rfl, Or.inl rfl, Or.inr (Or.inr (And.intro rfl (Or.inl rfl)))⟩))
theorem oX4_kindNow_16 : OKI 17 16 (.ireturn, 17, [0], 0, 0, []) := And.intro dX4_kindNow_16 (Or.inl (And.intro rfl rfl))
def pfX4_kindNow (pc : Nat) : Option XE := (bif Nat.blt pc 9 then (bif Nat.blt pc 4 then (bif Nat.blt pc 1 then (bif Nat.beq pc 0 then some (.aload_n 0, 1, [0], 0, 0, []) else none) else (bif Nat.beq pc 1 then some (.invokevirtual 47, 4, [16, 1, 6, 0, 0, 1], 0, 0, []) else none)) else (bif Nat.blt pc 7 then (bif Nat.beq pc 4 then some (.ifCond .eq 8, 7, [12], 0, 0, []) else none) else (bif Nat.beq pc 7 then some (.bipush 7, 9, [], 7, 0, []) else none))) else (bif Nat.blt pc 13 then (bif Nat.blt pc 12 then (bif Nat.beq pc 9 then some (.goto 7, 12, [16], 0, 0, []) else none) else (bif Nat.beq pc 12 then some (.aload_n 0, 13, [0], 0, 0, []) else none)) else (bif Nat.blt pc 16 then (bif Nat.beq pc 13 then some (.getfield 30, 16, [5, 1, 0], 0, 0, []) else none) else (bif Nat.beq pc 16 then some (.ireturn, 17, [0], 0, 0, []) else none))))
theorem okX4_kindNow : ∀ pc Y, pfX4_kindNow pc = some Y → OKI m_X4_kindNow pc Y := fun pc Y => ((bt_node (bt_node (bt_node (bt_leaf (P := OKI m_X4_kindNow) oX4_kindNow_0) (bt_leaf (P := OKI m_X4_kindNow) oX4_kindNow_1)) (bt_node (bt_leaf (P := OKI m_X4_kindNow) oX4_kindNow_4) (bt_leaf (P := OKI m_X4_kindNow) oX4_kindNow_7))) (bt_node (bt_node (bt_leaf (P := OKI m_X4_kindNow) oX4_kindNow_9) (bt_leaf (P := OKI m_X4_kindNow) oX4_kindNow_12)) (bt_node (bt_leaf (P := OKI m_X4_kindNow) oX4_kindNow_13) (bt_leaf (P := OKI m_X4_kindNow) oX4_kindNow_16)))) : pfX4_kindNow pc = some Y → OKI m_X4_kindNow pc Y)
def stpX4_kindNow (pc : Nat) : Option (List Bool) := (bif Nat.beq pc 16 then some [false] else none)
def bX4_kindNow_0 (d rc rs : Nat) (t : Nat)  (σ : XH) (Q : XV → XH → Prop) : Prop :=
  ((1 ≤ d ∧ Ec (d - 1) 0 0 m_X4_isWithdrawn [vR (some (5, t))] σ (kI fun x2 h1 => ((x2 = 0 → (Ex d rc rs m_X4_kindNow 16 [vU] [vI (hi h1 5 t 1)] h1 Q)) ∧ (¬ x2 = 0 → Ex d rc rs m_X4_kindNow 16 [vU] [vI 7] h1 Q)))))
theorem sX4_kindNow_0 {d rc rs : Nat} {t : Nat}  {σ : XH} {Q : XV → XH → Prop} (h : bX4_kindNow_0 d rc rs t  σ Q) : Ex d rc rs m_X4_kindNow 0 [vR (some (5, t))] [] σ Q :=
  xtree_sound (stop := stpX4_kindNow) okX4_kindNow 7 _ _ _ _ _ _ h
def bX4_kindNow_16 (d rc rs : Nat) (q0 : Int32) (σ : XH) (Q : XV → XH → Prop) : Prop :=
  Q (vI q0) σ
theorem sX4_kindNow_16 {d rc rs : Nat} {q0 : Int32} {σ : XH} {Q : XV → XH → Prop} (h : bX4_kindNow_16 d rc rs q0 σ Q) : Ex d rc rs m_X4_kindNow 16 [vU] [vI q0] σ Q :=
  xtree_sound (stop := stpX4_kindNow) okX4_kindNow 3 _ _ _ _ _ _ h
/-! SpotTimers$Reading.origin()LSpotTimers$Reading; -/
theorem dX4_origin_0 : decode cX4_origin 0 = .ok (.aload_n 0, 1) := by decide +kernel
theorem dX4_origin_1 : decode cX4_origin 1 = .ok (.getfield 43, 3) := by decide +kernel
theorem dX4_origin_4 : decode cX4_origin 4 = .ok (.ifnonnull 7, 3) := by decide +kernel
theorem dX4_origin_7 : decode cX4_origin 7 = .ok (.aload_n 0, 1) := by decide +kernel
theorem dX4_origin_8 : decode cX4_origin 8 = .ok (.goto 7, 3) := by decide +kernel
theorem dX4_origin_11 : decode cX4_origin 11 = .ok (.aload_n 0, 1) := by decide +kernel
theorem dX4_origin_12 : decode cX4_origin 12 = .ok (.getfield 43, 3) := by decide +kernel
theorem dX4_origin_15 : decode cX4_origin 15 = .ok (.areturn, 1) := by decide +kernel
theorem oX4_origin_0 : OKI 18 0 (.aload_n 0, 1, [0], 0, 0, []) := And.intro dX4_origin_0 (And.intro rfl (rfl))
theorem oX4_origin_1 : OKI 18 1 (.getfield 43, 4, [5, 5, 2], 0, 0, []) := And.intro dX4_origin_1 (And.intro rfl (⟨(RX4, TX4, 11), "SpotTimers$Reading", rfl, by decide, tm_3 _ (List.mem_of_getElem? (i := 64) rfl) rfl, Or.inl rfl, Or.inr (Or.inl (And.intro rfl rfl))⟩))
theorem oX4_origin_4 : OKI 18 4 (.ifnonnull 7, 7, [11], 0, 0, []) := And.intro dX4_origin_4 (And.intro rfl (by decide))
theorem oX4_origin_7 : OKI 18 7 (.aload_n 0, 8, [0], 0, 0, []) := And.intro dX4_origin_7 (And.intro rfl (rfl))
theorem oX4_origin_8 : OKI 18 8 (.goto 7, 11, [15], 0, 0, []) := And.intro dX4_origin_8 (And.intro rfl (by decide))
theorem oX4_origin_11 : OKI 18 11 (.aload_n 0, 12, [0], 0, 0, []) := And.intro dX4_origin_11 (And.intro rfl (rfl))
theorem oX4_origin_12 : OKI 18 12 (.getfield 43, 15, [5, 5, 2], 0, 0, []) := And.intro dX4_origin_12 (And.intro rfl (⟨(RX4, TX4, 11), "SpotTimers$Reading", rfl, by decide, tm_3 _ (List.mem_of_getElem? (i := 64) rfl) rfl, Or.inl rfl, Or.inr (Or.inl (And.intro rfl rfl))⟩))
theorem oX4_origin_15 : OKI 18 15 (.areturn, 16, [], 0, 0, []) := And.intro dX4_origin_15 ⟨_, rfl, Or.inl ⟨_, rfl⟩⟩
def pfX4_origin (pc : Nat) : Option XE := (bif Nat.blt pc 8 then (bif Nat.blt pc 4 then (bif Nat.blt pc 1 then (bif Nat.beq pc 0 then some (.aload_n 0, 1, [0], 0, 0, []) else none) else (bif Nat.beq pc 1 then some (.getfield 43, 4, [5, 5, 2], 0, 0, []) else none)) else (bif Nat.blt pc 7 then (bif Nat.beq pc 4 then some (.ifnonnull 7, 7, [11], 0, 0, []) else none) else (bif Nat.beq pc 7 then some (.aload_n 0, 8, [0], 0, 0, []) else none))) else (bif Nat.blt pc 12 then (bif Nat.blt pc 11 then (bif Nat.beq pc 8 then some (.goto 7, 11, [15], 0, 0, []) else none) else (bif Nat.beq pc 11 then some (.aload_n 0, 12, [0], 0, 0, []) else none)) else (bif Nat.blt pc 15 then (bif Nat.beq pc 12 then some (.getfield 43, 15, [5, 5, 2], 0, 0, []) else none) else (bif Nat.beq pc 15 then some (.areturn, 16, [], 0, 0, []) else none))))
theorem okX4_origin : ∀ pc Y, pfX4_origin pc = some Y → OKI m_X4_origin pc Y := fun pc Y => ((bt_node (bt_node (bt_node (bt_leaf (P := OKI m_X4_origin) oX4_origin_0) (bt_leaf (P := OKI m_X4_origin) oX4_origin_1)) (bt_node (bt_leaf (P := OKI m_X4_origin) oX4_origin_4) (bt_leaf (P := OKI m_X4_origin) oX4_origin_7))) (bt_node (bt_node (bt_leaf (P := OKI m_X4_origin) oX4_origin_8) (bt_leaf (P := OKI m_X4_origin) oX4_origin_11)) (bt_node (bt_leaf (P := OKI m_X4_origin) oX4_origin_12) (bt_leaf (P := OKI m_X4_origin) oX4_origin_15)))) : pfX4_origin pc = some Y → OKI m_X4_origin pc Y)
def stpX4_origin (pc : Nat) : Option (List Bool) := (bif Nat.beq pc 15 then some [false] else none)
def bX4_origin_0 (d rc rs : Nat) (t : Nat)  (σ : XH) (Q : XV → XH → Prop) : Prop :=
  ((((hr σ 5 t 5 : Option XO) = none → Ex d rc rs m_X4_origin 15 [vU] [vR (some (5, t))] σ Q) ∧ (¬ (hr σ 5 t 5 : Option XO) = none → (Ex d rc rs m_X4_origin 15 [vU] [vR (hr σ 5 t 5)] σ Q))))
theorem sX4_origin_0 {d rc rs : Nat} {t : Nat}  {σ : XH} {Q : XV → XH → Prop} (h : bX4_origin_0 d rc rs t  σ Q) : Ex d rc rs m_X4_origin 0 [vR (some (5, t))] [] σ Q :=
  xtree_sound (stop := stpX4_origin) okX4_origin 7 _ _ _ _ _ _ h
def bX4_origin_15 (d rc rs : Nat) (q0 : Option XO) (σ : XH) (Q : XV → XH → Prop) : Prop :=
  Q (vR q0) σ
theorem sX4_origin_15 {d rc rs : Nat} {q0 : Option XO} {σ : XH} {Q : XV → XH → Prop} (h : bX4_origin_15 d rc rs q0 σ Q) : Ex d rc rs m_X4_origin 15 [vU] [vR q0] σ Q :=
  xtree_sound (stop := stpX4_origin) okX4_origin 3 _ _ _ _ _ _ h
/-! SpotTimers$Reading.isOfEdge()Z -/
theorem dX4_isOfEdge_0 : decode cX4_isOfEdge 0 = .ok (.aload_n 0, 1) := by decide +kernel
theorem dX4_isOfEdge_1 : decode cX4_isOfEdge 1 = .ok (.invokevirtual 51, 3) := by decide +kernel
theorem dX4_isOfEdge_4 : decode cX4_isOfEdge 4 = .ok (.getfield 30, 3) := by decide +kernel
theorem dX4_isOfEdge_7 : decode cX4_isOfEdge 7 = .ok (.iconst 3, 1) := by decide +kernel
theorem dX4_isOfEdge_8 : decode cX4_isOfEdge 8 = .ok (.invokestatic 55, 3) := by decide +kernel
theorem dX4_isOfEdge_11 : decode cX4_isOfEdge 11 = .ok (.ifCond .ne 14, 3) := by decide +kernel
theorem dX4_isOfEdge_14 : decode cX4_isOfEdge 14 = .ok (.aload_n 0, 1) := by decide +kernel
theorem dX4_isOfEdge_15 : decode cX4_isOfEdge 15 = .ok (.invokevirtual 51, 3) := by decide +kernel
theorem dX4_isOfEdge_18 : decode cX4_isOfEdge 18 = .ok (.getfield 30, 3) := by decide +kernel
theorem dX4_isOfEdge_21 : decode cX4_isOfEdge 21 = .ok (.iconst 5, 1) := by decide +kernel
theorem dX4_isOfEdge_22 : decode cX4_isOfEdge 22 = .ok (.if_icmp .ne 7, 3) := by decide +kernel
theorem dX4_isOfEdge_25 : decode cX4_isOfEdge 25 = .ok (.iconst 1, 1) := by decide +kernel
theorem dX4_isOfEdge_26 : decode cX4_isOfEdge 26 = .ok (.goto 4, 3) := by decide +kernel
theorem dX4_isOfEdge_29 : decode cX4_isOfEdge 29 = .ok (.iconst 0, 1) := by decide +kernel
theorem dX4_isOfEdge_30 : decode cX4_isOfEdge 30 = .ok (.ireturn, 1) := by decide +kernel
theorem oX4_isOfEdge_0 : OKI 19 0 (.aload_n 0, 1, [0], 0, 0, []) := And.intro dX4_isOfEdge_0 (And.intro rfl (rfl))
theorem oX4_isOfEdge_1 : OKI 19 1 (.invokevirtual 51, 4, [18, 1, 6, 0, 0, 3], 0, 0, []) := And.intro dX4_isOfEdge_1 (And.intro rfl (And.intro (by decide) (And.intro (by decide) (And.intro mo_X4_origin (And.intro (tm_3 _ (List.mem_of_getElem? (i := 146) rfl) rfl) (And.intro (tm_3 _ (List.mem_of_getElem? (i := 123) rfl) rfl) (And.intro (tm_3 _ (List.mem_of_getElem? (i := 124) rfl) rfl) (Or.inl ⟨(RX4, TX4, 11), rfl, rfl⟩))))))))
theorem oX4_isOfEdge_4 : OKI 19 4 (.getfield 30, 7, [5, 1, 0], 0, 0, []) := And.intro dX4_isOfEdge_4 (And.intro rfl (⟨(RX4, TX4, 11), "SpotTimers$Reading", rfl, by decide, tm_3 _ (List.mem_of_getElem? (i := 51) rfl) rfl, Or.inl rfl, Or.inr (Or.inr (And.intro rfl (Or.inl rfl)))⟩))
theorem oX4_isOfEdge_7 : OKI 19 7 (.iconst 3, 8, [], 3, 0, []) := And.intro dX4_isOfEdge_7 (And.intro rfl (by decide +kernel))
theorem oX4_isOfEdge_8 : OKI 19 8 (.invokestatic 55, 11, [117, 2, 0, 0, 0, 1], 0, 0, []) := And.intro dX4_isOfEdge_8 (And.intro rfl (And.intro rfl (And.intro mo_X10_isUnder (And.intro (Or.inr (nm_A _ (List.mem_of_getElem? (i := 6) rfl))) (tm_3 _ (List.mem_of_getElem? (i := 148) rfl) rfl)))))
theorem oX4_isOfEdge_11 : OKI 19 11 (.ifCond .ne 14, 14, [25], 0, 0, []) := And.intro dX4_isOfEdge_11 (And.intro rfl (by decide))
theorem oX4_isOfEdge_14 : OKI 19 14 (.aload_n 0, 15, [0], 0, 0, []) := And.intro dX4_isOfEdge_14 (And.intro rfl (rfl))
theorem oX4_isOfEdge_15 : OKI 19 15 (.invokevirtual 51, 18, [18, 1, 6, 0, 0, 3], 0, 0, []) := And.intro dX4_isOfEdge_15 (And.intro rfl (And.intro (by decide) (And.intro (by decide) (And.intro mo_X4_origin (And.intro (tm_3 _ (List.mem_of_getElem? (i := 146) rfl) rfl) (And.intro (tm_3 _ (List.mem_of_getElem? (i := 123) rfl) rfl) (And.intro (tm_3 _ (List.mem_of_getElem? (i := 124) rfl) rfl) (Or.inl ⟨(RX4, TX4, 11), rfl, rfl⟩))))))))
theorem oX4_isOfEdge_18 : OKI 19 18 (.getfield 30, 21, [5, 1, 0], 0, 0, []) := And.intro dX4_isOfEdge_18 (And.intro rfl (⟨(RX4, TX4, 11), "SpotTimers$Reading", rfl, by decide, tm_3 _ (List.mem_of_getElem? (i := 51) rfl) rfl, Or.inl rfl, Or.inr (Or.inr (And.intro rfl (Or.inl rfl)))⟩))
theorem oX4_isOfEdge_21 : OKI 19 21 (.iconst 5, 22, [], 5, 0, []) := And.intro dX4_isOfEdge_21 (And.intro rfl (by decide +kernel))
theorem oX4_isOfEdge_22 : OKI 19 22 (.if_icmp .ne 7, 25, [29], 0, 0, []) := And.intro dX4_isOfEdge_22 (And.intro rfl (by decide))
theorem oX4_isOfEdge_25 : OKI 19 25 (.iconst 1, 26, [], 1, 0, []) := And.intro dX4_isOfEdge_25 (And.intro rfl (by decide +kernel))
theorem oX4_isOfEdge_26 : OKI 19 26 (.goto 4, 29, [30], 0, 0, []) := And.intro dX4_isOfEdge_26 (And.intro rfl (by decide))
theorem oX4_isOfEdge_29 : OKI 19 29 (.iconst 0, 30, [], 0, 0, []) := And.intro dX4_isOfEdge_29 (And.intro rfl (by decide +kernel))
theorem oX4_isOfEdge_30 : OKI 19 30 (.ireturn, 31, [3], 0, 0, []) := And.intro dX4_isOfEdge_30 (Or.inr (Or.inl (And.intro rfl rfl)))
def pfX4_isOfEdge (pc : Nat) : Option XE := (bif Nat.blt pc 15 then (bif Nat.blt pc 7 then (bif Nat.blt pc 1 then (bif Nat.beq pc 0 then some (.aload_n 0, 1, [0], 0, 0, []) else none) else (bif Nat.blt pc 4 then (bif Nat.beq pc 1 then some (.invokevirtual 51, 4, [18, 1, 6, 0, 0, 3], 0, 0, []) else none) else (bif Nat.beq pc 4 then some (.getfield 30, 7, [5, 1, 0], 0, 0, []) else none))) else (bif Nat.blt pc 11 then (bif Nat.blt pc 8 then (bif Nat.beq pc 7 then some (.iconst 3, 8, [], 3, 0, []) else none) else (bif Nat.beq pc 8 then some (.invokestatic 55, 11, [117, 2, 0, 0, 0, 1], 0, 0, []) else none)) else (bif Nat.blt pc 14 then (bif Nat.beq pc 11 then some (.ifCond .ne 14, 14, [25], 0, 0, []) else none) else (bif Nat.beq pc 14 then some (.aload_n 0, 15, [0], 0, 0, []) else none)))) else (bif Nat.blt pc 25 then (bif Nat.blt pc 21 then (bif Nat.blt pc 18 then (bif Nat.beq pc 15 then some (.invokevirtual 51, 18, [18, 1, 6, 0, 0, 3], 0, 0, []) else none) else (bif Nat.beq pc 18 then some (.getfield 30, 21, [5, 1, 0], 0, 0, []) else none)) else (bif Nat.blt pc 22 then (bif Nat.beq pc 21 then some (.iconst 5, 22, [], 5, 0, []) else none) else (bif Nat.beq pc 22 then some (.if_icmp .ne 7, 25, [29], 0, 0, []) else none))) else (bif Nat.blt pc 29 then (bif Nat.blt pc 26 then (bif Nat.beq pc 25 then some (.iconst 1, 26, [], 1, 0, []) else none) else (bif Nat.beq pc 26 then some (.goto 4, 29, [30], 0, 0, []) else none)) else (bif Nat.blt pc 30 then (bif Nat.beq pc 29 then some (.iconst 0, 30, [], 0, 0, []) else none) else (bif Nat.beq pc 30 then some (.ireturn, 31, [3], 0, 0, []) else none)))))
theorem okX4_isOfEdge : ∀ pc Y, pfX4_isOfEdge pc = some Y → OKI m_X4_isOfEdge pc Y := fun pc Y => ((bt_node (bt_node (bt_node (bt_leaf (P := OKI m_X4_isOfEdge) oX4_isOfEdge_0) (bt_node (bt_leaf (P := OKI m_X4_isOfEdge) oX4_isOfEdge_1) (bt_leaf (P := OKI m_X4_isOfEdge) oX4_isOfEdge_4))) (bt_node (bt_node (bt_leaf (P := OKI m_X4_isOfEdge) oX4_isOfEdge_7) (bt_leaf (P := OKI m_X4_isOfEdge) oX4_isOfEdge_8)) (bt_node (bt_leaf (P := OKI m_X4_isOfEdge) oX4_isOfEdge_11) (bt_leaf (P := OKI m_X4_isOfEdge) oX4_isOfEdge_14)))) (bt_node (bt_node (bt_node (bt_leaf (P := OKI m_X4_isOfEdge) oX4_isOfEdge_15) (bt_leaf (P := OKI m_X4_isOfEdge) oX4_isOfEdge_18)) (bt_node (bt_leaf (P := OKI m_X4_isOfEdge) oX4_isOfEdge_21) (bt_leaf (P := OKI m_X4_isOfEdge) oX4_isOfEdge_22))) (bt_node (bt_node (bt_leaf (P := OKI m_X4_isOfEdge) oX4_isOfEdge_25) (bt_leaf (P := OKI m_X4_isOfEdge) oX4_isOfEdge_26)) (bt_node (bt_leaf (P := OKI m_X4_isOfEdge) oX4_isOfEdge_29) (bt_leaf (P := OKI m_X4_isOfEdge) oX4_isOfEdge_30))))) : pfX4_isOfEdge pc = some Y → OKI m_X4_isOfEdge pc Y)
def stpX4_isOfEdge (pc : Nat) : Option (List Bool) := (bif Nat.blt pc 30 then (bif Nat.beq pc 25 then some [false] else none) else (bif Nat.beq pc 30 then some [false] else none))
def bX4_isOfEdge_0 (d rc rs : Nat) (t : Nat)  (σ : XH) (Q : XV → XH → Prop) : Prop :=
  ((1 ≤ d ∧ Ec (d - 1) 0 0 m_X4_origin [vR (some (5, t))] σ (kR fun x2 h1 => (drf x2 5 fun i3 => (1 ≤ d ∧ Ec (d - 1) 0 0 m_X10_isUnder [vI (hi h1 5 i3 1), vI 3] h1 (kI fun x5 h4 => ((x5 = 0 → ((1 ≤ d ∧ Ec (d - 1) 0 0 m_X4_origin [vR (some (5, t))] h4 (kR fun x7 h6 => (drf x7 5 fun i8 => (((hi h6 5 i8 1) = 5 → Ex d rc rs m_X4_isOfEdge 25 [vU] [] h6 Q) ∧ (¬ (hi h6 5 i8 1) = 5 → Ex d rc rs m_X4_isOfEdge 30 [vU] [vI 0] h6 Q))))))) ∧ (¬ x5 = 0 → Ex d rc rs m_X4_isOfEdge 25 [vU] [] h4 Q))))))))
theorem sX4_isOfEdge_0 {d rc rs : Nat} {t : Nat}  {σ : XH} {Q : XV → XH → Prop} (h : bX4_isOfEdge_0 d rc rs t  σ Q) : Ex d rc rs m_X4_isOfEdge 0 [vR (some (5, t))] [] σ Q :=
  xtree_sound (stop := stpX4_isOfEdge) okX4_isOfEdge 14 _ _ _ _ _ _ h
def bX4_isOfEdge_25 (d rc rs : Nat)  (σ : XH) (Q : XV → XH → Prop) : Prop :=
  Ex d rc rs m_X4_isOfEdge 30 [vU] [vI 1] σ Q
theorem sX4_isOfEdge_25 {d rc rs : Nat}  {σ : XH} {Q : XV → XH → Prop} (h : bX4_isOfEdge_25 d rc rs  σ Q) : Ex d rc rs m_X4_isOfEdge 25 [vU] [] σ Q :=
  xtree_sound (stop := stpX4_isOfEdge) okX4_isOfEdge 4 _ _ _ _ _ _ h
def bX4_isOfEdge_30 (d rc rs : Nat) (q0 : Int32) (σ : XH) (Q : XV → XH → Prop) : Prop :=
  ((q0 = 0 ∨ q0 = 1) ∧ Q (vI q0) σ)
theorem sX4_isOfEdge_30 {d rc rs : Nat} {q0 : Int32} {σ : XH} {Q : XV → XH → Prop} (h : bX4_isOfEdge_30 d rc rs q0 σ Q) : Ex d rc rs m_X4_isOfEdge 30 [vU] [vI q0] σ Q :=
  xtree_sound (stop := stpX4_isOfEdge) okX4_isOfEdge 3 _ _ _ _ _ _ h
/-! SpotTimers$Reading.seenAt(I)I -/
theorem dX4_seenAt_0 : decode cX4_seenAt 0 = .ok (.aload_n 0, 1) := by decide +kernel
theorem dX4_seenAt_1 : decode cX4_seenAt 1 = .ok (.invokevirtual 59, 3) := by decide +kernel
theorem dX4_seenAt_4 : decode cX4_seenAt 4 = .ok (.ifCond .eq 24, 3) := by decide +kernel
theorem dX4_seenAt_7 : decode cX4_seenAt 7 = .ok (.iload_n 1, 1) := by decide +kernel
theorem dX4_seenAt_8 : decode cX4_seenAt 8 = .ok (.iconst 0, 1) := by decide +kernel
theorem dX4_seenAt_9 : decode cX4_seenAt 9 = .ok (.aload_n 0, 1) := by decide +kernel
theorem dX4_seenAt_10 : decode cX4_seenAt 10 = .ok (.getfield 30, 3) := by decide +kernel
theorem dX4_seenAt_13 : decode cX4_seenAt 13 = .ok (.iconst 4, 1) := by decide +kernel
theorem dX4_seenAt_14 : decode cX4_seenAt 14 = .ok (.if_icmp .ne 7, 3) := by decide +kernel
theorem dX4_seenAt_17 : decode cX4_seenAt 17 = .ok (.iconst 1, 1) := by decide +kernel
theorem dX4_seenAt_18 : decode cX4_seenAt 18 = .ok (.goto 4, 3) := by decide +kernel
theorem dX4_seenAt_21 : decode cX4_seenAt 21 = .ok (.iconst 0, 1) := by decide +kernel
theorem dX4_seenAt_22 : decode cX4_seenAt 22 = .ok (.invokestatic 62, 3) := by decide +kernel
theorem dX4_seenAt_25 : decode cX4_seenAt 25 = .ok (.ifCond .ne 6, 3) := by decide +kernel
theorem dX4_seenAt_28 : decode cX4_seenAt 28 = .ok (.ldc 66, 2) := by decide +kernel
theorem dX4_seenAt_30 : decode cX4_seenAt 30 = .ok (.ireturn, 1) := by decide +kernel
theorem dX4_seenAt_31 : decode cX4_seenAt 31 = .ok (.aload_n 0, 1) := by decide +kernel
theorem dX4_seenAt_32 : decode cX4_seenAt 32 = .ok (.getfield 33, 3) := by decide +kernel
theorem dX4_seenAt_35 : decode cX4_seenAt 35 = .ok (.iload_n 1, 1) := by decide +kernel
theorem dX4_seenAt_36 : decode cX4_seenAt 36 = .ok (.ifCond .ne 10, 3) := by decide +kernel
theorem dX4_seenAt_39 : decode cX4_seenAt 39 = .ok (.aload_n 0, 1) := by decide +kernel
theorem dX4_seenAt_40 : decode cX4_seenAt 40 = .ok (.getfield 40, 3) := by decide +kernel
theorem dX4_seenAt_43 : decode cX4_seenAt 43 = .ok (.goto 7, 3) := by decide +kernel
theorem dX4_seenAt_46 : decode cX4_seenAt 46 = .ok (.aload_n 0, 1) := by decide +kernel
theorem dX4_seenAt_47 : decode cX4_seenAt 47 = .ok (.getfield 9, 3) := by decide +kernel
theorem dX4_seenAt_50 : decode cX4_seenAt 50 = .ok (.invokevirtual 67, 3) := by decide +kernel
theorem dX4_seenAt_53 : decode cX4_seenAt 53 = .ok (.istore_n 2, 1) := by decide +kernel
theorem dX4_seenAt_54 : decode cX4_seenAt 54 = .ok (.aload_n 0, 1) := by decide +kernel
theorem dX4_seenAt_55 : decode cX4_seenAt 55 = .ok (.getfield 33, 3) := by decide +kernel
theorem dX4_seenAt_58 : decode cX4_seenAt 58 = .ok (.getfield 73, 3) := by decide +kernel
theorem dX4_seenAt_61 : decode cX4_seenAt 61 = .ok (.getfield 77, 3) := by decide +kernel
theorem dX4_seenAt_64 : decode cX4_seenAt 64 = .ok (.istore_n 3, 1) := by decide +kernel
theorem dX4_seenAt_65 : decode cX4_seenAt 65 = .ok (.iload_n 2, 1) := by decide +kernel
theorem dX4_seenAt_66 : decode cX4_seenAt 66 = .ok (.ldc 66, 2) := by decide +kernel
theorem dX4_seenAt_68 : decode cX4_seenAt 68 = .ok (.if_icmp .eq 9, 3) := by decide +kernel
theorem dX4_seenAt_71 : decode cX4_seenAt 71 = .ok (.iload_n 3, 1) := by decide +kernel
theorem dX4_seenAt_72 : decode cX4_seenAt 72 = .ok (.ldc 66, 2) := by decide +kernel
theorem dX4_seenAt_74 : decode cX4_seenAt 74 = .ok (.if_icmp .ne 6, 3) := by decide +kernel
theorem dX4_seenAt_77 : decode cX4_seenAt 77 = .ok (.ldc 66, 2) := by decide +kernel
theorem dX4_seenAt_79 : decode cX4_seenAt 79 = .ok (.ireturn, 1) := by decide +kernel
theorem dX4_seenAt_80 : decode cX4_seenAt 80 = .ok (.aload_n 0, 1) := by decide +kernel
theorem dX4_seenAt_81 : decode cX4_seenAt 81 = .ok (.invokevirtual 51, 3) := by decide +kernel
theorem dX4_seenAt_84 : decode cX4_seenAt 84 = .ok (.getfield 30, 3) := by decide +kernel
theorem dX4_seenAt_87 : decode cX4_seenAt 87 = .ok (.iconst 5, 1) := by decide +kernel
theorem dX4_seenAt_88 : decode cX4_seenAt 88 = .ok (.if_icmp .ne 13, 3) := by decide +kernel
theorem dX4_seenAt_91 : decode cX4_seenAt 91 = .ok (.aload_n 0, 1) := by decide +kernel
theorem dX4_seenAt_92 : decode cX4_seenAt 92 = .ok (.invokevirtual 51, 3) := by decide +kernel
theorem dX4_seenAt_95 : decode cX4_seenAt 95 = .ok (.getfield 9, 3) := by decide +kernel
theorem dX4_seenAt_98 : decode cX4_seenAt 98 = .ok (.goto 4, 3) := by decide +kernel
theorem dX4_seenAt_101 : decode cX4_seenAt 101 = .ok (.iconst 0, 1) := by decide +kernel
theorem dX4_seenAt_102 : decode cX4_seenAt 102 = .ok (.istore 4, 2) := by decide +kernel
theorem dX4_seenAt_104 : decode cX4_seenAt 104 = .ok (.iload_n 2, 1) := by decide +kernel
theorem dX4_seenAt_105 : decode cX4_seenAt 105 = .ok (.iload_n 3, 1) := by decide +kernel
theorem dX4_seenAt_106 : decode cX4_seenAt 106 = .ok (.isub, 1) := by decide +kernel
theorem dX4_seenAt_107 : decode cX4_seenAt 107 = .ok (.aload_n 0, 1) := by decide +kernel
theorem dX4_seenAt_108 : decode cX4_seenAt 108 = .ok (.getfield 33, 3) := by decide +kernel
theorem dX4_seenAt_111 : decode cX4_seenAt 111 = .ok (.getfield 73, 3) := by decide +kernel
theorem dX4_seenAt_114 : decode cX4_seenAt 114 = .ok (.getfield 82, 3) := by decide +kernel
theorem dX4_seenAt_117 : decode cX4_seenAt 117 = .ok (.isub, 1) := by decide +kernel
theorem dX4_seenAt_118 : decode cX4_seenAt 118 = .ok (.iload 4, 2) := by decide +kernel
theorem dX4_seenAt_120 : decode cX4_seenAt 120 = .ok (.iadd, 1) := by decide +kernel
theorem dX4_seenAt_121 : decode cX4_seenAt 121 = .ok (.ireturn, 1) := by decide +kernel
theorem oX4_seenAt_0 : OKI 20 0 (.aload_n 0, 1, [0], 0, 0, []) := And.intro dX4_seenAt_0 (And.intro rfl (rfl))
theorem oX4_seenAt_1 : OKI 20 1 (.invokevirtual 59, 4, [19, 1, 6, 0, 0, 1], 0, 0, []) := And.intro dX4_seenAt_1 (And.intro rfl (And.intro (by decide) (And.intro (by decide) (And.intro mo_X4_isOfEdge (And.intro (tm_3 _ (List.mem_of_getElem? (i := 142) rfl) rfl) (And.intro (tm_3 _ (List.mem_of_getElem? (i := 143) rfl) rfl) (And.intro (tm_3 _ (List.mem_of_getElem? (i := 144) rfl) rfl) (Or.inl ⟨(RX4, TX4, 11), rfl, rfl⟩))))))))
theorem oX4_seenAt_4 : OKI 20 4 (.ifCond .eq 24, 7, [28], 0, 0, []) := And.intro dX4_seenAt_4 (And.intro rfl (by decide))
theorem oX4_seenAt_7 : OKI 20 7 (.iload_n 1, 8, [1], 0, 0, []) := And.intro dX4_seenAt_7 (And.intro rfl (rfl))
theorem oX4_seenAt_8 : OKI 20 8 (.iconst 0, 9, [], 0, 0, []) := And.intro dX4_seenAt_8 (And.intro rfl (by decide +kernel))
theorem oX4_seenAt_9 : OKI 20 9 (.aload_n 0, 10, [0], 0, 0, []) := And.intro dX4_seenAt_9 (And.intro rfl (rfl))
theorem oX4_seenAt_10 : OKI 20 10 (.getfield 30, 13, [5, 1, 0], 0, 0, []) := And.intro dX4_seenAt_10 (And.intro rfl (⟨(RX4, TX4, 11), "SpotTimers$Reading", rfl, by decide, tm_3 _ (List.mem_of_getElem? (i := 51) rfl) rfl, Or.inl rfl, Or.inr (Or.inr (And.intro rfl (Or.inl rfl)))⟩))
theorem oX4_seenAt_13 : OKI 20 13 (.iconst 4, 14, [], 4, 0, []) := And.intro dX4_seenAt_13 (And.intro rfl (by decide +kernel))
theorem oX4_seenAt_14 : OKI 20 14 (.if_icmp .ne 7, 17, [21], 0, 0, []) := And.intro dX4_seenAt_14 (And.intro rfl (by decide))
theorem oX4_seenAt_17 : OKI 20 17 (.iconst 1, 18, [], 1, 0, []) := And.intro dX4_seenAt_17 (And.intro rfl (by decide +kernel))
theorem oX4_seenAt_18 : OKI 20 18 (.goto 4, 21, [22], 0, 0, []) := And.intro dX4_seenAt_18 (And.intro rfl (by decide))
theorem oX4_seenAt_21 : OKI 20 21 (.iconst 0, 22, [], 0, 0, []) := And.intro dX4_seenAt_21 (And.intro rfl (by decide +kernel))
theorem oX4_seenAt_22 : OKI 20 22 (.invokestatic 62, 25, [111, 3, 0, 0, 0, 1], 0, 0, []) := And.intro dX4_seenAt_22 (And.intro rfl (And.intro rfl (And.intro mo_X10_within (And.intro (Or.inr (nm_A _ (List.mem_of_getElem? (i := 7) rfl))) (tm_2 _ (List.mem_of_getElem? (i := 41) rfl) rfl)))))
theorem oX4_seenAt_25 : OKI 20 25 (.ifCond .ne 6, 28, [31], 0, 0, []) := And.intro dX4_seenAt_25 (And.intro rfl (by decide))
theorem oX4_seenAt_28 : OKI 20 28 (.ldc 66, 30, [], (-1000000000), 0, []) := And.intro dX4_seenAt_28 (And.intro rfl (tm_3 _ (List.mem_of_getElem? (i := 153) rfl) rfl))
theorem oX4_seenAt_30 : OKI 20 30 (.ireturn, 31, [0], 0, 0, []) := And.intro dX4_seenAt_30 (Or.inl (And.intro rfl rfl))
theorem oX4_seenAt_31 : OKI 20 31 (.aload_n 0, 32, [0], 0, 0, []) := And.intro dX4_seenAt_31 (And.intro rfl (rfl))
theorem oX4_seenAt_32 : OKI 20 32 (.getfield 33, 35, [5, 2, 2], 0, 0, []) := And.intro dX4_seenAt_32 (And.intro rfl (⟨(RX4, TX4, 11), "SpotTimers$Reading", rfl, by decide, tm_3 _ (List.mem_of_getElem? (i := 54) rfl) rfl, Or.inl rfl, Or.inr (Or.inl (And.intro rfl rfl))⟩))
theorem oX4_seenAt_35 : OKI 20 35 (.iload_n 1, 36, [1], 0, 0, []) := And.intro dX4_seenAt_35 (And.intro rfl (rfl))
theorem oX4_seenAt_36 : OKI 20 36 (.ifCond .ne 10, 39, [46], 0, 0, []) := And.intro dX4_seenAt_36 (And.intro rfl (by decide))
theorem oX4_seenAt_39 : OKI 20 39 (.aload_n 0, 40, [0], 0, 0, []) := And.intro dX4_seenAt_39 (And.intro rfl (rfl))
theorem oX4_seenAt_40 : OKI 20 40 (.getfield 40, 43, [5, 4, 0], 0, 0, []) := And.intro dX4_seenAt_40 (And.intro rfl (⟨(RX4, TX4, 11), "SpotTimers$Reading", rfl, by decide, tm_3 _ (List.mem_of_getElem? (i := 62) rfl) rfl, Or.inl rfl, Or.inr (Or.inr (And.intro rfl (Or.inl rfl)))⟩))
theorem oX4_seenAt_43 : OKI 20 43 (.goto 7, 46, [50], 0, 0, []) := And.intro dX4_seenAt_43 (And.intro rfl (by decide))
theorem oX4_seenAt_46 : OKI 20 46 (.aload_n 0, 47, [0], 0, 0, []) := And.intro dX4_seenAt_46 (And.intro rfl (rfl))
theorem oX4_seenAt_47 : OKI 20 47 (.getfield 9, 50, [5, 6, 0], 0, 0, []) := And.intro dX4_seenAt_47 (And.intro rfl (⟨(RX4, TX4, 11), "SpotTimers$Reading", rfl, by decide, tm_3 _ (List.mem_of_getElem? (i := 66) rfl) rfl, Or.inl rfl, Or.inr (Or.inr (And.intro rfl (Or.inl rfl)))⟩))
theorem oX4_seenAt_50 : OKI 20 50 (.invokevirtual 67, 53, [11, 2, 3, 0, 0, 1], 0, 0, []) := And.intro dX4_seenAt_50 (And.intro rfl (And.intro (by decide) (And.intro (by decide) (And.intro mo_X1_trueTime (And.intro (tm_3 _ (List.mem_of_getElem? (i := 154) rfl) rfl) (And.intro (tm_3 _ (List.mem_of_getElem? (i := 9) rfl) rfl) (And.intro (tm_3 _ (List.mem_of_getElem? (i := 10) rfl) rfl) (Or.inl ⟨(RX1, TX1, 6), rfl, rfl⟩))))))))
theorem oX4_seenAt_53 : OKI 20 53 (.istore_n 2, 54, [2], 0, 0, []) := And.intro dX4_seenAt_53 (And.intro rfl (And.intro rfl (by decide)))
theorem oX4_seenAt_54 : OKI 20 54 (.aload_n 0, 55, [0], 0, 0, []) := And.intro dX4_seenAt_54 (And.intro rfl (rfl))
theorem oX4_seenAt_55 : OKI 20 55 (.getfield 33, 58, [5, 2, 2], 0, 0, []) := And.intro dX4_seenAt_55 (And.intro rfl (⟨(RX4, TX4, 11), "SpotTimers$Reading", rfl, by decide, tm_3 _ (List.mem_of_getElem? (i := 54) rfl) rfl, Or.inl rfl, Or.inr (Or.inl (And.intro rfl rfl))⟩))
theorem oX4_seenAt_58 : OKI 20 58 (.getfield 73, 61, [2, 1, 2], 0, 0, []) := And.intro dX4_seenAt_58 (And.intro rfl (⟨(RX1, TX1, 6), "SpotTimers$Clock", rfl, by decide, tm_2 _ (List.mem_of_getElem? (i := 180) rfl) rfl, Or.inl rfl, Or.inr (Or.inl (And.intro rfl rfl))⟩))
theorem oX4_seenAt_61 : OKI 20 61 (.getfield 77, 64, [8, 4, 0], 0, 0, []) := And.intro dX4_seenAt_61 (And.intro rfl (⟨(RX7, TX7, 5), "SpotTimers$Station", rfl, by decide, tm_2 _ (List.mem_of_getElem? (i := 75) rfl) rfl, Or.inl rfl, Or.inr (Or.inr (And.intro rfl (Or.inl rfl)))⟩))
theorem oX4_seenAt_64 : OKI 20 64 (.istore_n 3, 65, [3], 0, 0, []) := And.intro dX4_seenAt_64 (And.intro rfl (And.intro rfl (by decide)))
theorem oX4_seenAt_65 : OKI 20 65 (.iload_n 2, 66, [2], 0, 0, []) := And.intro dX4_seenAt_65 (And.intro rfl (rfl))
theorem oX4_seenAt_66 : OKI 20 66 (.ldc 66, 68, [], (-1000000000), 0, []) := And.intro dX4_seenAt_66 (And.intro rfl (tm_3 _ (List.mem_of_getElem? (i := 153) rfl) rfl))
theorem oX4_seenAt_68 : OKI 20 68 (.if_icmp .eq 9, 71, [77], 0, 0, []) := And.intro dX4_seenAt_68 (And.intro rfl (by decide))
theorem oX4_seenAt_71 : OKI 20 71 (.iload_n 3, 72, [3], 0, 0, []) := And.intro dX4_seenAt_71 (And.intro rfl (rfl))
theorem oX4_seenAt_72 : OKI 20 72 (.ldc 66, 74, [], (-1000000000), 0, []) := And.intro dX4_seenAt_72 (And.intro rfl (tm_3 _ (List.mem_of_getElem? (i := 153) rfl) rfl))
theorem oX4_seenAt_74 : OKI 20 74 (.if_icmp .ne 6, 77, [80], 0, 0, []) := And.intro dX4_seenAt_74 (And.intro rfl (by decide))
theorem oX4_seenAt_77 : OKI 20 77 (.ldc 66, 79, [], (-1000000000), 0, []) := And.intro dX4_seenAt_77 (And.intro rfl (tm_3 _ (List.mem_of_getElem? (i := 153) rfl) rfl))
theorem oX4_seenAt_79 : OKI 20 79 (.ireturn, 80, [0], 0, 0, []) := And.intro dX4_seenAt_79 (Or.inl (And.intro rfl rfl))
theorem oX4_seenAt_80 : OKI 20 80 (.aload_n 0, 81, [0], 0, 0, []) := And.intro dX4_seenAt_80 (And.intro rfl (rfl))
theorem oX4_seenAt_81 : OKI 20 81 (.invokevirtual 51, 84, [18, 1, 6, 0, 0, 3], 0, 0, []) := And.intro dX4_seenAt_81 (And.intro rfl (And.intro (by decide) (And.intro (by decide) (And.intro mo_X4_origin (And.intro (tm_3 _ (List.mem_of_getElem? (i := 146) rfl) rfl) (And.intro (tm_3 _ (List.mem_of_getElem? (i := 123) rfl) rfl) (And.intro (tm_3 _ (List.mem_of_getElem? (i := 124) rfl) rfl) (Or.inl ⟨(RX4, TX4, 11), rfl, rfl⟩))))))))
theorem oX4_seenAt_84 : OKI 20 84 (.getfield 30, 87, [5, 1, 0], 0, 0, []) := And.intro dX4_seenAt_84 (And.intro rfl (⟨(RX4, TX4, 11), "SpotTimers$Reading", rfl, by decide, tm_3 _ (List.mem_of_getElem? (i := 51) rfl) rfl, Or.inl rfl, Or.inr (Or.inr (And.intro rfl (Or.inl rfl)))⟩))
theorem oX4_seenAt_87 : OKI 20 87 (.iconst 5, 88, [], 5, 0, []) := And.intro dX4_seenAt_87 (And.intro rfl (by decide +kernel))
theorem oX4_seenAt_88 : OKI 20 88 (.if_icmp .ne 13, 91, [101], 0, 0, []) := And.intro dX4_seenAt_88 (And.intro rfl (by decide))
theorem oX4_seenAt_91 : OKI 20 91 (.aload_n 0, 92, [0], 0, 0, []) := And.intro dX4_seenAt_91 (And.intro rfl (rfl))
theorem oX4_seenAt_92 : OKI 20 92 (.invokevirtual 51, 95, [18, 1, 6, 0, 0, 3], 0, 0, []) := And.intro dX4_seenAt_92 (And.intro rfl (And.intro (by decide) (And.intro (by decide) (And.intro mo_X4_origin (And.intro (tm_3 _ (List.mem_of_getElem? (i := 146) rfl) rfl) (And.intro (tm_3 _ (List.mem_of_getElem? (i := 123) rfl) rfl) (And.intro (tm_3 _ (List.mem_of_getElem? (i := 124) rfl) rfl) (Or.inl ⟨(RX4, TX4, 11), rfl, rfl⟩))))))))
theorem oX4_seenAt_95 : OKI 20 95 (.getfield 9, 98, [5, 6, 0], 0, 0, []) := And.intro dX4_seenAt_95 (And.intro rfl (⟨(RX4, TX4, 11), "SpotTimers$Reading", rfl, by decide, tm_3 _ (List.mem_of_getElem? (i := 66) rfl) rfl, Or.inl rfl, Or.inr (Or.inr (And.intro rfl (Or.inl rfl)))⟩))
theorem oX4_seenAt_98 : OKI 20 98 (.goto 4, 101, [102], 0, 0, []) := And.intro dX4_seenAt_98 (And.intro rfl (by decide))
theorem oX4_seenAt_101 : OKI 20 101 (.iconst 0, 102, [], 0, 0, []) := And.intro dX4_seenAt_101 (And.intro rfl (by decide +kernel))
theorem oX4_seenAt_102 : OKI 20 102 (.istore 4, 104, [4], 0, 0, []) := And.intro dX4_seenAt_102 (And.intro rfl (And.intro rfl (by decide)))
theorem oX4_seenAt_104 : OKI 20 104 (.iload_n 2, 105, [2], 0, 0, []) := And.intro dX4_seenAt_104 (And.intro rfl (rfl))
theorem oX4_seenAt_105 : OKI 20 105 (.iload_n 3, 106, [3], 0, 0, []) := And.intro dX4_seenAt_105 (And.intro rfl (rfl))
theorem oX4_seenAt_106 : OKI 20 106 (.isub, 107, [], 0, 0, []) := And.intro dX4_seenAt_106 rfl
theorem oX4_seenAt_107 : OKI 20 107 (.aload_n 0, 108, [0], 0, 0, []) := And.intro dX4_seenAt_107 (And.intro rfl (rfl))
theorem oX4_seenAt_108 : OKI 20 108 (.getfield 33, 111, [5, 2, 2], 0, 0, []) := And.intro dX4_seenAt_108 (And.intro rfl (⟨(RX4, TX4, 11), "SpotTimers$Reading", rfl, by decide, tm_3 _ (List.mem_of_getElem? (i := 54) rfl) rfl, Or.inl rfl, Or.inr (Or.inl (And.intro rfl rfl))⟩))
theorem oX4_seenAt_111 : OKI 20 111 (.getfield 73, 114, [2, 1, 2], 0, 0, []) := And.intro dX4_seenAt_111 (And.intro rfl (⟨(RX1, TX1, 6), "SpotTimers$Clock", rfl, by decide, tm_2 _ (List.mem_of_getElem? (i := 180) rfl) rfl, Or.inl rfl, Or.inr (Or.inl (And.intro rfl rfl))⟩))
theorem oX4_seenAt_114 : OKI 20 114 (.getfield 82, 117, [8, 2, 0], 0, 0, []) := And.intro dX4_seenAt_114 (And.intro rfl (⟨(RX7, TX7, 5), "SpotTimers$Station", rfl, by decide, tm_2 _ (List.mem_of_getElem? (i := 71) rfl) rfl, Or.inl rfl, Or.inr (Or.inr (And.intro rfl (Or.inl rfl)))⟩))
theorem oX4_seenAt_117 : OKI 20 117 (.isub, 118, [], 0, 0, []) := And.intro dX4_seenAt_117 rfl
theorem oX4_seenAt_118 : OKI 20 118 (.iload 4, 120, [4], 0, 0, []) := And.intro dX4_seenAt_118 (And.intro rfl (rfl))
theorem oX4_seenAt_120 : OKI 20 120 (.iadd, 121, [], 0, 0, []) := And.intro dX4_seenAt_120 rfl
theorem oX4_seenAt_121 : OKI 20 121 (.ireturn, 122, [0], 0, 0, []) := And.intro dX4_seenAt_121 (Or.inl (And.intro rfl rfl))
def pfX4_seenAt (pc : Nat) : Option XE := (bif Nat.blt pc 64 then (bif Nat.blt pc 30 then (bif Nat.blt pc 13 then (bif Nat.blt pc 7 then (bif Nat.blt pc 1 then (bif Nat.beq pc 0 then some (.aload_n 0, 1, [0], 0, 0, []) else none) else (bif Nat.blt pc 4 then (bif Nat.beq pc 1 then some (.invokevirtual 59, 4, [19, 1, 6, 0, 0, 1], 0, 0, []) else none) else (bif Nat.beq pc 4 then some (.ifCond .eq 24, 7, [28], 0, 0, []) else none))) else (bif Nat.blt pc 9 then (bif Nat.blt pc 8 then (bif Nat.beq pc 7 then some (.iload_n 1, 8, [1], 0, 0, []) else none) else (bif Nat.beq pc 8 then some (.iconst 0, 9, [], 0, 0, []) else none)) else (bif Nat.blt pc 10 then (bif Nat.beq pc 9 then some (.aload_n 0, 10, [0], 0, 0, []) else none) else (bif Nat.beq pc 10 then some (.getfield 30, 13, [5, 1, 0], 0, 0, []) else none)))) else (bif Nat.blt pc 21 then (bif Nat.blt pc 17 then (bif Nat.blt pc 14 then (bif Nat.beq pc 13 then some (.iconst 4, 14, [], 4, 0, []) else none) else (bif Nat.beq pc 14 then some (.if_icmp .ne 7, 17, [21], 0, 0, []) else none)) else (bif Nat.blt pc 18 then (bif Nat.beq pc 17 then some (.iconst 1, 18, [], 1, 0, []) else none) else (bif Nat.beq pc 18 then some (.goto 4, 21, [22], 0, 0, []) else none))) else (bif Nat.blt pc 25 then (bif Nat.blt pc 22 then (bif Nat.beq pc 21 then some (.iconst 0, 22, [], 0, 0, []) else none) else (bif Nat.beq pc 22 then some (.invokestatic 62, 25, [111, 3, 0, 0, 0, 1], 0, 0, []) else none)) else (bif Nat.blt pc 28 then (bif Nat.beq pc 25 then some (.ifCond .ne 6, 28, [31], 0, 0, []) else none) else (bif Nat.beq pc 28 then some (.ldc 66, 30, [], (-1000000000), 0, []) else none))))) else (bif Nat.blt pc 46 then (bif Nat.blt pc 36 then (bif Nat.blt pc 32 then (bif Nat.blt pc 31 then (bif Nat.beq pc 30 then some (.ireturn, 31, [0], 0, 0, []) else none) else (bif Nat.beq pc 31 then some (.aload_n 0, 32, [0], 0, 0, []) else none)) else (bif Nat.blt pc 35 then (bif Nat.beq pc 32 then some (.getfield 33, 35, [5, 2, 2], 0, 0, []) else none) else (bif Nat.beq pc 35 then some (.iload_n 1, 36, [1], 0, 0, []) else none))) else (bif Nat.blt pc 40 then (bif Nat.blt pc 39 then (bif Nat.beq pc 36 then some (.ifCond .ne 10, 39, [46], 0, 0, []) else none) else (bif Nat.beq pc 39 then some (.aload_n 0, 40, [0], 0, 0, []) else none)) else (bif Nat.blt pc 43 then (bif Nat.beq pc 40 then some (.getfield 40, 43, [5, 4, 0], 0, 0, []) else none) else (bif Nat.beq pc 43 then some (.goto 7, 46, [50], 0, 0, []) else none)))) else (bif Nat.blt pc 54 then (bif Nat.blt pc 50 then (bif Nat.blt pc 47 then (bif Nat.beq pc 46 then some (.aload_n 0, 47, [0], 0, 0, []) else none) else (bif Nat.beq pc 47 then some (.getfield 9, 50, [5, 6, 0], 0, 0, []) else none)) else (bif Nat.blt pc 53 then (bif Nat.beq pc 50 then some (.invokevirtual 67, 53, [11, 2, 3, 0, 0, 1], 0, 0, []) else none) else (bif Nat.beq pc 53 then some (.istore_n 2, 54, [2], 0, 0, []) else none))) else (bif Nat.blt pc 58 then (bif Nat.blt pc 55 then (bif Nat.beq pc 54 then some (.aload_n 0, 55, [0], 0, 0, []) else none) else (bif Nat.beq pc 55 then some (.getfield 33, 58, [5, 2, 2], 0, 0, []) else none)) else (bif Nat.blt pc 61 then (bif Nat.beq pc 58 then some (.getfield 73, 61, [2, 1, 2], 0, 0, []) else none) else (bif Nat.beq pc 61 then some (.getfield 77, 64, [8, 4, 0], 0, 0, []) else none)))))) else (bif Nat.blt pc 92 then (bif Nat.blt pc 77 then (bif Nat.blt pc 68 then (bif Nat.blt pc 65 then (bif Nat.beq pc 64 then some (.istore_n 3, 65, [3], 0, 0, []) else none) else (bif Nat.blt pc 66 then (bif Nat.beq pc 65 then some (.iload_n 2, 66, [2], 0, 0, []) else none) else (bif Nat.beq pc 66 then some (.ldc 66, 68, [], (-1000000000), 0, []) else none))) else (bif Nat.blt pc 72 then (bif Nat.blt pc 71 then (bif Nat.beq pc 68 then some (.if_icmp .eq 9, 71, [77], 0, 0, []) else none) else (bif Nat.beq pc 71 then some (.iload_n 3, 72, [3], 0, 0, []) else none)) else (bif Nat.blt pc 74 then (bif Nat.beq pc 72 then some (.ldc 66, 74, [], (-1000000000), 0, []) else none) else (bif Nat.beq pc 74 then some (.if_icmp .ne 6, 77, [80], 0, 0, []) else none)))) else (bif Nat.blt pc 84 then (bif Nat.blt pc 80 then (bif Nat.blt pc 79 then (bif Nat.beq pc 77 then some (.ldc 66, 79, [], (-1000000000), 0, []) else none) else (bif Nat.beq pc 79 then some (.ireturn, 80, [0], 0, 0, []) else none)) else (bif Nat.blt pc 81 then (bif Nat.beq pc 80 then some (.aload_n 0, 81, [0], 0, 0, []) else none) else (bif Nat.beq pc 81 then some (.invokevirtual 51, 84, [18, 1, 6, 0, 0, 3], 0, 0, []) else none))) else (bif Nat.blt pc 88 then (bif Nat.blt pc 87 then (bif Nat.beq pc 84 then some (.getfield 30, 87, [5, 1, 0], 0, 0, []) else none) else (bif Nat.beq pc 87 then some (.iconst 5, 88, [], 5, 0, []) else none)) else (bif Nat.blt pc 91 then (bif Nat.beq pc 88 then some (.if_icmp .ne 13, 91, [101], 0, 0, []) else none) else (bif Nat.beq pc 91 then some (.aload_n 0, 92, [0], 0, 0, []) else none))))) else (bif Nat.blt pc 107 then (bif Nat.blt pc 102 then (bif Nat.blt pc 98 then (bif Nat.blt pc 95 then (bif Nat.beq pc 92 then some (.invokevirtual 51, 95, [18, 1, 6, 0, 0, 3], 0, 0, []) else none) else (bif Nat.beq pc 95 then some (.getfield 9, 98, [5, 6, 0], 0, 0, []) else none)) else (bif Nat.blt pc 101 then (bif Nat.beq pc 98 then some (.goto 4, 101, [102], 0, 0, []) else none) else (bif Nat.beq pc 101 then some (.iconst 0, 102, [], 0, 0, []) else none))) else (bif Nat.blt pc 105 then (bif Nat.blt pc 104 then (bif Nat.beq pc 102 then some (.istore 4, 104, [4], 0, 0, []) else none) else (bif Nat.beq pc 104 then some (.iload_n 2, 105, [2], 0, 0, []) else none)) else (bif Nat.blt pc 106 then (bif Nat.beq pc 105 then some (.iload_n 3, 106, [3], 0, 0, []) else none) else (bif Nat.beq pc 106 then some (.isub, 107, [], 0, 0, []) else none)))) else (bif Nat.blt pc 117 then (bif Nat.blt pc 111 then (bif Nat.blt pc 108 then (bif Nat.beq pc 107 then some (.aload_n 0, 108, [0], 0, 0, []) else none) else (bif Nat.beq pc 108 then some (.getfield 33, 111, [5, 2, 2], 0, 0, []) else none)) else (bif Nat.blt pc 114 then (bif Nat.beq pc 111 then some (.getfield 73, 114, [2, 1, 2], 0, 0, []) else none) else (bif Nat.beq pc 114 then some (.getfield 82, 117, [8, 2, 0], 0, 0, []) else none))) else (bif Nat.blt pc 120 then (bif Nat.blt pc 118 then (bif Nat.beq pc 117 then some (.isub, 118, [], 0, 0, []) else none) else (bif Nat.beq pc 118 then some (.iload 4, 120, [4], 0, 0, []) else none)) else (bif Nat.blt pc 121 then (bif Nat.beq pc 120 then some (.iadd, 121, [], 0, 0, []) else none) else (bif Nat.beq pc 121 then some (.ireturn, 122, [0], 0, 0, []) else none)))))))
theorem okX4_seenAt : ∀ pc Y, pfX4_seenAt pc = some Y → OKI m_X4_seenAt pc Y := fun pc Y => ((bt_node (bt_node (bt_node (bt_node (bt_node (bt_leaf (P := OKI m_X4_seenAt) oX4_seenAt_0) (bt_node (bt_leaf (P := OKI m_X4_seenAt) oX4_seenAt_1) (bt_leaf (P := OKI m_X4_seenAt) oX4_seenAt_4))) (bt_node (bt_node (bt_leaf (P := OKI m_X4_seenAt) oX4_seenAt_7) (bt_leaf (P := OKI m_X4_seenAt) oX4_seenAt_8)) (bt_node (bt_leaf (P := OKI m_X4_seenAt) oX4_seenAt_9) (bt_leaf (P := OKI m_X4_seenAt) oX4_seenAt_10)))) (bt_node (bt_node (bt_node (bt_leaf (P := OKI m_X4_seenAt) oX4_seenAt_13) (bt_leaf (P := OKI m_X4_seenAt) oX4_seenAt_14)) (bt_node (bt_leaf (P := OKI m_X4_seenAt) oX4_seenAt_17) (bt_leaf (P := OKI m_X4_seenAt) oX4_seenAt_18))) (bt_node (bt_node (bt_leaf (P := OKI m_X4_seenAt) oX4_seenAt_21) (bt_leaf (P := OKI m_X4_seenAt) oX4_seenAt_22)) (bt_node (bt_leaf (P := OKI m_X4_seenAt) oX4_seenAt_25) (bt_leaf (P := OKI m_X4_seenAt) oX4_seenAt_28))))) (bt_node (bt_node (bt_node (bt_node (bt_leaf (P := OKI m_X4_seenAt) oX4_seenAt_30) (bt_leaf (P := OKI m_X4_seenAt) oX4_seenAt_31)) (bt_node (bt_leaf (P := OKI m_X4_seenAt) oX4_seenAt_32) (bt_leaf (P := OKI m_X4_seenAt) oX4_seenAt_35))) (bt_node (bt_node (bt_leaf (P := OKI m_X4_seenAt) oX4_seenAt_36) (bt_leaf (P := OKI m_X4_seenAt) oX4_seenAt_39)) (bt_node (bt_leaf (P := OKI m_X4_seenAt) oX4_seenAt_40) (bt_leaf (P := OKI m_X4_seenAt) oX4_seenAt_43)))) (bt_node (bt_node (bt_node (bt_leaf (P := OKI m_X4_seenAt) oX4_seenAt_46) (bt_leaf (P := OKI m_X4_seenAt) oX4_seenAt_47)) (bt_node (bt_leaf (P := OKI m_X4_seenAt) oX4_seenAt_50) (bt_leaf (P := OKI m_X4_seenAt) oX4_seenAt_53))) (bt_node (bt_node (bt_leaf (P := OKI m_X4_seenAt) oX4_seenAt_54) (bt_leaf (P := OKI m_X4_seenAt) oX4_seenAt_55)) (bt_node (bt_leaf (P := OKI m_X4_seenAt) oX4_seenAt_58) (bt_leaf (P := OKI m_X4_seenAt) oX4_seenAt_61)))))) (bt_node (bt_node (bt_node (bt_node (bt_leaf (P := OKI m_X4_seenAt) oX4_seenAt_64) (bt_node (bt_leaf (P := OKI m_X4_seenAt) oX4_seenAt_65) (bt_leaf (P := OKI m_X4_seenAt) oX4_seenAt_66))) (bt_node (bt_node (bt_leaf (P := OKI m_X4_seenAt) oX4_seenAt_68) (bt_leaf (P := OKI m_X4_seenAt) oX4_seenAt_71)) (bt_node (bt_leaf (P := OKI m_X4_seenAt) oX4_seenAt_72) (bt_leaf (P := OKI m_X4_seenAt) oX4_seenAt_74)))) (bt_node (bt_node (bt_node (bt_leaf (P := OKI m_X4_seenAt) oX4_seenAt_77) (bt_leaf (P := OKI m_X4_seenAt) oX4_seenAt_79)) (bt_node (bt_leaf (P := OKI m_X4_seenAt) oX4_seenAt_80) (bt_leaf (P := OKI m_X4_seenAt) oX4_seenAt_81))) (bt_node (bt_node (bt_leaf (P := OKI m_X4_seenAt) oX4_seenAt_84) (bt_leaf (P := OKI m_X4_seenAt) oX4_seenAt_87)) (bt_node (bt_leaf (P := OKI m_X4_seenAt) oX4_seenAt_88) (bt_leaf (P := OKI m_X4_seenAt) oX4_seenAt_91))))) (bt_node (bt_node (bt_node (bt_node (bt_leaf (P := OKI m_X4_seenAt) oX4_seenAt_92) (bt_leaf (P := OKI m_X4_seenAt) oX4_seenAt_95)) (bt_node (bt_leaf (P := OKI m_X4_seenAt) oX4_seenAt_98) (bt_leaf (P := OKI m_X4_seenAt) oX4_seenAt_101))) (bt_node (bt_node (bt_leaf (P := OKI m_X4_seenAt) oX4_seenAt_102) (bt_leaf (P := OKI m_X4_seenAt) oX4_seenAt_104)) (bt_node (bt_leaf (P := OKI m_X4_seenAt) oX4_seenAt_105) (bt_leaf (P := OKI m_X4_seenAt) oX4_seenAt_106)))) (bt_node (bt_node (bt_node (bt_leaf (P := OKI m_X4_seenAt) oX4_seenAt_107) (bt_leaf (P := OKI m_X4_seenAt) oX4_seenAt_108)) (bt_node (bt_leaf (P := OKI m_X4_seenAt) oX4_seenAt_111) (bt_leaf (P := OKI m_X4_seenAt) oX4_seenAt_114))) (bt_node (bt_node (bt_leaf (P := OKI m_X4_seenAt) oX4_seenAt_117) (bt_leaf (P := OKI m_X4_seenAt) oX4_seenAt_118)) (bt_node (bt_leaf (P := OKI m_X4_seenAt) oX4_seenAt_120) (bt_leaf (P := OKI m_X4_seenAt) oX4_seenAt_121))))))) : pfX4_seenAt pc = some Y → OKI m_X4_seenAt pc Y)
def stpX4_seenAt (pc : Nat) : Option (List Bool) := (bif Nat.blt pc 50 then (bif Nat.blt pc 28 then (bif Nat.beq pc 22 then some [true, true, false, false, false] else none) else (bif Nat.beq pc 28 then some [false, false, false, false, false] else none)) else (bif Nat.blt pc 77 then (bif Nat.beq pc 50 then some [true, false, false, false, false] else none) else (bif Nat.blt pc 102 then (bif Nat.beq pc 77 then some [false, false, false, false, false] else none) else (bif Nat.beq pc 102 then some [true, false, true, true, false] else none))))
def bX4_seenAt_0 (d rc rs : Nat) (t : Nat) (a1 : Int32) (σ : XH) (Q : XV → XH → Prop) : Prop :=
  ((1 ≤ d ∧ Ec (d - 1) 0 0 m_X4_isOfEdge [vR (some (5, t))] σ (kI fun x2 h1 => ((x2 = 0 → Ex d rc rs m_X4_seenAt 28 [vU, vU, vU, vU, vU] [] h1 Q) ∧ (¬ x2 = 0 → ((((hi h1 5 t 1) = 4 → Ex d rc rs m_X4_seenAt 22 [vR (some (5, t)), vI a1, vU, vU, vU] [vI 1, vI 0, vI a1] h1 Q) ∧ (¬ (hi h1 5 t 1) = 4 → Ex d rc rs m_X4_seenAt 22 [vR (some (5, t)), vI a1, vU, vU, vU] [vI 0, vI 0, vI a1] h1 Q))))))))
theorem sX4_seenAt_0 {d rc rs : Nat} {t : Nat} {a1 : Int32} {σ : XH} {Q : XV → XH → Prop} (h : bX4_seenAt_0 d rc rs t a1 σ Q) : Ex d rc rs m_X4_seenAt 0 [vR (some (5, t)), vI a1, vU, vU, vU] [] σ Q :=
  xtree_sound (stop := stpX4_seenAt) okX4_seenAt 13 _ _ _ _ _ _ h
def bX4_seenAt_22 (d rc rs : Nat) (t : Nat) (l1 : Int32) (q0 : Int32) (q1 : Int32) (q2 : Int32) (σ : XH) (Q : XV → XH → Prop) : Prop :=
  (1 ≤ d ∧ Ec (d - 1) 0 0 m_X10_within [vI q2, vI q1, vI q0] σ (kI fun x2 h1 => ((x2 = 0 → Ex d rc rs m_X4_seenAt 28 [vU, vU, vU, vU, vU] [] h1 Q) ∧ (¬ x2 = 0 → (((l1 = 0 → (Ex d rc rs m_X4_seenAt 50 [vR (some (5, t)), vU, vU, vU, vU] [vI (hi h1 5 t 4), vR (hr h1 5 t 2)] h1 Q)) ∧ (¬ l1 = 0 → (Ex d rc rs m_X4_seenAt 50 [vR (some (5, t)), vU, vU, vU, vU] [vI (hi h1 5 t 6), vR (hr h1 5 t 2)] h1 Q))))))))
theorem sX4_seenAt_22 {d rc rs : Nat} {t : Nat} {l1 : Int32} {q0 : Int32} {q1 : Int32} {q2 : Int32} {σ : XH} {Q : XV → XH → Prop} (h : bX4_seenAt_22 d rc rs t l1 q0 q1 q2 σ Q) : Ex d rc rs m_X4_seenAt 22 [vR (some (5, t)), vI l1, vU, vU, vU] [vI q0, vI q1, vI q2] σ Q :=
  xtree_sound (stop := stpX4_seenAt) okX4_seenAt 11 _ _ _ _ _ _ h
def bX4_seenAt_28 (d rc rs : Nat)  (σ : XH) (Q : XV → XH → Prop) : Prop :=
  Q (vI (-1000000000)) σ
theorem sX4_seenAt_28 {d rc rs : Nat}  {σ : XH} {Q : XV → XH → Prop} (h : bX4_seenAt_28 d rc rs  σ Q) : Ex d rc rs m_X4_seenAt 28 [vU, vU, vU, vU, vU] [] σ Q :=
  xtree_sound (stop := stpX4_seenAt) okX4_seenAt 4 _ _ _ _ _ _ h
def bX4_seenAt_50 (d rc rs : Nat) (t : Nat) (q0 : Int32) (q1 : Option XO) (σ : XH) (Q : XV → XH → Prop) : Prop :=
  (drf q1 2 fun i11 => (1 ≤ d ∧ Ec (d - 1) 0 0 m_X1_trueTime [vR (some (2, i11)), vI q0] σ (kI fun x2 h1 => ((drf (hr h1 5 t 2) 2 fun i3 => (drf (hr h1 2 i3 1) 8 fun i4 => ((x2 = (-1000000000) → Ex d rc rs m_X4_seenAt 77 [vU, vU, vU, vU, vU] [] h1 Q) ∧ (¬ x2 = (-1000000000) → (((hi h1 8 i4 4) = (-1000000000) → Ex d rc rs m_X4_seenAt 77 [vU, vU, vU, vU, vU] [] h1 Q) ∧ (¬ (hi h1 8 i4 4) = (-1000000000) → ((1 ≤ d ∧ Ec (d - 1) 0 0 m_X4_origin [vR (some (5, t))] h1 (kR fun x6 h5 => (drf x6 5 fun i7 => (((hi h5 5 i7 1) = 5 → ((1 ≤ d ∧ Ec (d - 1) 0 0 m_X4_origin [vR (some (5, t))] h5 (kR fun x9 h8 => (drf x9 5 fun i10 => Ex d rc rs m_X4_seenAt 102 [vR (some (5, t)), vU, vI x2, vI (hi h1 8 i4 4), vU] [vI (hi h8 5 i10 6)] h8 Q))))) ∧ (¬ (hi h5 5 i7 1) = 5 → Ex d rc rs m_X4_seenAt 102 [vR (some (5, t)), vU, vI x2, vI (hi h1 8 i4 4), vU] [vI 0] h5 Q))))))))))))))))
theorem sX4_seenAt_50 {d rc rs : Nat} {t : Nat} {q0 : Int32} {q1 : Option XO} {σ : XH} {Q : XV → XH → Prop} (h : bX4_seenAt_50 d rc rs t q0 q1 σ Q) : Ex d rc rs m_X4_seenAt 50 [vR (some (5, t)), vU, vU, vU, vU] [vI q0, vR q1] σ Q :=
  xtree_sound (stop := stpX4_seenAt) okX4_seenAt 24 _ _ _ _ _ _ h
def bX4_seenAt_77 (d rc rs : Nat)  (σ : XH) (Q : XV → XH → Prop) : Prop :=
  Q (vI (-1000000000)) σ
theorem sX4_seenAt_77 {d rc rs : Nat}  {σ : XH} {Q : XV → XH → Prop} (h : bX4_seenAt_77 d rc rs  σ Q) : Ex d rc rs m_X4_seenAt 77 [vU, vU, vU, vU, vU] [] σ Q :=
  xtree_sound (stop := stpX4_seenAt) okX4_seenAt 4 _ _ _ _ _ _ h
def bX4_seenAt_102 (d rc rs : Nat) (t : Nat) (l2 : Int32) (l3 : Int32) (q0 : Int32) (σ : XH) (Q : XV → XH → Prop) : Prop :=
  ((drf (hr σ 5 t 2) 2 fun i1 => (drf (hr σ 2 i1 1) 8 fun i2 => Q (vI (((l2 - l3) - (hi σ 8 i2 2)) + q0)) σ)))
theorem sX4_seenAt_102 {d rc rs : Nat} {t : Nat} {l2 : Int32} {l3 : Int32} {q0 : Int32} {σ : XH} {Q : XV → XH → Prop} (h : bX4_seenAt_102 d rc rs t l2 l3 q0 σ Q) : Ex d rc rs m_X4_seenAt 102 [vR (some (5, t)), vU, vI l2, vI l3, vU] [vI q0] σ Q :=
  xtree_sound (stop := stpX4_seenAt) okX4_seenAt 14 _ _ _ _ _ _ h
/-! SpotTimers$Reading.valueBy(I)I -/
theorem dX4_valueBy_0 : decode cX4_valueBy 0 = .ok (.aload_n 0, 1) := by decide +kernel
theorem dX4_valueBy_1 : decode cX4_valueBy 1 = .ok (.iconst 0, 1) := by decide +kernel
theorem dX4_valueBy_2 : decode cX4_valueBy 2 = .ok (.invokevirtual 85, 3) := by decide +kernel
theorem dX4_valueBy_5 : decode cX4_valueBy 5 = .ok (.istore_n 2, 1) := by decide +kernel
theorem dX4_valueBy_6 : decode cX4_valueBy 6 = .ok (.aload_n 0, 1) := by decide +kernel
theorem dX4_valueBy_7 : decode cX4_valueBy 7 = .ok (.getfield 30, 3) := by decide +kernel
theorem dX4_valueBy_10 : decode cX4_valueBy 10 = .ok (.iconst 4, 1) := by decide +kernel
theorem dX4_valueBy_11 : decode cX4_valueBy 11 = .ok (.if_icmp .ne 9, 3) := by decide +kernel
theorem dX4_valueBy_14 : decode cX4_valueBy 14 = .ok (.iload_n 2, 1) := by decide +kernel
theorem dX4_valueBy_15 : decode cX4_valueBy 15 = .ok (.ldc 66, 2) := by decide +kernel
theorem dX4_valueBy_17 : decode cX4_valueBy 17 = .ok (.if_icmp .ne 5, 3) := by decide +kernel
theorem dX4_valueBy_20 : decode cX4_valueBy 20 = .ok (.iload_n 2, 1) := by decide +kernel
theorem dX4_valueBy_21 : decode cX4_valueBy 21 = .ok (.ireturn, 1) := by decide +kernel
theorem dX4_valueBy_22 : decode cX4_valueBy 22 = .ok (.aload_n 0, 1) := by decide +kernel
theorem dX4_valueBy_23 : decode cX4_valueBy 23 = .ok (.iconst 1, 1) := by decide +kernel
theorem dX4_valueBy_24 : decode cX4_valueBy 24 = .ok (.invokevirtual 85, 3) := by decide +kernel
theorem dX4_valueBy_27 : decode cX4_valueBy 27 = .ok (.istore_n 3, 1) := by decide +kernel
theorem dX4_valueBy_28 : decode cX4_valueBy 28 = .ok (.iload_n 3, 1) := by decide +kernel
theorem dX4_valueBy_29 : decode cX4_valueBy 29 = .ok (.ldc 66, 2) := by decide +kernel
theorem dX4_valueBy_31 : decode cX4_valueBy 31 = .ok (.if_icmp .eq 8, 3) := by decide +kernel
theorem dX4_valueBy_34 : decode cX4_valueBy 34 = .ok (.iload_n 1, 1) := by decide +kernel
theorem dX4_valueBy_35 : decode cX4_valueBy 35 = .ok (.iconst 2, 1) := by decide +kernel
theorem dX4_valueBy_36 : decode cX4_valueBy 36 = .ok (.if_icmp .ne 5, 3) := by decide +kernel
theorem dX4_valueBy_39 : decode cX4_valueBy 39 = .ok (.iload_n 3, 1) := by decide +kernel
theorem dX4_valueBy_40 : decode cX4_valueBy 40 = .ok (.ireturn, 1) := by decide +kernel
theorem dX4_valueBy_41 : decode cX4_valueBy 41 = .ok (.iload_n 1, 1) := by decide +kernel
theorem dX4_valueBy_42 : decode cX4_valueBy 42 = .ok (.ifCond .ne 7, 3) := by decide +kernel
theorem dX4_valueBy_45 : decode cX4_valueBy 45 = .ok (.iload_n 2, 1) := by decide +kernel
theorem dX4_valueBy_46 : decode cX4_valueBy 46 = .ok (.goto 10, 3) := by decide +kernel
theorem dX4_valueBy_49 : decode cX4_valueBy 49 = .ok (.iload_n 2, 1) := by decide +kernel
theorem dX4_valueBy_50 : decode cX4_valueBy 50 = .ok (.iload_n 3, 1) := by decide +kernel
theorem dX4_valueBy_51 : decode cX4_valueBy 51 = .ok (.iadd, 1) := by decide +kernel
theorem dX4_valueBy_52 : decode cX4_valueBy 52 = .ok (.iconst 2, 1) := by decide +kernel
theorem dX4_valueBy_53 : decode cX4_valueBy 53 = .ok (.invokestatic 88, 3) := by decide +kernel
theorem dX4_valueBy_56 : decode cX4_valueBy 56 = .ok (.ireturn, 1) := by decide +kernel
theorem oX4_valueBy_0 : OKI 21 0 (.aload_n 0, 1, [0], 0, 0, []) := And.intro dX4_valueBy_0 (And.intro rfl (rfl))
theorem oX4_valueBy_1 : OKI 21 1 (.iconst 0, 2, [], 0, 0, []) := And.intro dX4_valueBy_1 (And.intro rfl (by decide +kernel))
theorem oX4_valueBy_2 : OKI 21 2 (.invokevirtual 85, 5, [20, 2, 6, 0, 0, 1], 0, 0, []) := And.intro dX4_valueBy_2 (And.intro rfl (And.intro (by decide) (And.intro (by decide) (And.intro mo_X4_seenAt (And.intro (tm_4 _ (List.mem_of_getElem? (i := 165) rfl) rfl) (And.intro (tm_3 _ (List.mem_of_getElem? (i := 139) rfl) rfl) (And.intro (tm_3 _ (List.mem_of_getElem? (i := 140) rfl) rfl) (Or.inl ⟨(RX4, TX4, 11), rfl, rfl⟩))))))))
theorem oX4_valueBy_5 : OKI 21 5 (.istore_n 2, 6, [2], 0, 0, []) := And.intro dX4_valueBy_5 (And.intro rfl (And.intro rfl (by decide)))
theorem oX4_valueBy_6 : OKI 21 6 (.aload_n 0, 7, [0], 0, 0, []) := And.intro dX4_valueBy_6 (And.intro rfl (rfl))
theorem oX4_valueBy_7 : OKI 21 7 (.getfield 30, 10, [5, 1, 0], 0, 0, []) := And.intro dX4_valueBy_7 (And.intro rfl (⟨(RX4, TX4, 11), "SpotTimers$Reading", rfl, by decide, tm_3 _ (List.mem_of_getElem? (i := 51) rfl) rfl, Or.inl rfl, Or.inr (Or.inr (And.intro rfl (Or.inl rfl)))⟩))
theorem oX4_valueBy_10 : OKI 21 10 (.iconst 4, 11, [], 4, 0, []) := And.intro dX4_valueBy_10 (And.intro rfl (by decide +kernel))
theorem oX4_valueBy_11 : OKI 21 11 (.if_icmp .ne 9, 14, [20], 0, 0, []) := And.intro dX4_valueBy_11 (And.intro rfl (by decide))
theorem oX4_valueBy_14 : OKI 21 14 (.iload_n 2, 15, [2], 0, 0, []) := And.intro dX4_valueBy_14 (And.intro rfl (rfl))
theorem oX4_valueBy_15 : OKI 21 15 (.ldc 66, 17, [], (-1000000000), 0, []) := And.intro dX4_valueBy_15 (And.intro rfl (tm_3 _ (List.mem_of_getElem? (i := 153) rfl) rfl))
theorem oX4_valueBy_17 : OKI 21 17 (.if_icmp .ne 5, 20, [22], 0, 0, []) := And.intro dX4_valueBy_17 (And.intro rfl (by decide))
theorem oX4_valueBy_20 : OKI 21 20 (.iload_n 2, 21, [2], 0, 0, []) := And.intro dX4_valueBy_20 (And.intro rfl (rfl))
theorem oX4_valueBy_21 : OKI 21 21 (.ireturn, 22, [0], 0, 0, []) := And.intro dX4_valueBy_21 (Or.inl (And.intro rfl rfl))
theorem oX4_valueBy_22 : OKI 21 22 (.aload_n 0, 23, [0], 0, 0, []) := And.intro dX4_valueBy_22 (And.intro rfl (rfl))
theorem oX4_valueBy_23 : OKI 21 23 (.iconst 1, 24, [], 1, 0, []) := And.intro dX4_valueBy_23 (And.intro rfl (by decide +kernel))
theorem oX4_valueBy_24 : OKI 21 24 (.invokevirtual 85, 27, [20, 2, 6, 0, 0, 1], 0, 0, []) := And.intro dX4_valueBy_24 (And.intro rfl (And.intro (by decide) (And.intro (by decide) (And.intro mo_X4_seenAt (And.intro (tm_4 _ (List.mem_of_getElem? (i := 165) rfl) rfl) (And.intro (tm_3 _ (List.mem_of_getElem? (i := 139) rfl) rfl) (And.intro (tm_3 _ (List.mem_of_getElem? (i := 140) rfl) rfl) (Or.inl ⟨(RX4, TX4, 11), rfl, rfl⟩))))))))
theorem oX4_valueBy_27 : OKI 21 27 (.istore_n 3, 28, [3], 0, 0, []) := And.intro dX4_valueBy_27 (And.intro rfl (And.intro rfl (by decide)))
theorem oX4_valueBy_28 : OKI 21 28 (.iload_n 3, 29, [3], 0, 0, []) := And.intro dX4_valueBy_28 (And.intro rfl (rfl))
theorem oX4_valueBy_29 : OKI 21 29 (.ldc 66, 31, [], (-1000000000), 0, []) := And.intro dX4_valueBy_29 (And.intro rfl (tm_3 _ (List.mem_of_getElem? (i := 153) rfl) rfl))
theorem oX4_valueBy_31 : OKI 21 31 (.if_icmp .eq 8, 34, [39], 0, 0, []) := And.intro dX4_valueBy_31 (And.intro rfl (by decide))
theorem oX4_valueBy_34 : OKI 21 34 (.iload_n 1, 35, [1], 0, 0, []) := And.intro dX4_valueBy_34 (And.intro rfl (rfl))
theorem oX4_valueBy_35 : OKI 21 35 (.iconst 2, 36, [], 2, 0, []) := And.intro dX4_valueBy_35 (And.intro rfl (by decide +kernel))
theorem oX4_valueBy_36 : OKI 21 36 (.if_icmp .ne 5, 39, [41], 0, 0, []) := And.intro dX4_valueBy_36 (And.intro rfl (by decide))
theorem oX4_valueBy_39 : OKI 21 39 (.iload_n 3, 40, [3], 0, 0, []) := And.intro dX4_valueBy_39 (And.intro rfl (rfl))
theorem oX4_valueBy_40 : OKI 21 40 (.ireturn, 41, [0], 0, 0, []) := And.intro dX4_valueBy_40 (Or.inl (And.intro rfl rfl))
theorem oX4_valueBy_41 : OKI 21 41 (.iload_n 1, 42, [1], 0, 0, []) := And.intro dX4_valueBy_41 (And.intro rfl (rfl))
theorem oX4_valueBy_42 : OKI 21 42 (.ifCond .ne 7, 45, [49], 0, 0, []) := And.intro dX4_valueBy_42 (And.intro rfl (by decide))
theorem oX4_valueBy_45 : OKI 21 45 (.iload_n 2, 46, [2], 0, 0, []) := And.intro dX4_valueBy_45 (And.intro rfl (rfl))
theorem oX4_valueBy_46 : OKI 21 46 (.goto 10, 49, [56], 0, 0, []) := And.intro dX4_valueBy_46 (And.intro rfl (by decide))
theorem oX4_valueBy_49 : OKI 21 49 (.iload_n 2, 50, [2], 0, 0, []) := And.intro dX4_valueBy_49 (And.intro rfl (rfl))
theorem oX4_valueBy_50 : OKI 21 50 (.iload_n 3, 51, [3], 0, 0, []) := And.intro dX4_valueBy_50 (And.intro rfl (rfl))
theorem oX4_valueBy_51 : OKI 21 51 (.iadd, 52, [], 0, 0, []) := And.intro dX4_valueBy_51 rfl
theorem oX4_valueBy_52 : OKI 21 52 (.iconst 2, 53, [], 2, 0, []) := And.intro dX4_valueBy_52 (And.intro rfl (by decide +kernel))
theorem oX4_valueBy_53 : OKI 21 53 (.invokestatic 88, 56, [248, 2, 0, 0, 0, 1], 0, 0, []) := And.intro dX4_valueBy_53 (And.intro rfl (And.intro rfl (And.intro mo_J9_floorDiv_7cf53 (And.intro (Or.inl (tm_4 _ (List.mem_of_getElem? (i := 166) rfl) rfl)) (tm_2 _ (List.mem_of_getElem? (i := 62) rfl) rfl)))))
theorem oX4_valueBy_56 : OKI 21 56 (.ireturn, 57, [0], 0, 0, []) := And.intro dX4_valueBy_56 (Or.inl (And.intro rfl rfl))
def pfX4_valueBy (pc : Nat) : Option XE := (bif Nat.blt pc 28 then (bif Nat.blt pc 14 then (bif Nat.blt pc 6 then (bif Nat.blt pc 2 then (bif Nat.blt pc 1 then (bif Nat.beq pc 0 then some (.aload_n 0, 1, [0], 0, 0, []) else none) else (bif Nat.beq pc 1 then some (.iconst 0, 2, [], 0, 0, []) else none)) else (bif Nat.blt pc 5 then (bif Nat.beq pc 2 then some (.invokevirtual 85, 5, [20, 2, 6, 0, 0, 1], 0, 0, []) else none) else (bif Nat.beq pc 5 then some (.istore_n 2, 6, [2], 0, 0, []) else none))) else (bif Nat.blt pc 10 then (bif Nat.blt pc 7 then (bif Nat.beq pc 6 then some (.aload_n 0, 7, [0], 0, 0, []) else none) else (bif Nat.beq pc 7 then some (.getfield 30, 10, [5, 1, 0], 0, 0, []) else none)) else (bif Nat.blt pc 11 then (bif Nat.beq pc 10 then some (.iconst 4, 11, [], 4, 0, []) else none) else (bif Nat.beq pc 11 then some (.if_icmp .ne 9, 14, [20], 0, 0, []) else none)))) else (bif Nat.blt pc 21 then (bif Nat.blt pc 17 then (bif Nat.blt pc 15 then (bif Nat.beq pc 14 then some (.iload_n 2, 15, [2], 0, 0, []) else none) else (bif Nat.beq pc 15 then some (.ldc 66, 17, [], (-1000000000), 0, []) else none)) else (bif Nat.blt pc 20 then (bif Nat.beq pc 17 then some (.if_icmp .ne 5, 20, [22], 0, 0, []) else none) else (bif Nat.beq pc 20 then some (.iload_n 2, 21, [2], 0, 0, []) else none))) else (bif Nat.blt pc 23 then (bif Nat.blt pc 22 then (bif Nat.beq pc 21 then some (.ireturn, 22, [0], 0, 0, []) else none) else (bif Nat.beq pc 22 then some (.aload_n 0, 23, [0], 0, 0, []) else none)) else (bif Nat.blt pc 24 then (bif Nat.beq pc 23 then some (.iconst 1, 24, [], 1, 0, []) else none) else (bif Nat.blt pc 27 then (bif Nat.beq pc 24 then some (.invokevirtual 85, 27, [20, 2, 6, 0, 0, 1], 0, 0, []) else none) else (bif Nat.beq pc 27 then some (.istore_n 3, 28, [3], 0, 0, []) else none)))))) else (bif Nat.blt pc 42 then (bif Nat.blt pc 35 then (bif Nat.blt pc 31 then (bif Nat.blt pc 29 then (bif Nat.beq pc 28 then some (.iload_n 3, 29, [3], 0, 0, []) else none) else (bif Nat.beq pc 29 then some (.ldc 66, 31, [], (-1000000000), 0, []) else none)) else (bif Nat.blt pc 34 then (bif Nat.beq pc 31 then some (.if_icmp .eq 8, 34, [39], 0, 0, []) else none) else (bif Nat.beq pc 34 then some (.iload_n 1, 35, [1], 0, 0, []) else none))) else (bif Nat.blt pc 39 then (bif Nat.blt pc 36 then (bif Nat.beq pc 35 then some (.iconst 2, 36, [], 2, 0, []) else none) else (bif Nat.beq pc 36 then some (.if_icmp .ne 5, 39, [41], 0, 0, []) else none)) else (bif Nat.blt pc 40 then (bif Nat.beq pc 39 then some (.iload_n 3, 40, [3], 0, 0, []) else none) else (bif Nat.blt pc 41 then (bif Nat.beq pc 40 then some (.ireturn, 41, [0], 0, 0, []) else none) else (bif Nat.beq pc 41 then some (.iload_n 1, 42, [1], 0, 0, []) else none))))) else (bif Nat.blt pc 50 then (bif Nat.blt pc 46 then (bif Nat.blt pc 45 then (bif Nat.beq pc 42 then some (.ifCond .ne 7, 45, [49], 0, 0, []) else none) else (bif Nat.beq pc 45 then some (.iload_n 2, 46, [2], 0, 0, []) else none)) else (bif Nat.blt pc 49 then (bif Nat.beq pc 46 then some (.goto 10, 49, [56], 0, 0, []) else none) else (bif Nat.beq pc 49 then some (.iload_n 2, 50, [2], 0, 0, []) else none))) else (bif Nat.blt pc 52 then (bif Nat.blt pc 51 then (bif Nat.beq pc 50 then some (.iload_n 3, 51, [3], 0, 0, []) else none) else (bif Nat.beq pc 51 then some (.iadd, 52, [], 0, 0, []) else none)) else (bif Nat.blt pc 53 then (bif Nat.beq pc 52 then some (.iconst 2, 53, [], 2, 0, []) else none) else (bif Nat.blt pc 56 then (bif Nat.beq pc 53 then some (.invokestatic 88, 56, [248, 2, 0, 0, 0, 1], 0, 0, []) else none) else (bif Nat.beq pc 56 then some (.ireturn, 57, [0], 0, 0, []) else none)))))))
theorem okX4_valueBy : ∀ pc Y, pfX4_valueBy pc = some Y → OKI m_X4_valueBy pc Y := fun pc Y => ((bt_node (bt_node (bt_node (bt_node (bt_node (bt_leaf (P := OKI m_X4_valueBy) oX4_valueBy_0) (bt_leaf (P := OKI m_X4_valueBy) oX4_valueBy_1)) (bt_node (bt_leaf (P := OKI m_X4_valueBy) oX4_valueBy_2) (bt_leaf (P := OKI m_X4_valueBy) oX4_valueBy_5))) (bt_node (bt_node (bt_leaf (P := OKI m_X4_valueBy) oX4_valueBy_6) (bt_leaf (P := OKI m_X4_valueBy) oX4_valueBy_7)) (bt_node (bt_leaf (P := OKI m_X4_valueBy) oX4_valueBy_10) (bt_leaf (P := OKI m_X4_valueBy) oX4_valueBy_11)))) (bt_node (bt_node (bt_node (bt_leaf (P := OKI m_X4_valueBy) oX4_valueBy_14) (bt_leaf (P := OKI m_X4_valueBy) oX4_valueBy_15)) (bt_node (bt_leaf (P := OKI m_X4_valueBy) oX4_valueBy_17) (bt_leaf (P := OKI m_X4_valueBy) oX4_valueBy_20))) (bt_node (bt_node (bt_leaf (P := OKI m_X4_valueBy) oX4_valueBy_21) (bt_leaf (P := OKI m_X4_valueBy) oX4_valueBy_22)) (bt_node (bt_leaf (P := OKI m_X4_valueBy) oX4_valueBy_23) (bt_node (bt_leaf (P := OKI m_X4_valueBy) oX4_valueBy_24) (bt_leaf (P := OKI m_X4_valueBy) oX4_valueBy_27)))))) (bt_node (bt_node (bt_node (bt_node (bt_leaf (P := OKI m_X4_valueBy) oX4_valueBy_28) (bt_leaf (P := OKI m_X4_valueBy) oX4_valueBy_29)) (bt_node (bt_leaf (P := OKI m_X4_valueBy) oX4_valueBy_31) (bt_leaf (P := OKI m_X4_valueBy) oX4_valueBy_34))) (bt_node (bt_node (bt_leaf (P := OKI m_X4_valueBy) oX4_valueBy_35) (bt_leaf (P := OKI m_X4_valueBy) oX4_valueBy_36)) (bt_node (bt_leaf (P := OKI m_X4_valueBy) oX4_valueBy_39) (bt_node (bt_leaf (P := OKI m_X4_valueBy) oX4_valueBy_40) (bt_leaf (P := OKI m_X4_valueBy) oX4_valueBy_41))))) (bt_node (bt_node (bt_node (bt_leaf (P := OKI m_X4_valueBy) oX4_valueBy_42) (bt_leaf (P := OKI m_X4_valueBy) oX4_valueBy_45)) (bt_node (bt_leaf (P := OKI m_X4_valueBy) oX4_valueBy_46) (bt_leaf (P := OKI m_X4_valueBy) oX4_valueBy_49))) (bt_node (bt_node (bt_leaf (P := OKI m_X4_valueBy) oX4_valueBy_50) (bt_leaf (P := OKI m_X4_valueBy) oX4_valueBy_51)) (bt_node (bt_leaf (P := OKI m_X4_valueBy) oX4_valueBy_52) (bt_node (bt_leaf (P := OKI m_X4_valueBy) oX4_valueBy_53) (bt_leaf (P := OKI m_X4_valueBy) oX4_valueBy_56))))))) : pfX4_valueBy pc = some Y → OKI m_X4_valueBy pc Y)
def stpX4_valueBy (pc : Nat) : Option (List Bool) := (bif Nat.blt pc 39 then (bif Nat.beq pc 20 then some [false, false, true, false] else none) else (bif Nat.blt pc 56 then (bif Nat.beq pc 39 then some [false, false, false, true] else none) else (bif Nat.beq pc 56 then some [false, false, false, false] else none)))
def bX4_valueBy_0 (d rc rs : Nat) (t : Nat) (a1 : Int32) (σ : XH) (Q : XV → XH → Prop) : Prop :=
  ((1 ≤ d ∧ Ec (d - 1) 0 0 m_X4_seenAt [vR (some (5, t)), vI 0] σ (kI fun x2 h1 => ((((hi h1 5 t 1) = 4 → ((x2 = (-1000000000) → Ex d rc rs m_X4_valueBy 20 [vU, vU, vI x2, vU] [] h1 Q) ∧ (¬ x2 = (-1000000000) → ((1 ≤ d ∧ Ec (d - 1) 0 0 m_X4_seenAt [vR (some (5, t)), vI 1] h1 (kI fun x4 h3 => ((x4 = (-1000000000) → Ex d rc rs m_X4_valueBy 39 [vU, vU, vU, vI x4] [] h3 Q) ∧ (¬ x4 = (-1000000000) → ((a1 = 2 → Ex d rc rs m_X4_valueBy 39 [vU, vU, vU, vI x4] [] h3 Q) ∧ (¬ a1 = 2 → ((a1 = 0 → Ex d rc rs m_X4_valueBy 56 [vU, vU, vU, vU] [vI x2] h3 Q) ∧ (¬ a1 = 0 → (1 ≤ d ∧ Ec (d - 1) 0 0 m_J9_floorDiv_7cf53 [vI (x2 + x4), vI 2] h3 (kI fun x6 h5 => Ex d rc rs m_X4_valueBy 56 [vU, vU, vU, vU] [vI x6] h5 Q)))))))))))))) ∧ (¬ (hi h1 5 t 1) = 4 → Ex d rc rs m_X4_valueBy 20 [vU, vU, vI x2, vU] [] h1 Q))))))
theorem sX4_valueBy_0 {d rc rs : Nat} {t : Nat} {a1 : Int32} {σ : XH} {Q : XV → XH → Prop} (h : bX4_valueBy_0 d rc rs t a1 σ Q) : Ex d rc rs m_X4_valueBy 0 [vR (some (5, t)), vI a1, vU, vU] [] σ Q :=
  xtree_sound (stop := stpX4_valueBy) okX4_valueBy 30 _ _ _ _ _ _ h
def bX4_valueBy_20 (d rc rs : Nat) (l2 : Int32) (σ : XH) (Q : XV → XH → Prop) : Prop :=
  Q (vI l2) σ
theorem sX4_valueBy_20 {d rc rs : Nat} {l2 : Int32} {σ : XH} {Q : XV → XH → Prop} (h : bX4_valueBy_20 d rc rs l2 σ Q) : Ex d rc rs m_X4_valueBy 20 [vU, vU, vI l2, vU] [] σ Q :=
  xtree_sound (stop := stpX4_valueBy) okX4_valueBy 4 _ _ _ _ _ _ h
def bX4_valueBy_39 (d rc rs : Nat) (l3 : Int32) (σ : XH) (Q : XV → XH → Prop) : Prop :=
  Q (vI l3) σ
theorem sX4_valueBy_39 {d rc rs : Nat} {l3 : Int32} {σ : XH} {Q : XV → XH → Prop} (h : bX4_valueBy_39 d rc rs l3 σ Q) : Ex d rc rs m_X4_valueBy 39 [vU, vU, vU, vI l3] [] σ Q :=
  xtree_sound (stop := stpX4_valueBy) okX4_valueBy 4 _ _ _ _ _ _ h
def bX4_valueBy_56 (d rc rs : Nat) (q0 : Int32) (σ : XH) (Q : XV → XH → Prop) : Prop :=
  Q (vI q0) σ
theorem sX4_valueBy_56 {d rc rs : Nat} {q0 : Int32} {σ : XH} {Q : XV → XH → Prop} (h : bX4_valueBy_56 d rc rs q0 σ Q) : Ex d rc rs m_X4_valueBy 56 [vU, vU, vU, vU] [vI q0] σ Q :=
  xtree_sound (stop := stpX4_valueBy) okX4_valueBy 3 _ _ _ _ _ _ h
/-! SpotTimers$Reading.isJoinedTo(LSpotTimers$Reading;)Z -/
theorem dX4_isJoinedTo_0 : decode cX4_isJoinedTo 0 = .ok (.aload_n 0, 1) := by decide +kernel
theorem dX4_isJoinedTo_1 : decode cX4_isJoinedTo 1 = .ok (.invokevirtual 94, 3) := by decide +kernel
theorem dX4_isJoinedTo_4 : decode cX4_isJoinedTo 4 = .ok (.iconst 3, 1) := by decide +kernel
theorem dX4_isJoinedTo_5 : decode cX4_isJoinedTo 5 = .ok (.invokestatic 55, 3) := by decide +kernel
theorem dX4_isJoinedTo_8 : decode cX4_isJoinedTo 8 = .ok (.ifCond .eq 80, 3) := by decide +kernel
theorem dX4_isJoinedTo_11 : decode cX4_isJoinedTo 11 = .ok (.aload_n 1, 1) := by decide +kernel
theorem dX4_isJoinedTo_12 : decode cX4_isJoinedTo 12 = .ok (.invokevirtual 94, 3) := by decide +kernel
theorem dX4_isJoinedTo_15 : decode cX4_isJoinedTo 15 = .ok (.iconst 3, 1) := by decide +kernel
theorem dX4_isJoinedTo_16 : decode cX4_isJoinedTo 16 = .ok (.invokestatic 55, 3) := by decide +kernel
theorem dX4_isJoinedTo_19 : decode cX4_isJoinedTo 19 = .ok (.ifCond .eq 69, 3) := by decide +kernel
theorem dX4_isJoinedTo_22 : decode cX4_isJoinedTo 22 = .ok (.aload_n 0, 1) := by decide +kernel
theorem dX4_isJoinedTo_23 : decode cX4_isJoinedTo 23 = .ok (.getfield 33, 3) := by decide +kernel
theorem dX4_isJoinedTo_26 : decode cX4_isJoinedTo 26 = .ok (.getfield 98, 3) := by decide +kernel
theorem dX4_isJoinedTo_29 : decode cX4_isJoinedTo 29 = .ok (.aload_n 1, 1) := by decide +kernel
theorem dX4_isJoinedTo_30 : decode cX4_isJoinedTo 30 = .ok (.getfield 33, 3) := by decide +kernel
theorem dX4_isJoinedTo_33 : decode cX4_isJoinedTo 33 = .ok (.getfield 98, 3) := by decide +kernel
theorem dX4_isJoinedTo_36 : decode cX4_isJoinedTo 36 = .ok (.if_icmp .eq 52, 3) := by decide +kernel
theorem dX4_isJoinedTo_39 : decode cX4_isJoinedTo 39 = .ok (.aload_n 0, 1) := by decide +kernel
theorem dX4_isJoinedTo_40 : decode cX4_isJoinedTo 40 = .ok (.getfield 33, 3) := by decide +kernel
theorem dX4_isJoinedTo_43 : decode cX4_isJoinedTo 43 = .ok (.getfield 73, 3) := by decide +kernel
theorem dX4_isJoinedTo_46 : decode cX4_isJoinedTo 46 = .ok (.getfield 99, 3) := by decide +kernel
theorem dX4_isJoinedTo_49 : decode cX4_isJoinedTo 49 = .ok (.aload_n 1, 1) := by decide +kernel
theorem dX4_isJoinedTo_50 : decode cX4_isJoinedTo 50 = .ok (.getfield 33, 3) := by decide +kernel
theorem dX4_isJoinedTo_53 : decode cX4_isJoinedTo 53 = .ok (.getfield 73, 3) := by decide +kernel
theorem dX4_isJoinedTo_56 : decode cX4_isJoinedTo 56 = .ok (.getfield 99, 3) := by decide +kernel
theorem dX4_isJoinedTo_59 : decode cX4_isJoinedTo 59 = .ok (.if_icmp .ne 29, 3) := by decide +kernel
theorem dX4_isJoinedTo_62 : decode cX4_isJoinedTo 62 = .ok (.aload_n 0, 1) := by decide +kernel
theorem dX4_isJoinedTo_63 : decode cX4_isJoinedTo 63 = .ok (.getfield 37, 3) := by decide +kernel
theorem dX4_isJoinedTo_66 : decode cX4_isJoinedTo 66 = .ok (.aload_n 1, 1) := by decide +kernel
theorem dX4_isJoinedTo_67 : decode cX4_isJoinedTo 67 = .ok (.getfield 37, 3) := by decide +kernel
theorem dX4_isJoinedTo_70 : decode cX4_isJoinedTo 70 = .ok (.if_icmp .ne 18, 3) := by decide +kernel
theorem dX4_isJoinedTo_73 : decode cX4_isJoinedTo 73 = .ok (.aload_n 0, 1) := by decide +kernel
theorem dX4_isJoinedTo_74 : decode cX4_isJoinedTo 74 = .ok (.getfield 15, 3) := by decide +kernel
theorem dX4_isJoinedTo_77 : decode cX4_isJoinedTo 77 = .ok (.aload_n 1, 1) := by decide +kernel
theorem dX4_isJoinedTo_78 : decode cX4_isJoinedTo 78 = .ok (.getfield 15, 3) := by decide +kernel
theorem dX4_isJoinedTo_81 : decode cX4_isJoinedTo 81 = .ok (.if_icmp .ne 7, 3) := by decide +kernel
theorem dX4_isJoinedTo_84 : decode cX4_isJoinedTo 84 = .ok (.iconst 1, 1) := by decide +kernel
theorem dX4_isJoinedTo_85 : decode cX4_isJoinedTo 85 = .ok (.goto 4, 3) := by decide +kernel
theorem dX4_isJoinedTo_88 : decode cX4_isJoinedTo 88 = .ok (.iconst 0, 1) := by decide +kernel
theorem dX4_isJoinedTo_89 : decode cX4_isJoinedTo 89 = .ok (.ireturn, 1) := by decide +kernel
theorem oX4_isJoinedTo_0 : OKI 22 0 (.aload_n 0, 1, [0], 0, 0, []) := And.intro dX4_isJoinedTo_0 (And.intro rfl (rfl))
theorem oX4_isJoinedTo_1 : OKI 22 1 (.invokevirtual 94, 4, [17, 1, 6, 0, 0, 1], 0, 0, []) := And.intro dX4_isJoinedTo_1 (And.intro rfl (And.intro (by decide) (And.intro (by decide) (And.intro mo_X4_kindNow (And.intro (tm_5 _ (List.mem_of_getElem? (i := 107) rfl) rfl) (And.intro (tm_2 _ (List.mem_of_getElem? (i := 224) rfl) rfl) (And.intro (tm_2 _ (List.mem_of_getElem? (i := 225) rfl) rfl) (Or.inl ⟨(RX4, TX4, 11), rfl, rfl⟩))))))))
theorem oX4_isJoinedTo_4 : OKI 22 4 (.iconst 3, 5, [], 3, 0, []) := And.intro dX4_isJoinedTo_4 (And.intro rfl (by decide +kernel))
theorem oX4_isJoinedTo_5 : OKI 22 5 (.invokestatic 55, 8, [117, 2, 0, 0, 0, 1], 0, 0, []) := And.intro dX4_isJoinedTo_5 (And.intro rfl (And.intro rfl (And.intro mo_X10_isUnder (And.intro (Or.inr (nm_A _ (List.mem_of_getElem? (i := 6) rfl))) (tm_3 _ (List.mem_of_getElem? (i := 148) rfl) rfl)))))
theorem oX4_isJoinedTo_8 : OKI 22 8 (.ifCond .eq 80, 11, [88], 0, 0, []) := And.intro dX4_isJoinedTo_8 (And.intro rfl (by decide))
theorem oX4_isJoinedTo_11 : OKI 22 11 (.aload_n 1, 12, [1], 0, 0, []) := And.intro dX4_isJoinedTo_11 (And.intro rfl (rfl))
theorem oX4_isJoinedTo_12 : OKI 22 12 (.invokevirtual 94, 15, [17, 1, 6, 0, 0, 1], 0, 0, []) := And.intro dX4_isJoinedTo_12 (And.intro rfl (And.intro (by decide) (And.intro (by decide) (And.intro mo_X4_kindNow (And.intro (tm_5 _ (List.mem_of_getElem? (i := 107) rfl) rfl) (And.intro (tm_2 _ (List.mem_of_getElem? (i := 224) rfl) rfl) (And.intro (tm_2 _ (List.mem_of_getElem? (i := 225) rfl) rfl) (Or.inl ⟨(RX4, TX4, 11), rfl, rfl⟩))))))))
theorem oX4_isJoinedTo_15 : OKI 22 15 (.iconst 3, 16, [], 3, 0, []) := And.intro dX4_isJoinedTo_15 (And.intro rfl (by decide +kernel))
theorem oX4_isJoinedTo_16 : OKI 22 16 (.invokestatic 55, 19, [117, 2, 0, 0, 0, 1], 0, 0, []) := And.intro dX4_isJoinedTo_16 (And.intro rfl (And.intro rfl (And.intro mo_X10_isUnder (And.intro (Or.inr (nm_A _ (List.mem_of_getElem? (i := 6) rfl))) (tm_3 _ (List.mem_of_getElem? (i := 148) rfl) rfl)))))
theorem oX4_isJoinedTo_19 : OKI 22 19 (.ifCond .eq 69, 22, [88], 0, 0, []) := And.intro dX4_isJoinedTo_19 (And.intro rfl (by decide))
theorem oX4_isJoinedTo_22 : OKI 22 22 (.aload_n 0, 23, [0], 0, 0, []) := And.intro dX4_isJoinedTo_22 (And.intro rfl (rfl))
theorem oX4_isJoinedTo_23 : OKI 22 23 (.getfield 33, 26, [5, 2, 2], 0, 0, []) := And.intro dX4_isJoinedTo_23 (And.intro rfl (⟨(RX4, TX4, 11), "SpotTimers$Reading", rfl, by decide, tm_3 _ (List.mem_of_getElem? (i := 54) rfl) rfl, Or.inl rfl, Or.inr (Or.inl (And.intro rfl rfl))⟩))
theorem oX4_isJoinedTo_26 : OKI 22 26 (.getfield 98, 29, [2, 0, 0], 0, 0, []) := And.intro dX4_isJoinedTo_26 (And.intro rfl (⟨(RX1, TX1, 6), "SpotTimers$Clock", rfl, by decide, tm_2 _ (List.mem_of_getElem? (i := 176) rfl) rfl, Or.inl rfl, Or.inr (Or.inr (And.intro rfl (Or.inl rfl)))⟩))
theorem oX4_isJoinedTo_29 : OKI 22 29 (.aload_n 1, 30, [1], 0, 0, []) := And.intro dX4_isJoinedTo_29 (And.intro rfl (rfl))
theorem oX4_isJoinedTo_30 : OKI 22 30 (.getfield 33, 33, [5, 2, 2], 0, 0, []) := And.intro dX4_isJoinedTo_30 (And.intro rfl (⟨(RX4, TX4, 11), "SpotTimers$Reading", rfl, by decide, tm_3 _ (List.mem_of_getElem? (i := 54) rfl) rfl, Or.inl rfl, Or.inr (Or.inl (And.intro rfl rfl))⟩))
theorem oX4_isJoinedTo_33 : OKI 22 33 (.getfield 98, 36, [2, 0, 0], 0, 0, []) := And.intro dX4_isJoinedTo_33 (And.intro rfl (⟨(RX1, TX1, 6), "SpotTimers$Clock", rfl, by decide, tm_2 _ (List.mem_of_getElem? (i := 176) rfl) rfl, Or.inl rfl, Or.inr (Or.inr (And.intro rfl (Or.inl rfl)))⟩))
theorem oX4_isJoinedTo_36 : OKI 22 36 (.if_icmp .eq 52, 39, [88], 0, 0, []) := And.intro dX4_isJoinedTo_36 (And.intro rfl (by decide))
theorem oX4_isJoinedTo_39 : OKI 22 39 (.aload_n 0, 40, [0], 0, 0, []) := And.intro dX4_isJoinedTo_39 (And.intro rfl (rfl))
theorem oX4_isJoinedTo_40 : OKI 22 40 (.getfield 33, 43, [5, 2, 2], 0, 0, []) := And.intro dX4_isJoinedTo_40 (And.intro rfl (⟨(RX4, TX4, 11), "SpotTimers$Reading", rfl, by decide, tm_3 _ (List.mem_of_getElem? (i := 54) rfl) rfl, Or.inl rfl, Or.inr (Or.inl (And.intro rfl rfl))⟩))
theorem oX4_isJoinedTo_43 : OKI 22 43 (.getfield 73, 46, [2, 1, 2], 0, 0, []) := And.intro dX4_isJoinedTo_43 (And.intro rfl (⟨(RX1, TX1, 6), "SpotTimers$Clock", rfl, by decide, tm_2 _ (List.mem_of_getElem? (i := 180) rfl) rfl, Or.inl rfl, Or.inr (Or.inl (And.intro rfl rfl))⟩))
theorem oX4_isJoinedTo_46 : OKI 22 46 (.getfield 99, 49, [8, 0, 0], 0, 0, []) := And.intro dX4_isJoinedTo_46 (And.intro rfl (⟨(RX7, TX7, 5), "SpotTimers$Station", rfl, by decide, tm_2 _ (List.mem_of_getElem? (i := 66) rfl) rfl, Or.inl rfl, Or.inr (Or.inr (And.intro rfl (Or.inl rfl)))⟩))
theorem oX4_isJoinedTo_49 : OKI 22 49 (.aload_n 1, 50, [1], 0, 0, []) := And.intro dX4_isJoinedTo_49 (And.intro rfl (rfl))
theorem oX4_isJoinedTo_50 : OKI 22 50 (.getfield 33, 53, [5, 2, 2], 0, 0, []) := And.intro dX4_isJoinedTo_50 (And.intro rfl (⟨(RX4, TX4, 11), "SpotTimers$Reading", rfl, by decide, tm_3 _ (List.mem_of_getElem? (i := 54) rfl) rfl, Or.inl rfl, Or.inr (Or.inl (And.intro rfl rfl))⟩))
theorem oX4_isJoinedTo_53 : OKI 22 53 (.getfield 73, 56, [2, 1, 2], 0, 0, []) := And.intro dX4_isJoinedTo_53 (And.intro rfl (⟨(RX1, TX1, 6), "SpotTimers$Clock", rfl, by decide, tm_2 _ (List.mem_of_getElem? (i := 180) rfl) rfl, Or.inl rfl, Or.inr (Or.inl (And.intro rfl rfl))⟩))
theorem oX4_isJoinedTo_56 : OKI 22 56 (.getfield 99, 59, [8, 0, 0], 0, 0, []) := And.intro dX4_isJoinedTo_56 (And.intro rfl (⟨(RX7, TX7, 5), "SpotTimers$Station", rfl, by decide, tm_2 _ (List.mem_of_getElem? (i := 66) rfl) rfl, Or.inl rfl, Or.inr (Or.inr (And.intro rfl (Or.inl rfl)))⟩))
theorem oX4_isJoinedTo_59 : OKI 22 59 (.if_icmp .ne 29, 62, [88], 0, 0, []) := And.intro dX4_isJoinedTo_59 (And.intro rfl (by decide))
theorem oX4_isJoinedTo_62 : OKI 22 62 (.aload_n 0, 63, [0], 0, 0, []) := And.intro dX4_isJoinedTo_62 (And.intro rfl (rfl))
theorem oX4_isJoinedTo_63 : OKI 22 63 (.getfield 37, 66, [5, 3, 0], 0, 0, []) := And.intro dX4_isJoinedTo_63 (And.intro rfl (⟨(RX4, TX4, 11), "SpotTimers$Reading", rfl, by decide, tm_3 _ (List.mem_of_getElem? (i := 58) rfl) rfl, Or.inl rfl, Or.inr (Or.inr (And.intro rfl (Or.inl rfl)))⟩))
theorem oX4_isJoinedTo_66 : OKI 22 66 (.aload_n 1, 67, [1], 0, 0, []) := And.intro dX4_isJoinedTo_66 (And.intro rfl (rfl))
theorem oX4_isJoinedTo_67 : OKI 22 67 (.getfield 37, 70, [5, 3, 0], 0, 0, []) := And.intro dX4_isJoinedTo_67 (And.intro rfl (⟨(RX4, TX4, 11), "SpotTimers$Reading", rfl, by decide, tm_3 _ (List.mem_of_getElem? (i := 58) rfl) rfl, Or.inl rfl, Or.inr (Or.inr (And.intro rfl (Or.inl rfl)))⟩))
theorem oX4_isJoinedTo_70 : OKI 22 70 (.if_icmp .ne 18, 73, [88], 0, 0, []) := And.intro dX4_isJoinedTo_70 (And.intro rfl (by decide))
theorem oX4_isJoinedTo_73 : OKI 22 73 (.aload_n 0, 74, [0], 0, 0, []) := And.intro dX4_isJoinedTo_73 (And.intro rfl (rfl))
theorem oX4_isJoinedTo_74 : OKI 22 74 (.getfield 15, 77, [5, 7, 0], 0, 0, []) := And.intro dX4_isJoinedTo_74 (And.intro rfl (⟨(RX4, TX4, 11), "SpotTimers$Reading", rfl, by decide, tm_3 _ (List.mem_of_getElem? (i := 68) rfl) rfl, Or.inl rfl, Or.inr (Or.inr (And.intro rfl (Or.inl rfl)))⟩))
theorem oX4_isJoinedTo_77 : OKI 22 77 (.aload_n 1, 78, [1], 0, 0, []) := And.intro dX4_isJoinedTo_77 (And.intro rfl (rfl))
theorem oX4_isJoinedTo_78 : OKI 22 78 (.getfield 15, 81, [5, 7, 0], 0, 0, []) := And.intro dX4_isJoinedTo_78 (And.intro rfl (⟨(RX4, TX4, 11), "SpotTimers$Reading", rfl, by decide, tm_3 _ (List.mem_of_getElem? (i := 68) rfl) rfl, Or.inl rfl, Or.inr (Or.inr (And.intro rfl (Or.inl rfl)))⟩))
theorem oX4_isJoinedTo_81 : OKI 22 81 (.if_icmp .ne 7, 84, [88], 0, 0, []) := And.intro dX4_isJoinedTo_81 (And.intro rfl (by decide))
theorem oX4_isJoinedTo_84 : OKI 22 84 (.iconst 1, 85, [], 1, 0, []) := And.intro dX4_isJoinedTo_84 (And.intro rfl (by decide +kernel))
theorem oX4_isJoinedTo_85 : OKI 22 85 (.goto 4, 88, [89], 0, 0, []) := And.intro dX4_isJoinedTo_85 (And.intro rfl (by decide))
theorem oX4_isJoinedTo_88 : OKI 22 88 (.iconst 0, 89, [], 0, 0, []) := And.intro dX4_isJoinedTo_88 (And.intro rfl (by decide +kernel))
theorem oX4_isJoinedTo_89 : OKI 22 89 (.ireturn, 90, [3], 0, 0, []) := And.intro dX4_isJoinedTo_89 (Or.inr (Or.inl (And.intro rfl rfl)))
def pfX4_isJoinedTo (pc : Nat) : Option XE := (bif Nat.blt pc 46 then (bif Nat.blt pc 22 then (bif Nat.blt pc 11 then (bif Nat.blt pc 4 then (bif Nat.blt pc 1 then (bif Nat.beq pc 0 then some (.aload_n 0, 1, [0], 0, 0, []) else none) else (bif Nat.beq pc 1 then some (.invokevirtual 94, 4, [17, 1, 6, 0, 0, 1], 0, 0, []) else none)) else (bif Nat.blt pc 5 then (bif Nat.beq pc 4 then some (.iconst 3, 5, [], 3, 0, []) else none) else (bif Nat.blt pc 8 then (bif Nat.beq pc 5 then some (.invokestatic 55, 8, [117, 2, 0, 0, 0, 1], 0, 0, []) else none) else (bif Nat.beq pc 8 then some (.ifCond .eq 80, 11, [88], 0, 0, []) else none)))) else (bif Nat.blt pc 15 then (bif Nat.blt pc 12 then (bif Nat.beq pc 11 then some (.aload_n 1, 12, [1], 0, 0, []) else none) else (bif Nat.beq pc 12 then some (.invokevirtual 94, 15, [17, 1, 6, 0, 0, 1], 0, 0, []) else none)) else (bif Nat.blt pc 16 then (bif Nat.beq pc 15 then some (.iconst 3, 16, [], 3, 0, []) else none) else (bif Nat.blt pc 19 then (bif Nat.beq pc 16 then some (.invokestatic 55, 19, [117, 2, 0, 0, 0, 1], 0, 0, []) else none) else (bif Nat.beq pc 19 then some (.ifCond .eq 69, 22, [88], 0, 0, []) else none))))) else (bif Nat.blt pc 33 then (bif Nat.blt pc 26 then (bif Nat.blt pc 23 then (bif Nat.beq pc 22 then some (.aload_n 0, 23, [0], 0, 0, []) else none) else (bif Nat.beq pc 23 then some (.getfield 33, 26, [5, 2, 2], 0, 0, []) else none)) else (bif Nat.blt pc 29 then (bif Nat.beq pc 26 then some (.getfield 98, 29, [2, 0, 0], 0, 0, []) else none) else (bif Nat.blt pc 30 then (bif Nat.beq pc 29 then some (.aload_n 1, 30, [1], 0, 0, []) else none) else (bif Nat.beq pc 30 then some (.getfield 33, 33, [5, 2, 2], 0, 0, []) else none)))) else (bif Nat.blt pc 39 then (bif Nat.blt pc 36 then (bif Nat.beq pc 33 then some (.getfield 98, 36, [2, 0, 0], 0, 0, []) else none) else (bif Nat.beq pc 36 then some (.if_icmp .eq 52, 39, [88], 0, 0, []) else none)) else (bif Nat.blt pc 40 then (bif Nat.beq pc 39 then some (.aload_n 0, 40, [0], 0, 0, []) else none) else (bif Nat.blt pc 43 then (bif Nat.beq pc 40 then some (.getfield 33, 43, [5, 2, 2], 0, 0, []) else none) else (bif Nat.beq pc 43 then some (.getfield 73, 46, [2, 1, 2], 0, 0, []) else none)))))) else (bif Nat.blt pc 70 then (bif Nat.blt pc 59 then (bif Nat.blt pc 50 then (bif Nat.blt pc 49 then (bif Nat.beq pc 46 then some (.getfield 99, 49, [8, 0, 0], 0, 0, []) else none) else (bif Nat.beq pc 49 then some (.aload_n 1, 50, [1], 0, 0, []) else none)) else (bif Nat.blt pc 53 then (bif Nat.beq pc 50 then some (.getfield 33, 53, [5, 2, 2], 0, 0, []) else none) else (bif Nat.blt pc 56 then (bif Nat.beq pc 53 then some (.getfield 73, 56, [2, 1, 2], 0, 0, []) else none) else (bif Nat.beq pc 56 then some (.getfield 99, 59, [8, 0, 0], 0, 0, []) else none)))) else (bif Nat.blt pc 63 then (bif Nat.blt pc 62 then (bif Nat.beq pc 59 then some (.if_icmp .ne 29, 62, [88], 0, 0, []) else none) else (bif Nat.beq pc 62 then some (.aload_n 0, 63, [0], 0, 0, []) else none)) else (bif Nat.blt pc 66 then (bif Nat.beq pc 63 then some (.getfield 37, 66, [5, 3, 0], 0, 0, []) else none) else (bif Nat.blt pc 67 then (bif Nat.beq pc 66 then some (.aload_n 1, 67, [1], 0, 0, []) else none) else (bif Nat.beq pc 67 then some (.getfield 37, 70, [5, 3, 0], 0, 0, []) else none))))) else (bif Nat.blt pc 81 then (bif Nat.blt pc 74 then (bif Nat.blt pc 73 then (bif Nat.beq pc 70 then some (.if_icmp .ne 18, 73, [88], 0, 0, []) else none) else (bif Nat.beq pc 73 then some (.aload_n 0, 74, [0], 0, 0, []) else none)) else (bif Nat.blt pc 77 then (bif Nat.beq pc 74 then some (.getfield 15, 77, [5, 7, 0], 0, 0, []) else none) else (bif Nat.blt pc 78 then (bif Nat.beq pc 77 then some (.aload_n 1, 78, [1], 0, 0, []) else none) else (bif Nat.beq pc 78 then some (.getfield 15, 81, [5, 7, 0], 0, 0, []) else none)))) else (bif Nat.blt pc 85 then (bif Nat.blt pc 84 then (bif Nat.beq pc 81 then some (.if_icmp .ne 7, 84, [88], 0, 0, []) else none) else (bif Nat.beq pc 84 then some (.iconst 1, 85, [], 1, 0, []) else none)) else (bif Nat.blt pc 88 then (bif Nat.beq pc 85 then some (.goto 4, 88, [89], 0, 0, []) else none) else (bif Nat.blt pc 89 then (bif Nat.beq pc 88 then some (.iconst 0, 89, [], 0, 0, []) else none) else (bif Nat.beq pc 89 then some (.ireturn, 90, [3], 0, 0, []) else none)))))))
theorem okX4_isJoinedTo : ∀ pc Y, pfX4_isJoinedTo pc = some Y → OKI m_X4_isJoinedTo pc Y := fun pc Y => ((bt_node (bt_node (bt_node (bt_node (bt_node (bt_leaf (P := OKI m_X4_isJoinedTo) oX4_isJoinedTo_0) (bt_leaf (P := OKI m_X4_isJoinedTo) oX4_isJoinedTo_1)) (bt_node (bt_leaf (P := OKI m_X4_isJoinedTo) oX4_isJoinedTo_4) (bt_node (bt_leaf (P := OKI m_X4_isJoinedTo) oX4_isJoinedTo_5) (bt_leaf (P := OKI m_X4_isJoinedTo) oX4_isJoinedTo_8)))) (bt_node (bt_node (bt_leaf (P := OKI m_X4_isJoinedTo) oX4_isJoinedTo_11) (bt_leaf (P := OKI m_X4_isJoinedTo) oX4_isJoinedTo_12)) (bt_node (bt_leaf (P := OKI m_X4_isJoinedTo) oX4_isJoinedTo_15) (bt_node (bt_leaf (P := OKI m_X4_isJoinedTo) oX4_isJoinedTo_16) (bt_leaf (P := OKI m_X4_isJoinedTo) oX4_isJoinedTo_19))))) (bt_node (bt_node (bt_node (bt_leaf (P := OKI m_X4_isJoinedTo) oX4_isJoinedTo_22) (bt_leaf (P := OKI m_X4_isJoinedTo) oX4_isJoinedTo_23)) (bt_node (bt_leaf (P := OKI m_X4_isJoinedTo) oX4_isJoinedTo_26) (bt_node (bt_leaf (P := OKI m_X4_isJoinedTo) oX4_isJoinedTo_29) (bt_leaf (P := OKI m_X4_isJoinedTo) oX4_isJoinedTo_30)))) (bt_node (bt_node (bt_leaf (P := OKI m_X4_isJoinedTo) oX4_isJoinedTo_33) (bt_leaf (P := OKI m_X4_isJoinedTo) oX4_isJoinedTo_36)) (bt_node (bt_leaf (P := OKI m_X4_isJoinedTo) oX4_isJoinedTo_39) (bt_node (bt_leaf (P := OKI m_X4_isJoinedTo) oX4_isJoinedTo_40) (bt_leaf (P := OKI m_X4_isJoinedTo) oX4_isJoinedTo_43)))))) (bt_node (bt_node (bt_node (bt_node (bt_leaf (P := OKI m_X4_isJoinedTo) oX4_isJoinedTo_46) (bt_leaf (P := OKI m_X4_isJoinedTo) oX4_isJoinedTo_49)) (bt_node (bt_leaf (P := OKI m_X4_isJoinedTo) oX4_isJoinedTo_50) (bt_node (bt_leaf (P := OKI m_X4_isJoinedTo) oX4_isJoinedTo_53) (bt_leaf (P := OKI m_X4_isJoinedTo) oX4_isJoinedTo_56)))) (bt_node (bt_node (bt_leaf (P := OKI m_X4_isJoinedTo) oX4_isJoinedTo_59) (bt_leaf (P := OKI m_X4_isJoinedTo) oX4_isJoinedTo_62)) (bt_node (bt_leaf (P := OKI m_X4_isJoinedTo) oX4_isJoinedTo_63) (bt_node (bt_leaf (P := OKI m_X4_isJoinedTo) oX4_isJoinedTo_66) (bt_leaf (P := OKI m_X4_isJoinedTo) oX4_isJoinedTo_67))))) (bt_node (bt_node (bt_node (bt_leaf (P := OKI m_X4_isJoinedTo) oX4_isJoinedTo_70) (bt_leaf (P := OKI m_X4_isJoinedTo) oX4_isJoinedTo_73)) (bt_node (bt_leaf (P := OKI m_X4_isJoinedTo) oX4_isJoinedTo_74) (bt_node (bt_leaf (P := OKI m_X4_isJoinedTo) oX4_isJoinedTo_77) (bt_leaf (P := OKI m_X4_isJoinedTo) oX4_isJoinedTo_78)))) (bt_node (bt_node (bt_leaf (P := OKI m_X4_isJoinedTo) oX4_isJoinedTo_81) (bt_leaf (P := OKI m_X4_isJoinedTo) oX4_isJoinedTo_84)) (bt_node (bt_leaf (P := OKI m_X4_isJoinedTo) oX4_isJoinedTo_85) (bt_node (bt_leaf (P := OKI m_X4_isJoinedTo) oX4_isJoinedTo_88) (bt_leaf (P := OKI m_X4_isJoinedTo) oX4_isJoinedTo_89))))))) : pfX4_isJoinedTo pc = some Y → OKI m_X4_isJoinedTo pc Y)
def stpX4_isJoinedTo (pc : Nat) : Option (List Bool) := (bif Nat.blt pc 88 then (bif Nat.beq pc 22 then some [true, true] else none) else (bif Nat.blt pc 89 then (bif Nat.beq pc 88 then some [false, false] else none) else (bif Nat.beq pc 89 then some [false, false] else none)))
def bX4_isJoinedTo_0 (d rc rs : Nat) (t : Nat) (a1 : Option XO) (σ : XH) (Q : XV → XH → Prop) : Prop :=
  ((1 ≤ d ∧ Ec (d - 1) 0 0 m_X4_kindNow [vR (some (5, t))] σ (kI fun x2 h1 => (1 ≤ d ∧ Ec (d - 1) 0 0 m_X10_isUnder [vI x2, vI 3] h1 (kI fun x4 h3 => ((x4 = 0 → Ex d rc rs m_X4_isJoinedTo 88 [vU, vU] [] h3 Q) ∧ (¬ x4 = 0 → (drf a1 5 fun i9 => (1 ≤ d ∧ Ec (d - 1) 0 0 m_X4_kindNow [vR (some (5, i9))] h3 (kI fun x6 h5 => (1 ≤ d ∧ Ec (d - 1) 0 0 m_X10_isUnder [vI x6, vI 3] h5 (kI fun x8 h7 => ((x8 = 0 → Ex d rc rs m_X4_isJoinedTo 88 [vU, vU] [] h7 Q) ∧ (¬ x8 = 0 → Ex d rc rs m_X4_isJoinedTo 22 [vR (some (5, t)), vR a1] [] h7 Q))))))))))))))
theorem sX4_isJoinedTo_0 {d rc rs : Nat} {t : Nat} {a1 : Option XO} {σ : XH} {Q : XV → XH → Prop} (h : bX4_isJoinedTo_0 d rc rs t a1 σ Q) : Ex d rc rs m_X4_isJoinedTo 0 [vR (some (5, t)), vR a1] [] σ Q :=
  xtree_sound (stop := stpX4_isJoinedTo) okX4_isJoinedTo 12 _ _ _ _ _ _ h
def bX4_isJoinedTo_22 (d rc rs : Nat) (t : Nat) (l1 : Option XO) (σ : XH) (Q : XV → XH → Prop) : Prop :=
  ((drf (hr σ 5 t 2) 2 fun i1 => (drf l1 5 fun i2 => (drf (hr σ 5 i2 2) 2 fun i3 => (((hi σ 2 i1 0) = (hi σ 2 i3 0) → Ex d rc rs m_X4_isJoinedTo 88 [vU, vU] [] σ Q) ∧ (¬ (hi σ 2 i1 0) = (hi σ 2 i3 0) → ((drf (hr σ 5 t 2) 2 fun i4 => (drf (hr σ 2 i4 1) 8 fun i5 => (drf l1 5 fun i6 => (drf (hr σ 5 i6 2) 2 fun i7 => (drf (hr σ 2 i7 1) 8 fun i8 => (((hi σ 8 i5 0) = (hi σ 8 i8 0) → ((drf l1 5 fun i9 => (((hi σ 5 t 3) = (hi σ 5 i9 3) → ((drf l1 5 fun i10 => (((hi σ 5 t 7) = (hi σ 5 i10 7) → Ex d rc rs m_X4_isJoinedTo 89 [vU, vU] [vI 1] σ Q) ∧ (¬ (hi σ 5 t 7) = (hi σ 5 i10 7) → Ex d rc rs m_X4_isJoinedTo 88 [vU, vU] [] σ Q))))) ∧ (¬ (hi σ 5 t 3) = (hi σ 5 i9 3) → Ex d rc rs m_X4_isJoinedTo 88 [vU, vU] [] σ Q))))) ∧ (¬ (hi σ 8 i5 0) = (hi σ 8 i8 0) → Ex d rc rs m_X4_isJoinedTo 88 [vU, vU] [] σ Q))))))))))))))
theorem sX4_isJoinedTo_22 {d rc rs : Nat} {t : Nat} {l1 : Option XO} {σ : XH} {Q : XV → XH → Prop} (h : bX4_isJoinedTo_22 d rc rs t l1 σ Q) : Ex d rc rs m_X4_isJoinedTo 22 [vR (some (5, t)), vR l1] [] σ Q :=
  xtree_sound (stop := stpX4_isJoinedTo) okX4_isJoinedTo 30 _ _ _ _ _ _ h
def bX4_isJoinedTo_88 (d rc rs : Nat)  (σ : XH) (Q : XV → XH → Prop) : Prop :=
  Ex d rc rs m_X4_isJoinedTo 89 [vU, vU] [vI 0] σ Q
theorem sX4_isJoinedTo_88 {d rc rs : Nat}  {σ : XH} {Q : XV → XH → Prop} (h : bX4_isJoinedTo_88 d rc rs  σ Q) : Ex d rc rs m_X4_isJoinedTo 88 [vU, vU] [] σ Q :=
  xtree_sound (stop := stpX4_isJoinedTo) okX4_isJoinedTo 3 _ _ _ _ _ _ h
def bX4_isJoinedTo_89 (d rc rs : Nat) (q0 : Int32) (σ : XH) (Q : XV → XH → Prop) : Prop :=
  ((q0 = 0 ∨ q0 = 1) ∧ Q (vI q0) σ)
theorem sX4_isJoinedTo_89 {d rc rs : Nat} {q0 : Int32} {σ : XH} {Q : XV → XH → Prop} (h : bX4_isJoinedTo_89 d rc rs q0 σ Q) : Ex d rc rs m_X4_isJoinedTo 89 [vU, vU] [vI q0] σ Q :=
  xtree_sound (stop := stpX4_isJoinedTo) okX4_isJoinedTo 3 _ _ _ _ _ _ h
/-! SpotTimers$Rule.<init>(IIII)V -/
theorem dX5_init_0 : decode cX5_init 0 = .ok (.aload_n 0, 1) := by decide +kernel
theorem dX5_init_1 : decode cX5_init 1 = .ok (.invokespecial 3, 3) := by decide +kernel
theorem dX5_init_4 : decode cX5_init 4 = .ok (.aload_n 0, 1) := by decide +kernel
theorem dX5_init_5 : decode cX5_init 5 = .ok (.bipush 6, 2) := by decide +kernel
theorem dX5_init_7 : decode cX5_init 7 = .ok (.newarray .int, 2) := by decide +kernel
theorem dX5_init_9 : decode cX5_init 9 = .ok (.dup, 1) := by decide +kernel
theorem dX5_init_10 : decode cX5_init 10 = .ok (.iconst 0, 1) := by decide +kernel
theorem dX5_init_11 : decode cX5_init 11 = .ok (.iconst 1, 1) := by decide +kernel
theorem dX5_init_12 : decode cX5_init 12 = .ok (.iastore, 1) := by decide +kernel
theorem dX5_init_13 : decode cX5_init 13 = .ok (.dup, 1) := by decide +kernel
theorem dX5_init_14 : decode cX5_init 14 = .ok (.iconst 1, 1) := by decide +kernel
theorem dX5_init_15 : decode cX5_init 15 = .ok (.iconst 1, 1) := by decide +kernel
theorem dX5_init_16 : decode cX5_init 16 = .ok (.iastore, 1) := by decide +kernel
theorem dX5_init_17 : decode cX5_init 17 = .ok (.dup, 1) := by decide +kernel
theorem dX5_init_18 : decode cX5_init 18 = .ok (.iconst 2, 1) := by decide +kernel
theorem dX5_init_19 : decode cX5_init 19 = .ok (.iconst 1, 1) := by decide +kernel
theorem dX5_init_20 : decode cX5_init 20 = .ok (.iastore, 1) := by decide +kernel
theorem dX5_init_21 : decode cX5_init 21 = .ok (.dup, 1) := by decide +kernel
theorem dX5_init_22 : decode cX5_init 22 = .ok (.iconst 3, 1) := by decide +kernel
theorem dX5_init_23 : decode cX5_init 23 = .ok (.iconst 1, 1) := by decide +kernel
theorem dX5_init_24 : decode cX5_init 24 = .ok (.iastore, 1) := by decide +kernel
theorem dX5_init_25 : decode cX5_init 25 = .ok (.dup, 1) := by decide +kernel
theorem dX5_init_26 : decode cX5_init 26 = .ok (.iconst 4, 1) := by decide +kernel
theorem dX5_init_27 : decode cX5_init 27 = .ok (.iconst 1, 1) := by decide +kernel
theorem dX5_init_28 : decode cX5_init 28 = .ok (.iastore, 1) := by decide +kernel
theorem dX5_init_29 : decode cX5_init 29 = .ok (.dup, 1) := by decide +kernel
theorem dX5_init_30 : decode cX5_init 30 = .ok (.iconst 5, 1) := by decide +kernel
theorem dX5_init_31 : decode cX5_init 31 = .ok (.iconst 1, 1) := by decide +kernel
theorem dX5_init_32 : decode cX5_init 32 = .ok (.iastore, 1) := by decide +kernel
theorem dX5_init_33 : decode cX5_init 33 = .ok (.putfield 9, 3) := by decide +kernel
theorem dX5_init_36 : decode cX5_init 36 = .ok (.aload_n 0, 1) := by decide +kernel
theorem dX5_init_37 : decode cX5_init 37 = .ok (.iconst 0, 1) := by decide +kernel
theorem dX5_init_38 : decode cX5_init 38 = .ok (.putfield 15, 3) := by decide +kernel
theorem dX5_init_41 : decode cX5_init 41 = .ok (.aload_n 0, 1) := by decide +kernel
theorem dX5_init_42 : decode cX5_init 42 = .ok (.bipush 30, 2) := by decide +kernel
theorem dX5_init_44 : decode cX5_init 44 = .ok (.putfield 19, 3) := by decide +kernel
theorem dX5_init_47 : decode cX5_init 47 = .ok (.aload_n 0, 1) := by decide +kernel
theorem dX5_init_48 : decode cX5_init 48 = .ok (.iconst 1, 1) := by decide +kernel
theorem dX5_init_49 : decode cX5_init 49 = .ok (.putfield 22, 3) := by decide +kernel
theorem dX5_init_52 : decode cX5_init 52 = .ok (.aload_n 0, 1) := by decide +kernel
theorem dX5_init_53 : decode cX5_init 53 = .ok (.sipush 9999, 3) := by decide +kernel
theorem dX5_init_56 : decode cX5_init 56 = .ok (.putfield 25, 3) := by decide +kernel
theorem dX5_init_59 : decode cX5_init 59 = .ok (.aload_n 0, 1) := by decide +kernel
theorem dX5_init_60 : decode cX5_init 60 = .ok (.iconst 0, 1) := by decide +kernel
theorem dX5_init_61 : decode cX5_init 61 = .ok (.putfield 28, 3) := by decide +kernel
theorem dX5_init_64 : decode cX5_init 64 = .ok (.aload_n 0, 1) := by decide +kernel
theorem dX5_init_65 : decode cX5_init 65 = .ok (.iconst 0, 1) := by decide +kernel
theorem dX5_init_66 : decode cX5_init 66 = .ok (.putfield 31, 3) := by decide +kernel
theorem dX5_init_69 : decode cX5_init 69 = .ok (.aload_n 0, 1) := by decide +kernel
theorem dX5_init_70 : decode cX5_init 70 = .ok (.iconst 0, 1) := by decide +kernel
theorem dX5_init_71 : decode cX5_init 71 = .ok (.putfield 35, 3) := by decide +kernel
theorem dX5_init_74 : decode cX5_init 74 = .ok (.aload_n 0, 1) := by decide +kernel
theorem dX5_init_75 : decode cX5_init 75 = .ok (.iload_n 1, 1) := by decide +kernel
theorem dX5_init_76 : decode cX5_init 76 = .ok (.putfield 38, 3) := by decide +kernel
theorem dX5_init_79 : decode cX5_init 79 = .ok (.aload_n 0, 1) := by decide +kernel
theorem dX5_init_80 : decode cX5_init 80 = .ok (.iload_n 2, 1) := by decide +kernel
theorem dX5_init_81 : decode cX5_init 81 = .ok (.putfield 41, 3) := by decide +kernel
theorem dX5_init_84 : decode cX5_init 84 = .ok (.aload_n 0, 1) := by decide +kernel
theorem dX5_init_85 : decode cX5_init 85 = .ok (.iload_n 3, 1) := by decide +kernel
theorem dX5_init_86 : decode cX5_init 86 = .ok (.putfield 44, 3) := by decide +kernel
theorem dX5_init_89 : decode cX5_init 89 = .ok (.iconst 0, 1) := by decide +kernel
theorem dX5_init_90 : decode cX5_init 90 = .ok (.iload 4, 2) := by decide +kernel
theorem dX5_init_92 : decode cX5_init 92 = .ok (.invokestatic 47, 3) := by decide +kernel
theorem dX5_init_95 : decode cX5_init 95 = .ok (.istore 5, 2) := by decide +kernel
theorem dX5_init_97 : decode cX5_init 97 = .ok (.aload_n 0, 1) := by decide +kernel
theorem dX5_init_98 : decode cX5_init 98 = .ok (.iload 5, 2) := by decide +kernel
theorem dX5_init_100 : decode cX5_init 100 = .ok (.newarray .int, 2) := by decide +kernel
theorem dX5_init_102 : decode cX5_init 102 = .ok (.putfield 53, 3) := by decide +kernel
theorem dX5_init_105 : decode cX5_init 105 = .ok (.aload_n 0, 1) := by decide +kernel
theorem dX5_init_106 : decode cX5_init 106 = .ok (.iload 5, 2) := by decide +kernel
theorem dX5_init_108 : decode cX5_init 108 = .ok (.newarray .int, 2) := by decide +kernel
theorem dX5_init_110 : decode cX5_init 110 = .ok (.putfield 56, 3) := by decide +kernel
theorem dX5_init_113 : decode cX5_init 113 = .ok (.return_, 1) := by decide +kernel
theorem oX5_init_0 : OKI 23 0 (.aload_n 0, 1, [0], 0, 0, []) := And.intro dX5_init_0 (And.intro rfl (rfl))
theorem oX5_init_1 : OKI 23 1 (.invokespecial 3, 4, [9004], 0, 0, []) := And.intro dX5_init_1 (And.intro rfl (And.intro rfl (And.intro (tm_1 _ (List.mem_of_getElem? (i := 87) rfl) rfl) (And.intro (tm_1 _ (List.mem_of_getElem? (i := 32) rfl) rfl) (tm_1 _ (List.mem_of_getElem? (i := 33) rfl) rfl)))))
theorem oX5_init_4 : OKI 23 4 (.aload_n 0, 5, [0], 0, 0, []) := And.intro dX5_init_4 (And.intro rfl (rfl))
theorem oX5_init_5 : OKI 23 5 (.bipush 6, 7, [], 6, 0, []) := And.intro dX5_init_5 (And.intro rfl (by decide +kernel))
theorem oX5_init_7 : OKI 23 7 (.newarray .int, 9, [103], 0, 0, []) := And.intro dX5_init_7 (And.intro rfl (And.intro (And.intro (by decide) (by decide)) (tm_1 _ (List.mem_of_getElem? (i := 80) rfl) rfl)))
theorem oX5_init_9 : OKI 23 9 (.dup, 10, [], 0, 0, []) := And.intro dX5_init_9 rfl
theorem oX5_init_10 : OKI 23 10 (.iconst 0, 11, [], 0, 0, []) := And.intro dX5_init_10 (And.intro rfl (by decide +kernel))
theorem oX5_init_11 : OKI 23 11 (.iconst 1, 12, [], 1, 0, []) := And.intro dX5_init_11 (And.intro rfl (by decide +kernel))
theorem oX5_init_12 : OKI 23 12 (.iastore, 13, [], 0, 0, []) := And.intro dX5_init_12 rfl
theorem oX5_init_13 : OKI 23 13 (.dup, 14, [], 0, 0, []) := And.intro dX5_init_13 rfl
theorem oX5_init_14 : OKI 23 14 (.iconst 1, 15, [], 1, 0, []) := And.intro dX5_init_14 (And.intro rfl (by decide +kernel))
theorem oX5_init_15 : OKI 23 15 (.iconst 1, 16, [], 1, 0, []) := And.intro dX5_init_15 (And.intro rfl (by decide +kernel))
theorem oX5_init_16 : OKI 23 16 (.iastore, 17, [], 0, 0, []) := And.intro dX5_init_16 rfl
theorem oX5_init_17 : OKI 23 17 (.dup, 18, [], 0, 0, []) := And.intro dX5_init_17 rfl
theorem oX5_init_18 : OKI 23 18 (.iconst 2, 19, [], 2, 0, []) := And.intro dX5_init_18 (And.intro rfl (by decide +kernel))
theorem oX5_init_19 : OKI 23 19 (.iconst 1, 20, [], 1, 0, []) := And.intro dX5_init_19 (And.intro rfl (by decide +kernel))
theorem oX5_init_20 : OKI 23 20 (.iastore, 21, [], 0, 0, []) := And.intro dX5_init_20 rfl
theorem oX5_init_21 : OKI 23 21 (.dup, 22, [], 0, 0, []) := And.intro dX5_init_21 rfl
theorem oX5_init_22 : OKI 23 22 (.iconst 3, 23, [], 3, 0, []) := And.intro dX5_init_22 (And.intro rfl (by decide +kernel))
theorem oX5_init_23 : OKI 23 23 (.iconst 1, 24, [], 1, 0, []) := And.intro dX5_init_23 (And.intro rfl (by decide +kernel))
theorem oX5_init_24 : OKI 23 24 (.iastore, 25, [], 0, 0, []) := And.intro dX5_init_24 rfl
theorem oX5_init_25 : OKI 23 25 (.dup, 26, [], 0, 0, []) := And.intro dX5_init_25 rfl
theorem oX5_init_26 : OKI 23 26 (.iconst 4, 27, [], 4, 0, []) := And.intro dX5_init_26 (And.intro rfl (by decide +kernel))
theorem oX5_init_27 : OKI 23 27 (.iconst 1, 28, [], 1, 0, []) := And.intro dX5_init_27 (And.intro rfl (by decide +kernel))
theorem oX5_init_28 : OKI 23 28 (.iastore, 29, [], 0, 0, []) := And.intro dX5_init_28 rfl
theorem oX5_init_29 : OKI 23 29 (.dup, 30, [], 0, 0, []) := And.intro dX5_init_29 rfl
theorem oX5_init_30 : OKI 23 30 (.iconst 5, 31, [], 5, 0, []) := And.intro dX5_init_30 (And.intro rfl (by decide +kernel))
theorem oX5_init_31 : OKI 23 31 (.iconst 1, 32, [], 1, 0, []) := And.intro dX5_init_31 (And.intro rfl (by decide +kernel))
theorem oX5_init_32 : OKI 23 32 (.iastore, 33, [], 0, 0, []) := And.intro dX5_init_32 rfl
theorem oX5_init_33 : OKI 23 33 (.putfield 9, 36, [6, 3, 2], 0, 0, []) := And.intro dX5_init_33 (And.intro rfl (⟨(RX5, TX5, 13), "SpotTimers$Rule", rfl, by decide, tm_1 _ (List.mem_of_getElem? (i := 97) rfl) rfl, Or.inl rfl, Or.inr (And.intro rfl (And.intro rfl rfl)), rfl⟩))
theorem oX5_init_36 : OKI 23 36 (.aload_n 0, 37, [0], 0, 0, []) := And.intro dX5_init_36 (And.intro rfl (rfl))
theorem oX5_init_37 : OKI 23 37 (.iconst 0, 38, [], 0, 0, []) := And.intro dX5_init_37 (And.intro rfl (by decide +kernel))
theorem oX5_init_38 : OKI 23 38 (.putfield 15, 41, [6, 6, 0], 0, 0, []) := And.intro dX5_init_38 (And.intro rfl (⟨(RX5, TX5, 13), "SpotTimers$Rule", rfl, by decide, tm_1 _ (List.mem_of_getElem? (i := 101) rfl) rfl, Or.inl rfl, Or.inl rfl, rfl⟩))
theorem oX5_init_41 : OKI 23 41 (.aload_n 0, 42, [0], 0, 0, []) := And.intro dX5_init_41 (And.intro rfl (rfl))
theorem oX5_init_42 : OKI 23 42 (.bipush 30, 44, [], 30, 0, []) := And.intro dX5_init_42 (And.intro rfl (by decide +kernel))
theorem oX5_init_44 : OKI 23 44 (.putfield 19, 47, [6, 7, 0], 0, 0, []) := And.intro dX5_init_44 (And.intro rfl (⟨(RX5, TX5, 13), "SpotTimers$Rule", rfl, by decide, tm_1 _ (List.mem_of_getElem? (i := 102) rfl) rfl, Or.inl rfl, Or.inl rfl, rfl⟩))
theorem oX5_init_47 : OKI 23 47 (.aload_n 0, 48, [0], 0, 0, []) := And.intro dX5_init_47 (And.intro rfl (rfl))
theorem oX5_init_48 : OKI 23 48 (.iconst 1, 49, [], 1, 0, []) := And.intro dX5_init_48 (And.intro rfl (by decide +kernel))
theorem oX5_init_49 : OKI 23 49 (.putfield 22, 52, [6, 8, 0], 0, 0, []) := And.intro dX5_init_49 (And.intro rfl (⟨(RX5, TX5, 13), "SpotTimers$Rule", rfl, by decide, tm_1 _ (List.mem_of_getElem? (i := 105) rfl) rfl, Or.inl rfl, Or.inl rfl, rfl⟩))
theorem oX5_init_52 : OKI 23 52 (.aload_n 0, 53, [0], 0, 0, []) := And.intro dX5_init_52 (And.intro rfl (rfl))
theorem oX5_init_53 : OKI 23 53 (.sipush 9999, 56, [], 9999, 0, []) := And.intro dX5_init_53 (And.intro rfl (by decide +kernel))
theorem oX5_init_56 : OKI 23 56 (.putfield 25, 59, [6, 9, 0], 0, 0, []) := And.intro dX5_init_56 (And.intro rfl (⟨(RX5, TX5, 13), "SpotTimers$Rule", rfl, by decide, tm_1 _ (List.mem_of_getElem? (i := 108) rfl) rfl, Or.inl rfl, Or.inl rfl, rfl⟩))
theorem oX5_init_59 : OKI 23 59 (.aload_n 0, 60, [0], 0, 0, []) := And.intro dX5_init_59 (And.intro rfl (rfl))
theorem oX5_init_60 : OKI 23 60 (.iconst 0, 61, [], 0, 0, []) := And.intro dX5_init_60 (And.intro rfl (by decide +kernel))
theorem oX5_init_61 : OKI 23 61 (.putfield 28, 64, [6, 10, 0], 0, 0, []) := And.intro dX5_init_61 (And.intro rfl (⟨(RX5, TX5, 13), "SpotTimers$Rule", rfl, by decide, tm_1 _ (List.mem_of_getElem? (i := 111) rfl) rfl, Or.inl rfl, Or.inl rfl, rfl⟩))
theorem oX5_init_64 : OKI 23 64 (.aload_n 0, 65, [0], 0, 0, []) := And.intro dX5_init_64 (And.intro rfl (rfl))
theorem oX5_init_65 : OKI 23 65 (.iconst 0, 66, [], 0, 0, []) := And.intro dX5_init_65 (And.intro rfl (by decide +kernel))
theorem oX5_init_66 : OKI 23 66 (.putfield 31, 69, [6, 11, 3], 0, 0, []) := And.intro dX5_init_66 (And.intro rfl (⟨(RX5, TX5, 13), "SpotTimers$Rule", rfl, by decide, tm_1 _ (List.mem_of_getElem? (i := 113) rfl) rfl, Or.inl rfl, Or.inl rfl, rfl⟩))
theorem oX5_init_69 : OKI 23 69 (.aload_n 0, 70, [0], 0, 0, []) := And.intro dX5_init_69 (And.intro rfl (rfl))
theorem oX5_init_70 : OKI 23 70 (.iconst 0, 71, [], 0, 0, []) := And.intro dX5_init_70 (And.intro rfl (by decide +kernel))
theorem oX5_init_71 : OKI 23 71 (.putfield 35, 74, [6, 12, 3], 0, 0, []) := And.intro dX5_init_71 (And.intro rfl (⟨(RX5, TX5, 13), "SpotTimers$Rule", rfl, by decide, tm_1 _ (List.mem_of_getElem? (i := 116) rfl) rfl, Or.inl rfl, Or.inl rfl, rfl⟩))
theorem oX5_init_74 : OKI 23 74 (.aload_n 0, 75, [0], 0, 0, []) := And.intro dX5_init_74 (And.intro rfl (rfl))
theorem oX5_init_75 : OKI 23 75 (.iload_n 1, 76, [1], 0, 0, []) := And.intro dX5_init_75 (And.intro rfl (rfl))
theorem oX5_init_76 : OKI 23 76 (.putfield 38, 79, [6, 0, 0], 0, 0, []) := And.intro dX5_init_76 (And.intro rfl (⟨(RX5, TX5, 13), "SpotTimers$Rule", rfl, by decide, tm_1 _ (List.mem_of_getElem? (i := 91) rfl) rfl, Or.inl rfl, Or.inr (And.intro rfl (And.intro rfl rfl)), rfl⟩))
theorem oX5_init_79 : OKI 23 79 (.aload_n 0, 80, [0], 0, 0, []) := And.intro dX5_init_79 (And.intro rfl (rfl))
theorem oX5_init_80 : OKI 23 80 (.iload_n 2, 81, [2], 0, 0, []) := And.intro dX5_init_80 (And.intro rfl (rfl))
theorem oX5_init_81 : OKI 23 81 (.putfield 41, 84, [6, 1, 0], 0, 0, []) := And.intro dX5_init_81 (And.intro rfl (⟨(RX5, TX5, 13), "SpotTimers$Rule", rfl, by decide, tm_1 _ (List.mem_of_getElem? (i := 93) rfl) rfl, Or.inl rfl, Or.inr (And.intro rfl (And.intro rfl rfl)), rfl⟩))
theorem oX5_init_84 : OKI 23 84 (.aload_n 0, 85, [0], 0, 0, []) := And.intro dX5_init_84 (And.intro rfl (rfl))
theorem oX5_init_85 : OKI 23 85 (.iload_n 3, 86, [3], 0, 0, []) := And.intro dX5_init_85 (And.intro rfl (rfl))
theorem oX5_init_86 : OKI 23 86 (.putfield 44, 89, [6, 2, 0], 0, 0, []) := And.intro dX5_init_86 (And.intro rfl (⟨(RX5, TX5, 13), "SpotTimers$Rule", rfl, by decide, tm_1 _ (List.mem_of_getElem? (i := 95) rfl) rfl, Or.inl rfl, Or.inr (And.intro rfl (And.intro rfl rfl)), rfl⟩))
theorem oX5_init_89 : OKI 23 89 (.iconst 0, 90, [], 0, 0, []) := And.intro dX5_init_89 (And.intro rfl (by decide +kernel))
theorem oX5_init_90 : OKI 23 90 (.iload 4, 92, [4], 0, 0, []) := And.intro dX5_init_90 (And.intro rfl (rfl))
theorem oX5_init_92 : OKI 23 92 (.invokestatic 47, 95, [252, 2, 0, 0, 0, 1], 0, 0, []) := And.intro dX5_init_92 (And.intro rfl (And.intro rfl (And.intro mo_J9_max_7cf53 (And.intro (Or.inl (tm_1 _ (List.mem_of_getElem? (i := 88) rfl) rfl)) (tm_1 _ (List.mem_of_getElem? (i := 89) rfl) rfl)))))
theorem oX5_init_95 : OKI 23 95 (.istore 5, 97, [5], 0, 0, []) := And.intro dX5_init_95 (And.intro rfl (And.intro rfl (by decide)))
theorem oX5_init_97 : OKI 23 97 (.aload_n 0, 98, [0], 0, 0, []) := And.intro dX5_init_97 (And.intro rfl (rfl))
theorem oX5_init_98 : OKI 23 98 (.iload 5, 100, [5], 0, 0, []) := And.intro dX5_init_98 (And.intro rfl (rfl))
theorem oX5_init_100 : OKI 23 100 (.newarray .int, 102, [104], 0, 0, []) := And.intro dX5_init_100 (And.intro rfl (And.intro (And.intro (by decide) (by decide)) (tm_1 _ (List.mem_of_getElem? (i := 80) rfl) rfl)))
theorem oX5_init_102 : OKI 23 102 (.putfield 53, 105, [6, 4, 2], 0, 0, []) := And.intro dX5_init_102 (And.intro rfl (⟨(RX5, TX5, 13), "SpotTimers$Rule", rfl, by decide, tm_1 _ (List.mem_of_getElem? (i := 99) rfl) rfl, Or.inl rfl, Or.inr (And.intro rfl (And.intro rfl rfl)), rfl⟩))
theorem oX5_init_105 : OKI 23 105 (.aload_n 0, 106, [0], 0, 0, []) := And.intro dX5_init_105 (And.intro rfl (rfl))
theorem oX5_init_106 : OKI 23 106 (.iload 5, 108, [5], 0, 0, []) := And.intro dX5_init_106 (And.intro rfl (rfl))
theorem oX5_init_108 : OKI 23 108 (.newarray .int, 110, [105], 0, 0, []) := And.intro dX5_init_108 (And.intro rfl (And.intro (And.intro (by decide) (by decide)) (tm_1 _ (List.mem_of_getElem? (i := 80) rfl) rfl)))
theorem oX5_init_110 : OKI 23 110 (.putfield 56, 113, [6, 5, 2], 0, 0, []) := And.intro dX5_init_110 (And.intro rfl (⟨(RX5, TX5, 13), "SpotTimers$Rule", rfl, by decide, tm_1 _ (List.mem_of_getElem? (i := 100) rfl) rfl, Or.inl rfl, Or.inr (And.intro rfl (And.intro rfl rfl)), rfl⟩))
theorem oX5_init_113 : OKI 23 113 (.return_, 114, [], 0, 0, []) := And.intro dX5_init_113 rfl
def pfX5_init (pc : Nat) : Option XE := (bif Nat.blt pc 47 then (bif Nat.blt pc 22 then (bif Nat.blt pc 13 then (bif Nat.blt pc 7 then (bif Nat.blt pc 4 then (bif Nat.blt pc 1 then (bif Nat.beq pc 0 then some (.aload_n 0, 1, [0], 0, 0, []) else none) else (bif Nat.beq pc 1 then some (.invokespecial 3, 4, [9004], 0, 0, []) else none)) else (bif Nat.blt pc 5 then (bif Nat.beq pc 4 then some (.aload_n 0, 5, [0], 0, 0, []) else none) else (bif Nat.beq pc 5 then some (.bipush 6, 7, [], 6, 0, []) else none))) else (bif Nat.blt pc 10 then (bif Nat.blt pc 9 then (bif Nat.beq pc 7 then some (.newarray .int, 9, [103], 0, 0, []) else none) else (bif Nat.beq pc 9 then some (.dup, 10, [], 0, 0, []) else none)) else (bif Nat.blt pc 11 then (bif Nat.beq pc 10 then some (.iconst 0, 11, [], 0, 0, []) else none) else (bif Nat.blt pc 12 then (bif Nat.beq pc 11 then some (.iconst 1, 12, [], 1, 0, []) else none) else (bif Nat.beq pc 12 then some (.iastore, 13, [], 0, 0, []) else none))))) else (bif Nat.blt pc 17 then (bif Nat.blt pc 15 then (bif Nat.blt pc 14 then (bif Nat.beq pc 13 then some (.dup, 14, [], 0, 0, []) else none) else (bif Nat.beq pc 14 then some (.iconst 1, 15, [], 1, 0, []) else none)) else (bif Nat.blt pc 16 then (bif Nat.beq pc 15 then some (.iconst 1, 16, [], 1, 0, []) else none) else (bif Nat.beq pc 16 then some (.iastore, 17, [], 0, 0, []) else none))) else (bif Nat.blt pc 19 then (bif Nat.blt pc 18 then (bif Nat.beq pc 17 then some (.dup, 18, [], 0, 0, []) else none) else (bif Nat.beq pc 18 then some (.iconst 2, 19, [], 2, 0, []) else none)) else (bif Nat.blt pc 20 then (bif Nat.beq pc 19 then some (.iconst 1, 20, [], 1, 0, []) else none) else (bif Nat.blt pc 21 then (bif Nat.beq pc 20 then some (.iastore, 21, [], 0, 0, []) else none) else (bif Nat.beq pc 21 then some (.dup, 22, [], 0, 0, []) else none)))))) else (bif Nat.blt pc 31 then (bif Nat.blt pc 26 then (bif Nat.blt pc 24 then (bif Nat.blt pc 23 then (bif Nat.beq pc 22 then some (.iconst 3, 23, [], 3, 0, []) else none) else (bif Nat.beq pc 23 then some (.iconst 1, 24, [], 1, 0, []) else none)) else (bif Nat.blt pc 25 then (bif Nat.beq pc 24 then some (.iastore, 25, [], 0, 0, []) else none) else (bif Nat.beq pc 25 then some (.dup, 26, [], 0, 0, []) else none))) else (bif Nat.blt pc 28 then (bif Nat.blt pc 27 then (bif Nat.beq pc 26 then some (.iconst 4, 27, [], 4, 0, []) else none) else (bif Nat.beq pc 27 then some (.iconst 1, 28, [], 1, 0, []) else none)) else (bif Nat.blt pc 29 then (bif Nat.beq pc 28 then some (.iastore, 29, [], 0, 0, []) else none) else (bif Nat.blt pc 30 then (bif Nat.beq pc 29 then some (.dup, 30, [], 0, 0, []) else none) else (bif Nat.beq pc 30 then some (.iconst 5, 31, [], 5, 0, []) else none))))) else (bif Nat.blt pc 37 then (bif Nat.blt pc 33 then (bif Nat.blt pc 32 then (bif Nat.beq pc 31 then some (.iconst 1, 32, [], 1, 0, []) else none) else (bif Nat.beq pc 32 then some (.iastore, 33, [], 0, 0, []) else none)) else (bif Nat.blt pc 36 then (bif Nat.beq pc 33 then some (.putfield 9, 36, [6, 3, 2], 0, 0, []) else none) else (bif Nat.beq pc 36 then some (.aload_n 0, 37, [0], 0, 0, []) else none))) else (bif Nat.blt pc 41 then (bif Nat.blt pc 38 then (bif Nat.beq pc 37 then some (.iconst 0, 38, [], 0, 0, []) else none) else (bif Nat.beq pc 38 then some (.putfield 15, 41, [6, 6, 0], 0, 0, []) else none)) else (bif Nat.blt pc 42 then (bif Nat.beq pc 41 then some (.aload_n 0, 42, [0], 0, 0, []) else none) else (bif Nat.blt pc 44 then (bif Nat.beq pc 42 then some (.bipush 30, 44, [], 30, 0, []) else none) else (bif Nat.beq pc 44 then some (.putfield 19, 47, [6, 7, 0], 0, 0, []) else none))))))) else (bif Nat.blt pc 79 then (bif Nat.blt pc 64 then (bif Nat.blt pc 53 then (bif Nat.blt pc 49 then (bif Nat.blt pc 48 then (bif Nat.beq pc 47 then some (.aload_n 0, 48, [0], 0, 0, []) else none) else (bif Nat.beq pc 48 then some (.iconst 1, 49, [], 1, 0, []) else none)) else (bif Nat.blt pc 52 then (bif Nat.beq pc 49 then some (.putfield 22, 52, [6, 8, 0], 0, 0, []) else none) else (bif Nat.beq pc 52 then some (.aload_n 0, 53, [0], 0, 0, []) else none))) else (bif Nat.blt pc 59 then (bif Nat.blt pc 56 then (bif Nat.beq pc 53 then some (.sipush 9999, 56, [], 9999, 0, []) else none) else (bif Nat.beq pc 56 then some (.putfield 25, 59, [6, 9, 0], 0, 0, []) else none)) else (bif Nat.blt pc 60 then (bif Nat.beq pc 59 then some (.aload_n 0, 60, [0], 0, 0, []) else none) else (bif Nat.blt pc 61 then (bif Nat.beq pc 60 then some (.iconst 0, 61, [], 0, 0, []) else none) else (bif Nat.beq pc 61 then some (.putfield 28, 64, [6, 10, 0], 0, 0, []) else none))))) else (bif Nat.blt pc 70 then (bif Nat.blt pc 66 then (bif Nat.blt pc 65 then (bif Nat.beq pc 64 then some (.aload_n 0, 65, [0], 0, 0, []) else none) else (bif Nat.beq pc 65 then some (.iconst 0, 66, [], 0, 0, []) else none)) else (bif Nat.blt pc 69 then (bif Nat.beq pc 66 then some (.putfield 31, 69, [6, 11, 3], 0, 0, []) else none) else (bif Nat.beq pc 69 then some (.aload_n 0, 70, [0], 0, 0, []) else none))) else (bif Nat.blt pc 74 then (bif Nat.blt pc 71 then (bif Nat.beq pc 70 then some (.iconst 0, 71, [], 0, 0, []) else none) else (bif Nat.beq pc 71 then some (.putfield 35, 74, [6, 12, 3], 0, 0, []) else none)) else (bif Nat.blt pc 75 then (bif Nat.beq pc 74 then some (.aload_n 0, 75, [0], 0, 0, []) else none) else (bif Nat.blt pc 76 then (bif Nat.beq pc 75 then some (.iload_n 1, 76, [1], 0, 0, []) else none) else (bif Nat.beq pc 76 then some (.putfield 38, 79, [6, 0, 0], 0, 0, []) else none)))))) else (bif Nat.blt pc 95 then (bif Nat.blt pc 85 then (bif Nat.blt pc 81 then (bif Nat.blt pc 80 then (bif Nat.beq pc 79 then some (.aload_n 0, 80, [0], 0, 0, []) else none) else (bif Nat.beq pc 80 then some (.iload_n 2, 81, [2], 0, 0, []) else none)) else (bif Nat.blt pc 84 then (bif Nat.beq pc 81 then some (.putfield 41, 84, [6, 1, 0], 0, 0, []) else none) else (bif Nat.beq pc 84 then some (.aload_n 0, 85, [0], 0, 0, []) else none))) else (bif Nat.blt pc 89 then (bif Nat.blt pc 86 then (bif Nat.beq pc 85 then some (.iload_n 3, 86, [3], 0, 0, []) else none) else (bif Nat.beq pc 86 then some (.putfield 44, 89, [6, 2, 0], 0, 0, []) else none)) else (bif Nat.blt pc 90 then (bif Nat.beq pc 89 then some (.iconst 0, 90, [], 0, 0, []) else none) else (bif Nat.blt pc 92 then (bif Nat.beq pc 90 then some (.iload 4, 92, [4], 0, 0, []) else none) else (bif Nat.beq pc 92 then some (.invokestatic 47, 95, [252, 2, 0, 0, 0, 1], 0, 0, []) else none))))) else (bif Nat.blt pc 105 then (bif Nat.blt pc 98 then (bif Nat.blt pc 97 then (bif Nat.beq pc 95 then some (.istore 5, 97, [5], 0, 0, []) else none) else (bif Nat.beq pc 97 then some (.aload_n 0, 98, [0], 0, 0, []) else none)) else (bif Nat.blt pc 100 then (bif Nat.beq pc 98 then some (.iload 5, 100, [5], 0, 0, []) else none) else (bif Nat.blt pc 102 then (bif Nat.beq pc 100 then some (.newarray .int, 102, [104], 0, 0, []) else none) else (bif Nat.beq pc 102 then some (.putfield 53, 105, [6, 4, 2], 0, 0, []) else none)))) else (bif Nat.blt pc 108 then (bif Nat.blt pc 106 then (bif Nat.beq pc 105 then some (.aload_n 0, 106, [0], 0, 0, []) else none) else (bif Nat.beq pc 106 then some (.iload 5, 108, [5], 0, 0, []) else none)) else (bif Nat.blt pc 110 then (bif Nat.beq pc 108 then some (.newarray .int, 110, [105], 0, 0, []) else none) else (bif Nat.blt pc 113 then (bif Nat.beq pc 110 then some (.putfield 56, 113, [6, 5, 2], 0, 0, []) else none) else (bif Nat.beq pc 113 then some (.return_, 114, [], 0, 0, []) else none))))))))
theorem okX5_init : ∀ pc Y, pfX5_init pc = some Y → OKI m_X5_init pc Y := fun pc Y => ((bt_node (bt_node (bt_node (bt_node (bt_node (bt_node (bt_leaf (P := OKI m_X5_init) oX5_init_0) (bt_leaf (P := OKI m_X5_init) oX5_init_1)) (bt_node (bt_leaf (P := OKI m_X5_init) oX5_init_4) (bt_leaf (P := OKI m_X5_init) oX5_init_5))) (bt_node (bt_node (bt_leaf (P := OKI m_X5_init) oX5_init_7) (bt_leaf (P := OKI m_X5_init) oX5_init_9)) (bt_node (bt_leaf (P := OKI m_X5_init) oX5_init_10) (bt_node (bt_leaf (P := OKI m_X5_init) oX5_init_11) (bt_leaf (P := OKI m_X5_init) oX5_init_12))))) (bt_node (bt_node (bt_node (bt_leaf (P := OKI m_X5_init) oX5_init_13) (bt_leaf (P := OKI m_X5_init) oX5_init_14)) (bt_node (bt_leaf (P := OKI m_X5_init) oX5_init_15) (bt_leaf (P := OKI m_X5_init) oX5_init_16))) (bt_node (bt_node (bt_leaf (P := OKI m_X5_init) oX5_init_17) (bt_leaf (P := OKI m_X5_init) oX5_init_18)) (bt_node (bt_leaf (P := OKI m_X5_init) oX5_init_19) (bt_node (bt_leaf (P := OKI m_X5_init) oX5_init_20) (bt_leaf (P := OKI m_X5_init) oX5_init_21)))))) (bt_node (bt_node (bt_node (bt_node (bt_leaf (P := OKI m_X5_init) oX5_init_22) (bt_leaf (P := OKI m_X5_init) oX5_init_23)) (bt_node (bt_leaf (P := OKI m_X5_init) oX5_init_24) (bt_leaf (P := OKI m_X5_init) oX5_init_25))) (bt_node (bt_node (bt_leaf (P := OKI m_X5_init) oX5_init_26) (bt_leaf (P := OKI m_X5_init) oX5_init_27)) (bt_node (bt_leaf (P := OKI m_X5_init) oX5_init_28) (bt_node (bt_leaf (P := OKI m_X5_init) oX5_init_29) (bt_leaf (P := OKI m_X5_init) oX5_init_30))))) (bt_node (bt_node (bt_node (bt_leaf (P := OKI m_X5_init) oX5_init_31) (bt_leaf (P := OKI m_X5_init) oX5_init_32)) (bt_node (bt_leaf (P := OKI m_X5_init) oX5_init_33) (bt_leaf (P := OKI m_X5_init) oX5_init_36))) (bt_node (bt_node (bt_leaf (P := OKI m_X5_init) oX5_init_37) (bt_leaf (P := OKI m_X5_init) oX5_init_38)) (bt_node (bt_leaf (P := OKI m_X5_init) oX5_init_41) (bt_node (bt_leaf (P := OKI m_X5_init) oX5_init_42) (bt_leaf (P := OKI m_X5_init) oX5_init_44))))))) (bt_node (bt_node (bt_node (bt_node (bt_node (bt_leaf (P := OKI m_X5_init) oX5_init_47) (bt_leaf (P := OKI m_X5_init) oX5_init_48)) (bt_node (bt_leaf (P := OKI m_X5_init) oX5_init_49) (bt_leaf (P := OKI m_X5_init) oX5_init_52))) (bt_node (bt_node (bt_leaf (P := OKI m_X5_init) oX5_init_53) (bt_leaf (P := OKI m_X5_init) oX5_init_56)) (bt_node (bt_leaf (P := OKI m_X5_init) oX5_init_59) (bt_node (bt_leaf (P := OKI m_X5_init) oX5_init_60) (bt_leaf (P := OKI m_X5_init) oX5_init_61))))) (bt_node (bt_node (bt_node (bt_leaf (P := OKI m_X5_init) oX5_init_64) (bt_leaf (P := OKI m_X5_init) oX5_init_65)) (bt_node (bt_leaf (P := OKI m_X5_init) oX5_init_66) (bt_leaf (P := OKI m_X5_init) oX5_init_69))) (bt_node (bt_node (bt_leaf (P := OKI m_X5_init) oX5_init_70) (bt_leaf (P := OKI m_X5_init) oX5_init_71)) (bt_node (bt_leaf (P := OKI m_X5_init) oX5_init_74) (bt_node (bt_leaf (P := OKI m_X5_init) oX5_init_75) (bt_leaf (P := OKI m_X5_init) oX5_init_76)))))) (bt_node (bt_node (bt_node (bt_node (bt_leaf (P := OKI m_X5_init) oX5_init_79) (bt_leaf (P := OKI m_X5_init) oX5_init_80)) (bt_node (bt_leaf (P := OKI m_X5_init) oX5_init_81) (bt_leaf (P := OKI m_X5_init) oX5_init_84))) (bt_node (bt_node (bt_leaf (P := OKI m_X5_init) oX5_init_85) (bt_leaf (P := OKI m_X5_init) oX5_init_86)) (bt_node (bt_leaf (P := OKI m_X5_init) oX5_init_89) (bt_node (bt_leaf (P := OKI m_X5_init) oX5_init_90) (bt_leaf (P := OKI m_X5_init) oX5_init_92))))) (bt_node (bt_node (bt_node (bt_leaf (P := OKI m_X5_init) oX5_init_95) (bt_leaf (P := OKI m_X5_init) oX5_init_97)) (bt_node (bt_leaf (P := OKI m_X5_init) oX5_init_98) (bt_node (bt_leaf (P := OKI m_X5_init) oX5_init_100) (bt_leaf (P := OKI m_X5_init) oX5_init_102)))) (bt_node (bt_node (bt_leaf (P := OKI m_X5_init) oX5_init_105) (bt_leaf (P := OKI m_X5_init) oX5_init_106)) (bt_node (bt_leaf (P := OKI m_X5_init) oX5_init_108) (bt_node (bt_leaf (P := OKI m_X5_init) oX5_init_110) (bt_leaf (P := OKI m_X5_init) oX5_init_113)))))))) : pfX5_init pc = some Y → OKI m_X5_init pc Y)
def stpX5_init (pc : Nat) : Option (List Bool) := (bif Nat.blt pc 79 then (bif Nat.beq pc 36 then some [true, true, true, true, true, false] else none) else (bif Nat.blt pc 113 then (bif Nat.beq pc 79 then some [true, false, true, true, true, false] else none) else (bif Nat.beq pc 113 then some [false, false, false, false, false, false] else none)))
def bX5_init_0 (d rc rs : Nat) (t : Nat) (a1 : Int32) (a2 : Int32) (a3 : Int32) (a4 : Int32) (σ : XH) (Q : XV → XH → Prop) : Prop :=
  ((1 ≤ d ∧ (¬ (6 : Int32) < 0 ∧ (6 : Int32).toNatClampNeg ≤ 100000 ∧ 1 ≤ rc ∧ (6 : Int32).toNatClampNeg ≤ rs ∧ (∀ h1, h1 = nwA σ 103 (6 : Int32).toNatClampNeg → ((vp_in 0 (hn h1 103 (hc σ 103)) ∧ (∀ h2, h2 = wI h1 103 (hc σ 103) (0 : Int32).toNatClampNeg 1 → ((vp_in 1 (hn h2 103 (hc σ 103)) ∧ (∀ h3, h3 = wI h2 103 (hc σ 103) (1 : Int32).toNatClampNeg 1 → ((vp_in 2 (hn h3 103 (hc σ 103)) ∧ (∀ h4, h4 = wI h3 103 (hc σ 103) (2 : Int32).toNatClampNeg 1 → ((vp_in 3 (hn h4 103 (hc σ 103)) ∧ (∀ h5, h5 = wI h4 103 (hc σ 103) (3 : Int32).toNatClampNeg 1 → ((vp_in 4 (hn h5 103 (hc σ 103)) ∧ (∀ h6, h6 = wI h5 103 (hc σ 103) (4 : Int32).toNatClampNeg 1 → ((vp_in 5 (hn h6 103 (hc σ 103)) ∧ (∀ h7, h7 = wI h6 103 (hc σ 103) (5 : Int32).toNatClampNeg 1 → ((∀ h8, h8 = wR h7 6 t 3 (some (103, hc σ 103)) → Ex d (rc - 1) (rs - (6 : Int32).toNatClampNeg) m_X5_init 36 [vR (some (6, t)), vI a1, vI a2, vI a3, vI a4, vU] [] h8 Q))))))))))))))))))))))))
theorem sX5_init_0 {d rc rs : Nat} {t : Nat} {a1 : Int32} {a2 : Int32} {a3 : Int32} {a4 : Int32} {σ : XH} {Q : XV → XH → Prop} (h : bX5_init_0 d rc rs t a1 a2 a3 a4 σ Q) : Ex d rc rs m_X5_init 0 [vR (some (6, t)), vI a1, vI a2, vI a3, vI a4, vU] [] σ Q :=
  xtree_sound (stop := stpX5_init) okX5_init 32 _ _ _ _ _ _ h
def bX5_init_36 (d rc rs : Nat) (t : Nat) (l1 : Int32) (l2 : Int32) (l3 : Int32) (l4 : Int32) (σ : XH) (Q : XV → XH → Prop) : Prop :=
  ((∀ h1, h1 = wI σ 6 t 6 0 → ((∀ h2, h2 = wI h1 6 t 7 30 → ((∀ h3, h3 = wI h2 6 t 8 1 → ((∀ h4, h4 = wI h3 6 t 9 9999 → ((∀ h5, h5 = wI h4 6 t 10 0 → ((((0 : Int32) = 0 ∨ (0 : Int32) = 1) ∧ (∀ h6, h6 = wI h5 6 t 11 0 → ((((0 : Int32) = 0 ∨ (0 : Int32) = 1) ∧ (∀ h7, h7 = wI h6 6 t 12 0 → ((∀ h8, h8 = wI h7 6 t 0 l1 → Ex d rc rs m_X5_init 79 [vR (some (6, t)), vU, vI l2, vI l3, vI l4, vU] [] h8 Q))))))))))))))))))
theorem sX5_init_36 {d rc rs : Nat} {t : Nat} {l1 : Int32} {l2 : Int32} {l3 : Int32} {l4 : Int32} {σ : XH} {Q : XV → XH → Prop} (h : bX5_init_36 d rc rs t l1 l2 l3 l4 σ Q) : Ex d rc rs m_X5_init 36 [vR (some (6, t)), vI l1, vI l2, vI l3, vI l4, vU] [] σ Q :=
  xtree_sound (stop := stpX5_init) okX5_init 26 _ _ _ _ _ _ h
def bX5_init_79 (d rc rs : Nat) (t : Nat) (l2 : Int32) (l3 : Int32) (l4 : Int32) (σ : XH) (Q : XV → XH → Prop) : Prop :=
  ((∀ h1, h1 = wI σ 6 t 1 l2 → ((∀ h2, h2 = wI h1 6 t 2 l3 → (1 ≤ d ∧ Ec (d - 1) 0 0 m_J9_max_7cf53 [vI 0, vI l4] h2 (kI fun x4 h3 => (¬ x4 < 0 ∧ x4.toNatClampNeg ≤ 100000 ∧ 1 ≤ rc ∧ x4.toNatClampNeg ≤ rs ∧ (∀ h5, h5 = nwA h3 104 x4.toNatClampNeg → ((∀ h6, h6 = wR h5 6 t 4 (some (104, hc h3 104)) → (¬ x4 < 0 ∧ x4.toNatClampNeg ≤ 100000 ∧ 1 ≤ rc - 1 ∧ x4.toNatClampNeg ≤ rs - x4.toNatClampNeg ∧ (∀ h7, h7 = nwA h6 105 x4.toNatClampNeg → ((∀ h8, h8 = wR h7 6 t 5 (some (105, hc h6 105)) → Ex d ((rc - 1) - 1) ((rs - x4.toNatClampNeg) - x4.toNatClampNeg) m_X5_init 113 [vU, vU, vU, vU, vU, vU] [] h8 Q))))))))))))))
theorem sX5_init_79 {d rc rs : Nat} {t : Nat} {l2 : Int32} {l3 : Int32} {l4 : Int32} {σ : XH} {Q : XV → XH → Prop} (h : bX5_init_79 d rc rs t l2 l3 l4 σ Q) : Ex d rc rs m_X5_init 79 [vR (some (6, t)), vU, vI l2, vI l3, vI l4, vU] [] σ Q :=
  xtree_sound (stop := stpX5_init) okX5_init 20 _ _ _ _ _ _ h
def bX5_init_113 (d rc rs : Nat)  (σ : XH) (Q : XV → XH → Prop) : Prop :=
  Q vU σ
theorem sX5_init_113 {d rc rs : Nat}  {σ : XH} {Q : XV → XH → Prop} (h : bX5_init_113 d rc rs  σ Q) : Ex d rc rs m_X5_init 113 [vU, vU, vU, vU, vU, vU] [] σ Q :=
  xtree_sound (stop := stpX5_init) okX5_init 3 _ _ _ _ _ _ h
/-! SpotTimers$Rule.weightOf(I)I -/
theorem dX5_weightOf_0 : decode cX5_weightOf 0 = .ok (.iload_n 1, 1) := by decide +kernel
theorem dX5_weightOf_1 : decode cX5_weightOf 1 = .ok (.ifCond .lt 21, 3) := by decide +kernel
theorem dX5_weightOf_4 : decode cX5_weightOf 4 = .ok (.iload_n 1, 1) := by decide +kernel
theorem dX5_weightOf_5 : decode cX5_weightOf 5 = .ok (.aload_n 0, 1) := by decide +kernel
theorem dX5_weightOf_6 : decode cX5_weightOf 6 = .ok (.getfield 9, 3) := by decide +kernel
theorem dX5_weightOf_9 : decode cX5_weightOf 9 = .ok (.arraylength, 1) := by decide +kernel
theorem dX5_weightOf_10 : decode cX5_weightOf 10 = .ok (.if_icmp .ge 12, 3) := by decide +kernel
theorem dX5_weightOf_13 : decode cX5_weightOf 13 = .ok (.aload_n 0, 1) := by decide +kernel
theorem dX5_weightOf_14 : decode cX5_weightOf 14 = .ok (.getfield 9, 3) := by decide +kernel
theorem dX5_weightOf_17 : decode cX5_weightOf 17 = .ok (.iload_n 1, 1) := by decide +kernel
theorem dX5_weightOf_18 : decode cX5_weightOf 18 = .ok (.iaload, 1) := by decide +kernel
theorem dX5_weightOf_19 : decode cX5_weightOf 19 = .ok (.goto 4, 3) := by decide +kernel
theorem dX5_weightOf_22 : decode cX5_weightOf 22 = .ok (.iconst 0, 1) := by decide +kernel
theorem dX5_weightOf_23 : decode cX5_weightOf 23 = .ok (.ireturn, 1) := by decide +kernel
theorem oX5_weightOf_0 : OKI 24 0 (.iload_n 1, 1, [1], 0, 0, []) := And.intro dX5_weightOf_0 (And.intro rfl (rfl))
theorem oX5_weightOf_1 : OKI 24 1 (.ifCond .lt 21, 4, [22], 0, 0, []) := And.intro dX5_weightOf_1 (And.intro rfl (by decide))
theorem oX5_weightOf_4 : OKI 24 4 (.iload_n 1, 5, [1], 0, 0, []) := And.intro dX5_weightOf_4 (And.intro rfl (rfl))
theorem oX5_weightOf_5 : OKI 24 5 (.aload_n 0, 6, [0], 0, 0, []) := And.intro dX5_weightOf_5 (And.intro rfl (rfl))
theorem oX5_weightOf_6 : OKI 24 6 (.getfield 9, 9, [6, 3, 2, 103, 0], 0, 0, []) := And.intro dX5_weightOf_6 (And.intro rfl (⟨(RX5, TX5, 13), "SpotTimers$Rule", rfl, by decide, tm_1 _ (List.mem_of_getElem? (i := 97) rfl) rfl, Or.inl rfl, rfl, rfl⟩))
theorem oX5_weightOf_9 : OKI 24 9 (.arraylength, 10, [], 0, 0, []) := And.intro dX5_weightOf_9 rfl
theorem oX5_weightOf_10 : OKI 24 10 (.if_icmp .ge 12, 13, [22], 0, 0, []) := And.intro dX5_weightOf_10 (And.intro rfl (by decide))
theorem oX5_weightOf_13 : OKI 24 13 (.aload_n 0, 14, [0], 0, 0, []) := And.intro dX5_weightOf_13 (And.intro rfl (rfl))
theorem oX5_weightOf_14 : OKI 24 14 (.getfield 9, 17, [6, 3, 2, 103, 0], 0, 0, []) := And.intro dX5_weightOf_14 (And.intro rfl (⟨(RX5, TX5, 13), "SpotTimers$Rule", rfl, by decide, tm_1 _ (List.mem_of_getElem? (i := 97) rfl) rfl, Or.inl rfl, rfl, rfl⟩))
theorem oX5_weightOf_17 : OKI 24 17 (.iload_n 1, 18, [1], 0, 0, []) := And.intro dX5_weightOf_17 (And.intro rfl (rfl))
theorem oX5_weightOf_18 : OKI 24 18 (.iaload, 19, [], 0, 0, []) := And.intro dX5_weightOf_18 rfl
theorem oX5_weightOf_19 : OKI 24 19 (.goto 4, 22, [23], 0, 0, []) := And.intro dX5_weightOf_19 (And.intro rfl (by decide))
theorem oX5_weightOf_22 : OKI 24 22 (.iconst 0, 23, [], 0, 0, []) := And.intro dX5_weightOf_22 (And.intro rfl (by decide +kernel))
theorem oX5_weightOf_23 : OKI 24 23 (.ireturn, 24, [0], 0, 0, []) := And.intro dX5_weightOf_23 (Or.inl (And.intro rfl rfl))
def pfX5_weightOf (pc : Nat) : Option XE := (bif Nat.blt pc 13 then (bif Nat.blt pc 5 then (bif Nat.blt pc 1 then (bif Nat.beq pc 0 then some (.iload_n 1, 1, [1], 0, 0, []) else none) else (bif Nat.blt pc 4 then (bif Nat.beq pc 1 then some (.ifCond .lt 21, 4, [22], 0, 0, []) else none) else (bif Nat.beq pc 4 then some (.iload_n 1, 5, [1], 0, 0, []) else none))) else (bif Nat.blt pc 9 then (bif Nat.blt pc 6 then (bif Nat.beq pc 5 then some (.aload_n 0, 6, [0], 0, 0, []) else none) else (bif Nat.beq pc 6 then some (.getfield 9, 9, [6, 3, 2, 103, 0], 0, 0, []) else none)) else (bif Nat.blt pc 10 then (bif Nat.beq pc 9 then some (.arraylength, 10, [], 0, 0, []) else none) else (bif Nat.beq pc 10 then some (.if_icmp .ge 12, 13, [22], 0, 0, []) else none)))) else (bif Nat.blt pc 18 then (bif Nat.blt pc 14 then (bif Nat.beq pc 13 then some (.aload_n 0, 14, [0], 0, 0, []) else none) else (bif Nat.blt pc 17 then (bif Nat.beq pc 14 then some (.getfield 9, 17, [6, 3, 2, 103, 0], 0, 0, []) else none) else (bif Nat.beq pc 17 then some (.iload_n 1, 18, [1], 0, 0, []) else none))) else (bif Nat.blt pc 22 then (bif Nat.blt pc 19 then (bif Nat.beq pc 18 then some (.iaload, 19, [], 0, 0, []) else none) else (bif Nat.beq pc 19 then some (.goto 4, 22, [23], 0, 0, []) else none)) else (bif Nat.blt pc 23 then (bif Nat.beq pc 22 then some (.iconst 0, 23, [], 0, 0, []) else none) else (bif Nat.beq pc 23 then some (.ireturn, 24, [0], 0, 0, []) else none)))))
theorem okX5_weightOf : ∀ pc Y, pfX5_weightOf pc = some Y → OKI m_X5_weightOf pc Y := fun pc Y => ((bt_node (bt_node (bt_node (bt_leaf (P := OKI m_X5_weightOf) oX5_weightOf_0) (bt_node (bt_leaf (P := OKI m_X5_weightOf) oX5_weightOf_1) (bt_leaf (P := OKI m_X5_weightOf) oX5_weightOf_4))) (bt_node (bt_node (bt_leaf (P := OKI m_X5_weightOf) oX5_weightOf_5) (bt_leaf (P := OKI m_X5_weightOf) oX5_weightOf_6)) (bt_node (bt_leaf (P := OKI m_X5_weightOf) oX5_weightOf_9) (bt_leaf (P := OKI m_X5_weightOf) oX5_weightOf_10)))) (bt_node (bt_node (bt_leaf (P := OKI m_X5_weightOf) oX5_weightOf_13) (bt_node (bt_leaf (P := OKI m_X5_weightOf) oX5_weightOf_14) (bt_leaf (P := OKI m_X5_weightOf) oX5_weightOf_17))) (bt_node (bt_node (bt_leaf (P := OKI m_X5_weightOf) oX5_weightOf_18) (bt_leaf (P := OKI m_X5_weightOf) oX5_weightOf_19)) (bt_node (bt_leaf (P := OKI m_X5_weightOf) oX5_weightOf_22) (bt_leaf (P := OKI m_X5_weightOf) oX5_weightOf_23))))) : pfX5_weightOf pc = some Y → OKI m_X5_weightOf pc Y)
def stpX5_weightOf (pc : Nat) : Option (List Bool) := (bif Nat.blt pc 23 then (bif Nat.beq pc 22 then some [false, false] else none) else (bif Nat.beq pc 23 then some [false, false] else none))
def bX5_weightOf_0 (d rc rs : Nat) (t : Nat) (a1 : Int32) (σ : XH) (Q : XV → XH → Prop) : Prop :=
  ((a1 < 0 → Ex d rc rs m_X5_weightOf 22 [vU, vU] [] σ Q) ∧ (¬ a1 < 0 → ((hr σ 6 t 3 = some (103, t) ∧ (((a1 < (Int32.ofNat (hn σ 103 t)) → ((hr σ 6 t 3 = some (103, t) ∧ ((vp_in a1 (hn σ 103 t) ∧ Ex d rc rs m_X5_weightOf 23 [vU, vU] [vI (hi σ 103 t a1.toNatClampNeg)] σ Q))))) ∧ (¬ a1 < (Int32.ofNat (hn σ 103 t)) → Ex d rc rs m_X5_weightOf 22 [vU, vU] [] σ Q)))))))
theorem sX5_weightOf_0 {d rc rs : Nat} {t : Nat} {a1 : Int32} {σ : XH} {Q : XV → XH → Prop} (h : bX5_weightOf_0 d rc rs t a1 σ Q) : Ex d rc rs m_X5_weightOf 0 [vR (some (6, t)), vI a1] [] σ Q :=
  xtree_sound (stop := stpX5_weightOf) okX5_weightOf 14 _ _ _ _ _ _ h
def bX5_weightOf_22 (d rc rs : Nat)  (σ : XH) (Q : XV → XH → Prop) : Prop :=
  Ex d rc rs m_X5_weightOf 23 [vU, vU] [vI 0] σ Q
theorem sX5_weightOf_22 {d rc rs : Nat}  {σ : XH} {Q : XV → XH → Prop} (h : bX5_weightOf_22 d rc rs  σ Q) : Ex d rc rs m_X5_weightOf 22 [vU, vU] [] σ Q :=
  xtree_sound (stop := stpX5_weightOf) okX5_weightOf 3 _ _ _ _ _ _ h
def bX5_weightOf_23 (d rc rs : Nat) (q0 : Int32) (σ : XH) (Q : XV → XH → Prop) : Prop :=
  Q (vI q0) σ
theorem sX5_weightOf_23 {d rc rs : Nat} {q0 : Int32} {σ : XH} {Q : XV → XH → Prop} (h : bX5_weightOf_23 d rc rs q0 σ Q) : Ex d rc rs m_X5_weightOf 23 [vU, vU] [vI q0] σ Q :=
  xtree_sound (stop := stpX5_weightOf) okX5_weightOf 3 _ _ _ _ _ _ h
/-! SpotTimers$Rule.addsStrike()Z -/
theorem dX5_addsStrike_0 : decode cX5_addsStrike 0 = .ok (.aload_n 0, 1) := by decide +kernel
theorem dX5_addsStrike_1 : decode cX5_addsStrike 1 = .ok (.dup, 1) := by decide +kernel
theorem dX5_addsStrike_2 : decode cX5_addsStrike 2 = .ok (.getfield 28, 3) := by decide +kernel
theorem dX5_addsStrike_5 : decode cX5_addsStrike 5 = .ok (.iconst 1, 1) := by decide +kernel
theorem dX5_addsStrike_6 : decode cX5_addsStrike 6 = .ok (.iadd, 1) := by decide +kernel
theorem dX5_addsStrike_7 : decode cX5_addsStrike 7 = .ok (.putfield 28, 3) := by decide +kernel
theorem dX5_addsStrike_10 : decode cX5_addsStrike 10 = .ok (.aload_n 0, 1) := by decide +kernel
theorem dX5_addsStrike_11 : decode cX5_addsStrike 11 = .ok (.bipush 124, 2) := by decide +kernel
theorem dX5_addsStrike_13 : decode cX5_addsStrike 13 = .ok (.iconst 0, 1) := by decide +kernel
theorem dX5_addsStrike_14 : decode cX5_addsStrike 14 = .ok (.invokevirtual 59, 3) := by decide +kernel
theorem dX5_addsStrike_17 : decode cX5_addsStrike 17 = .ok (.iconst 1, 1) := by decide +kernel
theorem dX5_addsStrike_18 : decode cX5_addsStrike 18 = .ok (.ireturn, 1) := by decide +kernel
theorem oX5_addsStrike_0 : OKI 25 0 (.aload_n 0, 1, [0], 0, 0, []) := And.intro dX5_addsStrike_0 (And.intro rfl (rfl))
theorem oX5_addsStrike_1 : OKI 25 1 (.dup, 2, [], 0, 0, []) := And.intro dX5_addsStrike_1 rfl
theorem oX5_addsStrike_2 : OKI 25 2 (.getfield 28, 5, [6, 10, 0], 0, 0, []) := And.intro dX5_addsStrike_2 (And.intro rfl (⟨(RX5, TX5, 13), "SpotTimers$Rule", rfl, by decide, tm_1 _ (List.mem_of_getElem? (i := 111) rfl) rfl, Or.inl rfl, Or.inr (Or.inr (And.intro rfl (Or.inl rfl)))⟩))
theorem oX5_addsStrike_5 : OKI 25 5 (.iconst 1, 6, [], 1, 0, []) := And.intro dX5_addsStrike_5 (And.intro rfl (by decide +kernel))
theorem oX5_addsStrike_6 : OKI 25 6 (.iadd, 7, [], 0, 0, []) := And.intro dX5_addsStrike_6 rfl
theorem oX5_addsStrike_7 : OKI 25 7 (.putfield 28, 10, [6, 10, 0], 0, 0, []) := And.intro dX5_addsStrike_7 (And.intro rfl (⟨(RX5, TX5, 13), "SpotTimers$Rule", rfl, by decide, tm_1 _ (List.mem_of_getElem? (i := 111) rfl) rfl, Or.inl rfl, Or.inl rfl, rfl⟩))
theorem oX5_addsStrike_10 : OKI 25 10 (.aload_n 0, 11, [0], 0, 0, []) := And.intro dX5_addsStrike_10 (And.intro rfl (rfl))
theorem oX5_addsStrike_11 : OKI 25 11 (.bipush 124, 13, [], 124, 0, []) := And.intro dX5_addsStrike_11 (And.intro rfl (by decide +kernel))
theorem oX5_addsStrike_13 : OKI 25 13 (.iconst 0, 14, [], 0, 0, []) := And.intro dX5_addsStrike_13 (And.intro rfl (by decide +kernel))
theorem oX5_addsStrike_14 : OKI 25 14 (.invokevirtual 59, 17, [26, 3, 7, 0, 0, 0], 0, 0, []) := And.intro dX5_addsStrike_14 (And.intro rfl (And.intro (by decide) (And.intro (by decide) (And.intro mo_X5_addStep (And.intro (tm_4 _ (List.mem_of_getElem? (i := 116) rfl) rfl) (And.intro (tm_4 _ (List.mem_of_getElem? (i := 108) rfl) rfl) (And.intro (tm_4 _ (List.mem_of_getElem? (i := 109) rfl) rfl) (Or.inl ⟨(RX5, TX5, 13), rfl, rfl⟩))))))))
theorem oX5_addsStrike_17 : OKI 25 17 (.iconst 1, 18, [], 1, 0, []) := And.intro dX5_addsStrike_17 (And.intro rfl (by decide +kernel))
theorem oX5_addsStrike_18 : OKI 25 18 (.ireturn, 19, [3], 0, 0, []) := And.intro dX5_addsStrike_18 (Or.inr (Or.inl (And.intro rfl rfl)))
def pfX5_addsStrike (pc : Nat) : Option XE := (bif Nat.blt pc 10 then (bif Nat.blt pc 5 then (bif Nat.blt pc 1 then (bif Nat.beq pc 0 then some (.aload_n 0, 1, [0], 0, 0, []) else none) else (bif Nat.blt pc 2 then (bif Nat.beq pc 1 then some (.dup, 2, [], 0, 0, []) else none) else (bif Nat.beq pc 2 then some (.getfield 28, 5, [6, 10, 0], 0, 0, []) else none))) else (bif Nat.blt pc 6 then (bif Nat.beq pc 5 then some (.iconst 1, 6, [], 1, 0, []) else none) else (bif Nat.blt pc 7 then (bif Nat.beq pc 6 then some (.iadd, 7, [], 0, 0, []) else none) else (bif Nat.beq pc 7 then some (.putfield 28, 10, [6, 10, 0], 0, 0, []) else none)))) else (bif Nat.blt pc 14 then (bif Nat.blt pc 11 then (bif Nat.beq pc 10 then some (.aload_n 0, 11, [0], 0, 0, []) else none) else (bif Nat.blt pc 13 then (bif Nat.beq pc 11 then some (.bipush 124, 13, [], 124, 0, []) else none) else (bif Nat.beq pc 13 then some (.iconst 0, 14, [], 0, 0, []) else none))) else (bif Nat.blt pc 17 then (bif Nat.beq pc 14 then some (.invokevirtual 59, 17, [26, 3, 7, 0, 0, 0], 0, 0, []) else none) else (bif Nat.blt pc 18 then (bif Nat.beq pc 17 then some (.iconst 1, 18, [], 1, 0, []) else none) else (bif Nat.beq pc 18 then some (.ireturn, 19, [3], 0, 0, []) else none)))))
theorem okX5_addsStrike : ∀ pc Y, pfX5_addsStrike pc = some Y → OKI m_X5_addsStrike pc Y := fun pc Y => ((bt_node (bt_node (bt_node (bt_leaf (P := OKI m_X5_addsStrike) oX5_addsStrike_0) (bt_node (bt_leaf (P := OKI m_X5_addsStrike) oX5_addsStrike_1) (bt_leaf (P := OKI m_X5_addsStrike) oX5_addsStrike_2))) (bt_node (bt_leaf (P := OKI m_X5_addsStrike) oX5_addsStrike_5) (bt_node (bt_leaf (P := OKI m_X5_addsStrike) oX5_addsStrike_6) (bt_leaf (P := OKI m_X5_addsStrike) oX5_addsStrike_7)))) (bt_node (bt_node (bt_leaf (P := OKI m_X5_addsStrike) oX5_addsStrike_10) (bt_node (bt_leaf (P := OKI m_X5_addsStrike) oX5_addsStrike_11) (bt_leaf (P := OKI m_X5_addsStrike) oX5_addsStrike_13))) (bt_node (bt_leaf (P := OKI m_X5_addsStrike) oX5_addsStrike_14) (bt_node (bt_leaf (P := OKI m_X5_addsStrike) oX5_addsStrike_17) (bt_leaf (P := OKI m_X5_addsStrike) oX5_addsStrike_18))))) : pfX5_addsStrike pc = some Y → OKI m_X5_addsStrike pc Y)
def stpX5_addsStrike (_ : Nat) : Option (List Bool) := none
def bX5_addsStrike_0 (d rc rs : Nat) (t : Nat)  (σ : XH) (Q : XV → XH → Prop) : Prop :=
  (((∀ h1, h1 = wI σ 6 t 10 ((hi σ 6 t 10) + 1) → ((1 ≤ d ∧ Ec (d - 1) 0 0 m_X5_addStep [vR (some (6, t)), vI 124, vI 0] h1 (kU fun h2 => (((1 : Int32) = 0 ∨ (1 : Int32) = 1) ∧ Q (vI 1) h2)))))))
theorem sX5_addsStrike_0 {d rc rs : Nat} {t : Nat}  {σ : XH} {Q : XV → XH → Prop} (h : bX5_addsStrike_0 d rc rs t  σ Q) : Ex d rc rs m_X5_addsStrike 0 [vR (some (6, t))] [] σ Q :=
  xtree_sound (stop := stpX5_addsStrike) okX5_addsStrike 14 _ _ _ _ _ _ h
/-! SpotTimers$Rule.addStep(II)V -/
theorem dX5_addStep_0 : decode cX5_addStep 0 = .ok (.aload_n 0, 1) := by decide +kernel
theorem dX5_addStep_1 : decode cX5_addStep 1 = .ok (.getfield 15, 3) := by decide +kernel
theorem dX5_addStep_4 : decode cX5_addStep 4 = .ok (.aload_n 0, 1) := by decide +kernel
theorem dX5_addStep_5 : decode cX5_addStep 5 = .ok (.getfield 53, 3) := by decide +kernel
theorem dX5_addStep_8 : decode cX5_addStep 8 = .ok (.arraylength, 1) := by decide +kernel
theorem dX5_addStep_9 : decode cX5_addStep 9 = .ok (.if_icmp .ge 45, 3) := by decide +kernel
theorem dX5_addStep_12 : decode cX5_addStep 12 = .ok (.aload_n 0, 1) := by decide +kernel
theorem dX5_addStep_13 : decode cX5_addStep 13 = .ok (.getfield 15, 3) := by decide +kernel
theorem dX5_addStep_16 : decode cX5_addStep 16 = .ok (.aload_n 0, 1) := by decide +kernel
theorem dX5_addStep_17 : decode cX5_addStep 17 = .ok (.getfield 56, 3) := by decide +kernel
theorem dX5_addStep_20 : decode cX5_addStep 20 = .ok (.arraylength, 1) := by decide +kernel
theorem dX5_addStep_21 : decode cX5_addStep 21 = .ok (.if_icmp .ge 33, 3) := by decide +kernel
theorem dX5_addStep_24 : decode cX5_addStep 24 = .ok (.aload_n 0, 1) := by decide +kernel
theorem dX5_addStep_25 : decode cX5_addStep 25 = .ok (.getfield 53, 3) := by decide +kernel
theorem dX5_addStep_28 : decode cX5_addStep 28 = .ok (.aload_n 0, 1) := by decide +kernel
theorem dX5_addStep_29 : decode cX5_addStep 29 = .ok (.getfield 15, 3) := by decide +kernel
theorem dX5_addStep_32 : decode cX5_addStep 32 = .ok (.iload_n 1, 1) := by decide +kernel
theorem dX5_addStep_33 : decode cX5_addStep 33 = .ok (.iastore, 1) := by decide +kernel
theorem dX5_addStep_34 : decode cX5_addStep 34 = .ok (.aload_n 0, 1) := by decide +kernel
theorem dX5_addStep_35 : decode cX5_addStep 35 = .ok (.getfield 56, 3) := by decide +kernel
theorem dX5_addStep_38 : decode cX5_addStep 38 = .ok (.aload_n 0, 1) := by decide +kernel
theorem dX5_addStep_39 : decode cX5_addStep 39 = .ok (.getfield 15, 3) := by decide +kernel
theorem dX5_addStep_42 : decode cX5_addStep 42 = .ok (.iload_n 2, 1) := by decide +kernel
theorem dX5_addStep_43 : decode cX5_addStep 43 = .ok (.iastore, 1) := by decide +kernel
theorem dX5_addStep_44 : decode cX5_addStep 44 = .ok (.aload_n 0, 1) := by decide +kernel
theorem dX5_addStep_45 : decode cX5_addStep 45 = .ok (.dup, 1) := by decide +kernel
theorem dX5_addStep_46 : decode cX5_addStep 46 = .ok (.getfield 15, 3) := by decide +kernel
theorem dX5_addStep_49 : decode cX5_addStep 49 = .ok (.iconst 1, 1) := by decide +kernel
theorem dX5_addStep_50 : decode cX5_addStep 50 = .ok (.iadd, 1) := by decide +kernel
theorem dX5_addStep_51 : decode cX5_addStep 51 = .ok (.putfield 15, 3) := by decide +kernel
theorem dX5_addStep_54 : decode cX5_addStep 54 = .ok (.return_, 1) := by decide +kernel
theorem oX5_addStep_0 : OKI 26 0 (.aload_n 0, 1, [0], 0, 0, []) := And.intro dX5_addStep_0 (And.intro rfl (rfl))
theorem oX5_addStep_1 : OKI 26 1 (.getfield 15, 4, [6, 6, 0], 0, 0, []) := And.intro dX5_addStep_1 (And.intro rfl (⟨(RX5, TX5, 13), "SpotTimers$Rule", rfl, by decide, tm_1 _ (List.mem_of_getElem? (i := 101) rfl) rfl, Or.inl rfl, Or.inr (Or.inr (And.intro rfl (Or.inl rfl)))⟩))
theorem oX5_addStep_4 : OKI 26 4 (.aload_n 0, 5, [0], 0, 0, []) := And.intro dX5_addStep_4 (And.intro rfl (rfl))
theorem oX5_addStep_5 : OKI 26 5 (.getfield 53, 8, [6, 4, 2, 104, 0], 0, 0, []) := And.intro dX5_addStep_5 (And.intro rfl (⟨(RX5, TX5, 13), "SpotTimers$Rule", rfl, by decide, tm_1 _ (List.mem_of_getElem? (i := 99) rfl) rfl, Or.inl rfl, rfl, rfl⟩))
theorem oX5_addStep_8 : OKI 26 8 (.arraylength, 9, [], 0, 0, []) := And.intro dX5_addStep_8 rfl
theorem oX5_addStep_9 : OKI 26 9 (.if_icmp .ge 45, 12, [54], 0, 0, []) := And.intro dX5_addStep_9 (And.intro rfl (by decide))
theorem oX5_addStep_12 : OKI 26 12 (.aload_n 0, 13, [0], 0, 0, []) := And.intro dX5_addStep_12 (And.intro rfl (rfl))
theorem oX5_addStep_13 : OKI 26 13 (.getfield 15, 16, [6, 6, 0], 0, 0, []) := And.intro dX5_addStep_13 (And.intro rfl (⟨(RX5, TX5, 13), "SpotTimers$Rule", rfl, by decide, tm_1 _ (List.mem_of_getElem? (i := 101) rfl) rfl, Or.inl rfl, Or.inr (Or.inr (And.intro rfl (Or.inl rfl)))⟩))
theorem oX5_addStep_16 : OKI 26 16 (.aload_n 0, 17, [0], 0, 0, []) := And.intro dX5_addStep_16 (And.intro rfl (rfl))
theorem oX5_addStep_17 : OKI 26 17 (.getfield 56, 20, [6, 5, 2, 105, 0], 0, 0, []) := And.intro dX5_addStep_17 (And.intro rfl (⟨(RX5, TX5, 13), "SpotTimers$Rule", rfl, by decide, tm_1 _ (List.mem_of_getElem? (i := 100) rfl) rfl, Or.inl rfl, rfl, rfl⟩))
theorem oX5_addStep_20 : OKI 26 20 (.arraylength, 21, [], 0, 0, []) := And.intro dX5_addStep_20 rfl
theorem oX5_addStep_21 : OKI 26 21 (.if_icmp .ge 33, 24, [54], 0, 0, []) := And.intro dX5_addStep_21 (And.intro rfl (by decide))
theorem oX5_addStep_24 : OKI 26 24 (.aload_n 0, 25, [0], 0, 0, []) := And.intro dX5_addStep_24 (And.intro rfl (rfl))
theorem oX5_addStep_25 : OKI 26 25 (.getfield 53, 28, [6, 4, 2, 104, 0], 0, 0, []) := And.intro dX5_addStep_25 (And.intro rfl (⟨(RX5, TX5, 13), "SpotTimers$Rule", rfl, by decide, tm_1 _ (List.mem_of_getElem? (i := 99) rfl) rfl, Or.inl rfl, rfl, rfl⟩))
theorem oX5_addStep_28 : OKI 26 28 (.aload_n 0, 29, [0], 0, 0, []) := And.intro dX5_addStep_28 (And.intro rfl (rfl))
theorem oX5_addStep_29 : OKI 26 29 (.getfield 15, 32, [6, 6, 0], 0, 0, []) := And.intro dX5_addStep_29 (And.intro rfl (⟨(RX5, TX5, 13), "SpotTimers$Rule", rfl, by decide, tm_1 _ (List.mem_of_getElem? (i := 101) rfl) rfl, Or.inl rfl, Or.inr (Or.inr (And.intro rfl (Or.inl rfl)))⟩))
theorem oX5_addStep_32 : OKI 26 32 (.iload_n 1, 33, [1], 0, 0, []) := And.intro dX5_addStep_32 (And.intro rfl (rfl))
theorem oX5_addStep_33 : OKI 26 33 (.iastore, 34, [], 0, 0, []) := And.intro dX5_addStep_33 rfl
theorem oX5_addStep_34 : OKI 26 34 (.aload_n 0, 35, [0], 0, 0, []) := And.intro dX5_addStep_34 (And.intro rfl (rfl))
theorem oX5_addStep_35 : OKI 26 35 (.getfield 56, 38, [6, 5, 2, 105, 0], 0, 0, []) := And.intro dX5_addStep_35 (And.intro rfl (⟨(RX5, TX5, 13), "SpotTimers$Rule", rfl, by decide, tm_1 _ (List.mem_of_getElem? (i := 100) rfl) rfl, Or.inl rfl, rfl, rfl⟩))
theorem oX5_addStep_38 : OKI 26 38 (.aload_n 0, 39, [0], 0, 0, []) := And.intro dX5_addStep_38 (And.intro rfl (rfl))
theorem oX5_addStep_39 : OKI 26 39 (.getfield 15, 42, [6, 6, 0], 0, 0, []) := And.intro dX5_addStep_39 (And.intro rfl (⟨(RX5, TX5, 13), "SpotTimers$Rule", rfl, by decide, tm_1 _ (List.mem_of_getElem? (i := 101) rfl) rfl, Or.inl rfl, Or.inr (Or.inr (And.intro rfl (Or.inl rfl)))⟩))
theorem oX5_addStep_42 : OKI 26 42 (.iload_n 2, 43, [2], 0, 0, []) := And.intro dX5_addStep_42 (And.intro rfl (rfl))
theorem oX5_addStep_43 : OKI 26 43 (.iastore, 44, [], 0, 0, []) := And.intro dX5_addStep_43 rfl
theorem oX5_addStep_44 : OKI 26 44 (.aload_n 0, 45, [0], 0, 0, []) := And.intro dX5_addStep_44 (And.intro rfl (rfl))
theorem oX5_addStep_45 : OKI 26 45 (.dup, 46, [], 0, 0, []) := And.intro dX5_addStep_45 rfl
theorem oX5_addStep_46 : OKI 26 46 (.getfield 15, 49, [6, 6, 0], 0, 0, []) := And.intro dX5_addStep_46 (And.intro rfl (⟨(RX5, TX5, 13), "SpotTimers$Rule", rfl, by decide, tm_1 _ (List.mem_of_getElem? (i := 101) rfl) rfl, Or.inl rfl, Or.inr (Or.inr (And.intro rfl (Or.inl rfl)))⟩))
theorem oX5_addStep_49 : OKI 26 49 (.iconst 1, 50, [], 1, 0, []) := And.intro dX5_addStep_49 (And.intro rfl (by decide +kernel))
theorem oX5_addStep_50 : OKI 26 50 (.iadd, 51, [], 0, 0, []) := And.intro dX5_addStep_50 rfl
theorem oX5_addStep_51 : OKI 26 51 (.putfield 15, 54, [6, 6, 0], 0, 0, []) := And.intro dX5_addStep_51 (And.intro rfl (⟨(RX5, TX5, 13), "SpotTimers$Rule", rfl, by decide, tm_1 _ (List.mem_of_getElem? (i := 101) rfl) rfl, Or.inl rfl, Or.inl rfl, rfl⟩))
theorem oX5_addStep_54 : OKI 26 54 (.return_, 55, [], 0, 0, []) := And.intro dX5_addStep_54 rfl
def pfX5_addStep (pc : Nat) : Option XE := (bif Nat.blt pc 29 then (bif Nat.blt pc 13 then (bif Nat.blt pc 5 then (bif Nat.blt pc 1 then (bif Nat.beq pc 0 then some (.aload_n 0, 1, [0], 0, 0, []) else none) else (bif Nat.blt pc 4 then (bif Nat.beq pc 1 then some (.getfield 15, 4, [6, 6, 0], 0, 0, []) else none) else (bif Nat.beq pc 4 then some (.aload_n 0, 5, [0], 0, 0, []) else none))) else (bif Nat.blt pc 9 then (bif Nat.blt pc 8 then (bif Nat.beq pc 5 then some (.getfield 53, 8, [6, 4, 2, 104, 0], 0, 0, []) else none) else (bif Nat.beq pc 8 then some (.arraylength, 9, [], 0, 0, []) else none)) else (bif Nat.blt pc 12 then (bif Nat.beq pc 9 then some (.if_icmp .ge 45, 12, [54], 0, 0, []) else none) else (bif Nat.beq pc 12 then some (.aload_n 0, 13, [0], 0, 0, []) else none)))) else (bif Nat.blt pc 21 then (bif Nat.blt pc 17 then (bif Nat.blt pc 16 then (bif Nat.beq pc 13 then some (.getfield 15, 16, [6, 6, 0], 0, 0, []) else none) else (bif Nat.beq pc 16 then some (.aload_n 0, 17, [0], 0, 0, []) else none)) else (bif Nat.blt pc 20 then (bif Nat.beq pc 17 then some (.getfield 56, 20, [6, 5, 2, 105, 0], 0, 0, []) else none) else (bif Nat.beq pc 20 then some (.arraylength, 21, [], 0, 0, []) else none))) else (bif Nat.blt pc 25 then (bif Nat.blt pc 24 then (bif Nat.beq pc 21 then some (.if_icmp .ge 33, 24, [54], 0, 0, []) else none) else (bif Nat.beq pc 24 then some (.aload_n 0, 25, [0], 0, 0, []) else none)) else (bif Nat.blt pc 28 then (bif Nat.beq pc 25 then some (.getfield 53, 28, [6, 4, 2, 104, 0], 0, 0, []) else none) else (bif Nat.beq pc 28 then some (.aload_n 0, 29, [0], 0, 0, []) else none))))) else (bif Nat.blt pc 43 then (bif Nat.blt pc 35 then (bif Nat.blt pc 33 then (bif Nat.blt pc 32 then (bif Nat.beq pc 29 then some (.getfield 15, 32, [6, 6, 0], 0, 0, []) else none) else (bif Nat.beq pc 32 then some (.iload_n 1, 33, [1], 0, 0, []) else none)) else (bif Nat.blt pc 34 then (bif Nat.beq pc 33 then some (.iastore, 34, [], 0, 0, []) else none) else (bif Nat.beq pc 34 then some (.aload_n 0, 35, [0], 0, 0, []) else none))) else (bif Nat.blt pc 39 then (bif Nat.blt pc 38 then (bif Nat.beq pc 35 then some (.getfield 56, 38, [6, 5, 2, 105, 0], 0, 0, []) else none) else (bif Nat.beq pc 38 then some (.aload_n 0, 39, [0], 0, 0, []) else none)) else (bif Nat.blt pc 42 then (bif Nat.beq pc 39 then some (.getfield 15, 42, [6, 6, 0], 0, 0, []) else none) else (bif Nat.beq pc 42 then some (.iload_n 2, 43, [2], 0, 0, []) else none)))) else (bif Nat.blt pc 49 then (bif Nat.blt pc 45 then (bif Nat.blt pc 44 then (bif Nat.beq pc 43 then some (.iastore, 44, [], 0, 0, []) else none) else (bif Nat.beq pc 44 then some (.aload_n 0, 45, [0], 0, 0, []) else none)) else (bif Nat.blt pc 46 then (bif Nat.beq pc 45 then some (.dup, 46, [], 0, 0, []) else none) else (bif Nat.beq pc 46 then some (.getfield 15, 49, [6, 6, 0], 0, 0, []) else none))) else (bif Nat.blt pc 51 then (bif Nat.blt pc 50 then (bif Nat.beq pc 49 then some (.iconst 1, 50, [], 1, 0, []) else none) else (bif Nat.beq pc 50 then some (.iadd, 51, [], 0, 0, []) else none)) else (bif Nat.blt pc 54 then (bif Nat.beq pc 51 then some (.putfield 15, 54, [6, 6, 0], 0, 0, []) else none) else (bif Nat.beq pc 54 then some (.return_, 55, [], 0, 0, []) else none))))))
theorem okX5_addStep : ∀ pc Y, pfX5_addStep pc = some Y → OKI m_X5_addStep pc Y := fun pc Y => ((bt_node (bt_node (bt_node (bt_node (bt_leaf (P := OKI m_X5_addStep) oX5_addStep_0) (bt_node (bt_leaf (P := OKI m_X5_addStep) oX5_addStep_1) (bt_leaf (P := OKI m_X5_addStep) oX5_addStep_4))) (bt_node (bt_node (bt_leaf (P := OKI m_X5_addStep) oX5_addStep_5) (bt_leaf (P := OKI m_X5_addStep) oX5_addStep_8)) (bt_node (bt_leaf (P := OKI m_X5_addStep) oX5_addStep_9) (bt_leaf (P := OKI m_X5_addStep) oX5_addStep_12)))) (bt_node (bt_node (bt_node (bt_leaf (P := OKI m_X5_addStep) oX5_addStep_13) (bt_leaf (P := OKI m_X5_addStep) oX5_addStep_16)) (bt_node (bt_leaf (P := OKI m_X5_addStep) oX5_addStep_17) (bt_leaf (P := OKI m_X5_addStep) oX5_addStep_20))) (bt_node (bt_node (bt_leaf (P := OKI m_X5_addStep) oX5_addStep_21) (bt_leaf (P := OKI m_X5_addStep) oX5_addStep_24)) (bt_node (bt_leaf (P := OKI m_X5_addStep) oX5_addStep_25) (bt_leaf (P := OKI m_X5_addStep) oX5_addStep_28))))) (bt_node (bt_node (bt_node (bt_node (bt_leaf (P := OKI m_X5_addStep) oX5_addStep_29) (bt_leaf (P := OKI m_X5_addStep) oX5_addStep_32)) (bt_node (bt_leaf (P := OKI m_X5_addStep) oX5_addStep_33) (bt_leaf (P := OKI m_X5_addStep) oX5_addStep_34))) (bt_node (bt_node (bt_leaf (P := OKI m_X5_addStep) oX5_addStep_35) (bt_leaf (P := OKI m_X5_addStep) oX5_addStep_38)) (bt_node (bt_leaf (P := OKI m_X5_addStep) oX5_addStep_39) (bt_leaf (P := OKI m_X5_addStep) oX5_addStep_42)))) (bt_node (bt_node (bt_node (bt_leaf (P := OKI m_X5_addStep) oX5_addStep_43) (bt_leaf (P := OKI m_X5_addStep) oX5_addStep_44)) (bt_node (bt_leaf (P := OKI m_X5_addStep) oX5_addStep_45) (bt_leaf (P := OKI m_X5_addStep) oX5_addStep_46))) (bt_node (bt_node (bt_leaf (P := OKI m_X5_addStep) oX5_addStep_49) (bt_leaf (P := OKI m_X5_addStep) oX5_addStep_50)) (bt_node (bt_leaf (P := OKI m_X5_addStep) oX5_addStep_51) (bt_leaf (P := OKI m_X5_addStep) oX5_addStep_54)))))) : pfX5_addStep pc = some Y → OKI m_X5_addStep pc Y)
def stpX5_addStep (pc : Nat) : Option (List Bool) := (bif Nat.beq pc 54 then some [false, false, false] else none)
def bX5_addStep_0 (d rc rs : Nat) (t : Nat) (a1 : Int32) (a2 : Int32) (σ : XH) (Q : XV → XH → Prop) : Prop :=
  (((hr σ 6 t 4 = some (104, t) ∧ ((((hi σ 6 t 6) < (Int32.ofNat (hn σ 104 t)) → (((hr σ 6 t 5 = some (105, t) ∧ ((((hi σ 6 t 6) < (Int32.ofNat (hn σ 105 t)) → ((hr σ 6 t 4 = some (104, t) ∧ (((vp_in (hi σ 6 t 6) (hn σ 104 t) ∧ (∀ h1, h1 = wI σ 104 t (hi σ 6 t 6).toNatClampNeg a1 → ((hr h1 6 t 5 = some (105, t) ∧ (((vp_in (hi h1 6 t 6) (hn h1 105 t) ∧ (∀ h2, h2 = wI h1 105 t (hi h1 6 t 6).toNatClampNeg a2 → (((∀ h3, h3 = wI h2 6 t 6 ((hi h2 6 t 6) + 1) → Ex d rc rs m_X5_addStep 54 [vU, vU, vU] [] h3 Q)))))))))))))))) ∧ (¬ (hi σ 6 t 6) < (Int32.ofNat (hn σ 105 t)) → Ex d rc rs m_X5_addStep 54 [vU, vU, vU] [] σ Q))))))) ∧ (¬ (hi σ 6 t 6) < (Int32.ofNat (hn σ 104 t)) → Ex d rc rs m_X5_addStep 54 [vU, vU, vU] [] σ Q))))))
theorem sX5_addStep_0 {d rc rs : Nat} {t : Nat} {a1 : Int32} {a2 : Int32} {σ : XH} {Q : XV → XH → Prop} (h : bX5_addStep_0 d rc rs t a1 a2 σ Q) : Ex d rc rs m_X5_addStep 0 [vR (some (6, t)), vI a1, vI a2] [] σ Q :=
  xtree_sound (stop := stpX5_addStep) okX5_addStep 32 _ _ _ _ _ _ h
def bX5_addStep_54 (d rc rs : Nat)  (σ : XH) (Q : XV → XH → Prop) : Prop :=
  Q vU σ
theorem sX5_addStep_54 {d rc rs : Nat}  {σ : XH} {Q : XV → XH → Prop} (h : bX5_addStep_54 d rc rs  σ Q) : Ex d rc rs m_X5_addStep 54 [vU, vU, vU] [] σ Q :=
  xtree_sound (stop := stpX5_addStep) okX5_addStep 3 _ _ _ _ _ _ h
/-! SpotTimers$Rule.strikesOut(LSpotTimers$Reading;I)Z -/
theorem dX5_strikesOut_0 : decode cX5_strikesOut 0 = .ok (.lconst 0, 1) := by decide +kernel
theorem dX5_strikesOut_1 : decode cX5_strikesOut 1 = .ok (.lstore_n 3, 1) := by decide +kernel
theorem dX5_strikesOut_2 : decode cX5_strikesOut 2 = .ok (.iconst 0, 1) := by decide +kernel
theorem dX5_strikesOut_3 : decode cX5_strikesOut 3 = .ok (.istore 5, 2) := by decide +kernel
theorem dX5_strikesOut_5 : decode cX5_strikesOut 5 = .ok (.iload 5, 2) := by decide +kernel
theorem dX5_strikesOut_7 : decode cX5_strikesOut 7 = .ok (.aload_n 0, 1) := by decide +kernel
theorem dX5_strikesOut_8 : decode cX5_strikesOut 8 = .ok (.getfield 15, 3) := by decide +kernel
theorem dX5_strikesOut_11 : decode cX5_strikesOut 11 = .ok (.if_icmp .ge 115, 3) := by decide +kernel
theorem dX5_strikesOut_14 : decode cX5_strikesOut 14 = .ok (.aload_n 0, 1) := by decide +kernel
theorem dX5_strikesOut_15 : decode cX5_strikesOut 15 = .ok (.getfield 53, 3) := by decide +kernel
theorem dX5_strikesOut_18 : decode cX5_strikesOut 18 = .ok (.iload 5, 2) := by decide +kernel
theorem dX5_strikesOut_20 : decode cX5_strikesOut 20 = .ok (.iaload, 1) := by decide +kernel
theorem dX5_strikesOut_21 : decode cX5_strikesOut 21 = .ok (.lookupswitch 66 #[(33, 35), (38, 42), (124, 55)], 35) := by decide +kernel
theorem dX5_strikesOut_56 : decode cX5_strikesOut 56 = .ok (.lload_n 3, 1) := by decide +kernel
theorem dX5_strikesOut_57 : decode cX5_strikesOut 57 = .ok (.lconst 1, 1) := by decide +kernel
theorem dX5_strikesOut_58 : decode cX5_strikesOut 58 = .ok (.lxor, 1) := by decide +kernel
theorem dX5_strikesOut_59 : decode cX5_strikesOut 59 = .ok (.lstore_n 3, 1) := by decide +kernel
theorem dX5_strikesOut_60 : decode cX5_strikesOut 60 = .ok (.goto 60, 3) := by decide +kernel
theorem dX5_strikesOut_63 : decode cX5_strikesOut 63 = .ok (.lload_n 3, 1) := by decide +kernel
theorem dX5_strikesOut_64 : decode cX5_strikesOut 64 = .ok (.iconst 1, 1) := by decide +kernel
theorem dX5_strikesOut_65 : decode cX5_strikesOut 65 = .ok (.lushr, 1) := by decide +kernel
theorem dX5_strikesOut_66 : decode cX5_strikesOut 66 = .ok (.lload_n 3, 1) := by decide +kernel
theorem dX5_strikesOut_67 : decode cX5_strikesOut 67 = .ok (.ldc2_w 63, 3) := by decide +kernel
theorem dX5_strikesOut_70 : decode cX5_strikesOut 70 = .ok (.lor, 1) := by decide +kernel
theorem dX5_strikesOut_71 : decode cX5_strikesOut 71 = .ok (.land, 1) := by decide +kernel
theorem dX5_strikesOut_72 : decode cX5_strikesOut 72 = .ok (.lstore_n 3, 1) := by decide +kernel
theorem dX5_strikesOut_73 : decode cX5_strikesOut 73 = .ok (.goto 47, 3) := by decide +kernel
theorem dX5_strikesOut_76 : decode cX5_strikesOut 76 = .ok (.lload_n 3, 1) := by decide +kernel
theorem dX5_strikesOut_77 : decode cX5_strikesOut 77 = .ok (.iconst 1, 1) := by decide +kernel
theorem dX5_strikesOut_78 : decode cX5_strikesOut 78 = .ok (.lushr, 1) := by decide +kernel
theorem dX5_strikesOut_79 : decode cX5_strikesOut 79 = .ok (.lload_n 3, 1) := by decide +kernel
theorem dX5_strikesOut_80 : decode cX5_strikesOut 80 = .ok (.lconst 1, 1) := by decide +kernel
theorem dX5_strikesOut_81 : decode cX5_strikesOut 81 = .ok (.land, 1) := by decide +kernel
theorem dX5_strikesOut_82 : decode cX5_strikesOut 82 = .ok (.lor, 1) := by decide +kernel
theorem dX5_strikesOut_83 : decode cX5_strikesOut 83 = .ok (.lstore_n 3, 1) := by decide +kernel
theorem dX5_strikesOut_84 : decode cX5_strikesOut 84 = .ok (.goto 36, 3) := by decide +kernel
theorem dX5_strikesOut_87 : decode cX5_strikesOut 87 = .ok (.lload_n 3, 1) := by decide +kernel
theorem dX5_strikesOut_88 : decode cX5_strikesOut 88 = .ok (.iconst 1, 1) := by decide +kernel
theorem dX5_strikesOut_89 : decode cX5_strikesOut 89 = .ok (.lshl, 1) := by decide +kernel
theorem dX5_strikesOut_90 : decode cX5_strikesOut 90 = .ok (.aload_n 0, 1) := by decide +kernel
theorem dX5_strikesOut_91 : decode cX5_strikesOut 91 = .ok (.getfield 53, 3) := by decide +kernel
theorem dX5_strikesOut_94 : decode cX5_strikesOut 94 = .ok (.iload 5, 2) := by decide +kernel
theorem dX5_strikesOut_96 : decode cX5_strikesOut 96 = .ok (.iaload, 1) := by decide +kernel
theorem dX5_strikesOut_97 : decode cX5_strikesOut 97 = .ok (.aload_n 0, 1) := by decide +kernel
theorem dX5_strikesOut_98 : decode cX5_strikesOut 98 = .ok (.getfield 56, 3) := by decide +kernel
theorem dX5_strikesOut_101 : decode cX5_strikesOut 101 = .ok (.iload 5, 2) := by decide +kernel
theorem dX5_strikesOut_103 : decode cX5_strikesOut 103 = .ok (.iaload, 1) := by decide +kernel
theorem dX5_strikesOut_104 : decode cX5_strikesOut 104 = .ok (.aload_n 1, 1) := by decide +kernel
theorem dX5_strikesOut_105 : decode cX5_strikesOut 105 = .ok (.iload_n 2, 1) := by decide +kernel
theorem dX5_strikesOut_106 : decode cX5_strikesOut 106 = .ok (.invokestatic 65, 3) := by decide +kernel
theorem dX5_strikesOut_109 : decode cX5_strikesOut 109 = .ok (.ifCond .eq 7, 3) := by decide +kernel
theorem dX5_strikesOut_112 : decode cX5_strikesOut 112 = .ok (.iconst 1, 1) := by decide +kernel
theorem dX5_strikesOut_113 : decode cX5_strikesOut 113 = .ok (.goto 4, 3) := by decide +kernel
theorem dX5_strikesOut_116 : decode cX5_strikesOut 116 = .ok (.iconst 0, 1) := by decide +kernel
theorem dX5_strikesOut_117 : decode cX5_strikesOut 117 = .ok (.i2l, 1) := by decide +kernel
theorem dX5_strikesOut_118 : decode cX5_strikesOut 118 = .ok (.lor, 1) := by decide +kernel
theorem dX5_strikesOut_119 : decode cX5_strikesOut 119 = .ok (.lstore_n 3, 1) := by decide +kernel
theorem dX5_strikesOut_120 : decode cX5_strikesOut 120 = .ok (.iinc 5 1, 3) := by decide +kernel
theorem dX5_strikesOut_123 : decode cX5_strikesOut 123 = .ok (.goto (-118), 3) := by decide +kernel
theorem dX5_strikesOut_126 : decode cX5_strikesOut 126 = .ok (.lload_n 3, 1) := by decide +kernel
theorem dX5_strikesOut_127 : decode cX5_strikesOut 127 = .ok (.lconst 1, 1) := by decide +kernel
theorem dX5_strikesOut_128 : decode cX5_strikesOut 128 = .ok (.land, 1) := by decide +kernel
theorem dX5_strikesOut_129 : decode cX5_strikesOut 129 = .ok (.lconst 1, 1) := by decide +kernel
theorem dX5_strikesOut_130 : decode cX5_strikesOut 130 = .ok (.lcmp, 1) := by decide +kernel
theorem dX5_strikesOut_131 : decode cX5_strikesOut 131 = .ok (.ifCond .ne 7, 3) := by decide +kernel
theorem dX5_strikesOut_134 : decode cX5_strikesOut 134 = .ok (.iconst 1, 1) := by decide +kernel
theorem dX5_strikesOut_135 : decode cX5_strikesOut 135 = .ok (.goto 4, 3) := by decide +kernel
theorem dX5_strikesOut_138 : decode cX5_strikesOut 138 = .ok (.iconst 0, 1) := by decide +kernel
theorem dX5_strikesOut_139 : decode cX5_strikesOut 139 = .ok (.ireturn, 1) := by decide +kernel
theorem oX5_strikesOut_0 : OKI 27 0 (.lconst 0, 1, [], 0, 0, []) := And.intro dX5_strikesOut_0 (And.intro rfl (by decide +kernel))
theorem oX5_strikesOut_1 : OKI 27 1 (.lstore_n 3, 2, [3], 0, 0, []) := And.intro dX5_strikesOut_1 (And.intro rfl (And.intro rfl (by decide)))
theorem oX5_strikesOut_2 : OKI 27 2 (.iconst 0, 3, [], 0, 0, []) := And.intro dX5_strikesOut_2 (And.intro rfl (by decide +kernel))
theorem oX5_strikesOut_3 : OKI 27 3 (.istore 5, 5, [5], 0, 0, []) := And.intro dX5_strikesOut_3 (And.intro rfl (And.intro rfl (by decide)))
theorem oX5_strikesOut_5 : OKI 27 5 (.iload 5, 7, [5], 0, 0, []) := And.intro dX5_strikesOut_5 (And.intro rfl (rfl))
theorem oX5_strikesOut_7 : OKI 27 7 (.aload_n 0, 8, [0], 0, 0, []) := And.intro dX5_strikesOut_7 (And.intro rfl (rfl))
theorem oX5_strikesOut_8 : OKI 27 8 (.getfield 15, 11, [6, 6, 0], 0, 0, []) := And.intro dX5_strikesOut_8 (And.intro rfl (⟨(RX5, TX5, 13), "SpotTimers$Rule", rfl, by decide, tm_1 _ (List.mem_of_getElem? (i := 101) rfl) rfl, Or.inl rfl, Or.inr (Or.inr (And.intro rfl (Or.inl rfl)))⟩))
theorem oX5_strikesOut_11 : OKI 27 11 (.if_icmp .ge 115, 14, [126], 0, 0, []) := And.intro dX5_strikesOut_11 (And.intro rfl (by decide))
theorem oX5_strikesOut_14 : OKI 27 14 (.aload_n 0, 15, [0], 0, 0, []) := And.intro dX5_strikesOut_14 (And.intro rfl (rfl))
theorem oX5_strikesOut_15 : OKI 27 15 (.getfield 53, 18, [6, 4, 2, 104, 0], 0, 0, []) := And.intro dX5_strikesOut_15 (And.intro rfl (⟨(RX5, TX5, 13), "SpotTimers$Rule", rfl, by decide, tm_1 _ (List.mem_of_getElem? (i := 99) rfl) rfl, Or.inl rfl, rfl, rfl⟩))
theorem oX5_strikesOut_18 : OKI 27 18 (.iload 5, 20, [5], 0, 0, []) := And.intro dX5_strikesOut_18 (And.intro rfl (rfl))
theorem oX5_strikesOut_20 : OKI 27 20 (.iaload, 21, [], 0, 0, []) := And.intro dX5_strikesOut_20 rfl
theorem oX5_strikesOut_21 : OKI 27 21 (.lookupswitch 66 #[(33, 35), (38, 42), (124, 55)], 56, [87], 0, 0, [(33, 56), (38, 63), (124, 76)]) := And.intro ⟨_, dX5_strikesOut_21⟩ (by decide +kernel)
theorem oX5_strikesOut_56 : OKI 27 56 (.lload_n 3, 57, [3], 0, 0, []) := And.intro dX5_strikesOut_56 (And.intro rfl (rfl))
theorem oX5_strikesOut_57 : OKI 27 57 (.lconst 1, 58, [], 0, 1, []) := And.intro dX5_strikesOut_57 (And.intro rfl (by decide +kernel))
theorem oX5_strikesOut_58 : OKI 27 58 (.lxor, 59, [], 0, 0, []) := And.intro dX5_strikesOut_58 rfl
theorem oX5_strikesOut_59 : OKI 27 59 (.lstore_n 3, 60, [3], 0, 0, []) := And.intro dX5_strikesOut_59 (And.intro rfl (And.intro rfl (by decide)))
theorem oX5_strikesOut_60 : OKI 27 60 (.goto 60, 63, [120], 0, 0, []) := And.intro dX5_strikesOut_60 (And.intro rfl (by decide))
theorem oX5_strikesOut_63 : OKI 27 63 (.lload_n 3, 64, [3], 0, 0, []) := And.intro dX5_strikesOut_63 (And.intro rfl (rfl))
theorem oX5_strikesOut_64 : OKI 27 64 (.iconst 1, 65, [], 1, 0, []) := And.intro dX5_strikesOut_64 (And.intro rfl (by decide +kernel))
theorem oX5_strikesOut_65 : OKI 27 65 (.lushr, 66, [], 0, 0, []) := And.intro dX5_strikesOut_65 rfl
theorem oX5_strikesOut_66 : OKI 27 66 (.lload_n 3, 67, [3], 0, 0, []) := And.intro dX5_strikesOut_66 (And.intro rfl (rfl))
theorem oX5_strikesOut_67 : OKI 27 67 (.ldc2_w 63, 70, [], 0, (-2), []) := And.intro dX5_strikesOut_67 (And.intro rfl (tm_4 _ (List.mem_of_getElem? (i := 171) rfl) rfl))
theorem oX5_strikesOut_70 : OKI 27 70 (.lor, 71, [], 0, 0, []) := And.intro dX5_strikesOut_70 rfl
theorem oX5_strikesOut_71 : OKI 27 71 (.land, 72, [], 0, 0, []) := And.intro dX5_strikesOut_71 rfl
theorem oX5_strikesOut_72 : OKI 27 72 (.lstore_n 3, 73, [3], 0, 0, []) := And.intro dX5_strikesOut_72 (And.intro rfl (And.intro rfl (by decide)))
theorem oX5_strikesOut_73 : OKI 27 73 (.goto 47, 76, [120], 0, 0, []) := And.intro dX5_strikesOut_73 (And.intro rfl (by decide))
theorem oX5_strikesOut_76 : OKI 27 76 (.lload_n 3, 77, [3], 0, 0, []) := And.intro dX5_strikesOut_76 (And.intro rfl (rfl))
theorem oX5_strikesOut_77 : OKI 27 77 (.iconst 1, 78, [], 1, 0, []) := And.intro dX5_strikesOut_77 (And.intro rfl (by decide +kernel))
theorem oX5_strikesOut_78 : OKI 27 78 (.lushr, 79, [], 0, 0, []) := And.intro dX5_strikesOut_78 rfl
theorem oX5_strikesOut_79 : OKI 27 79 (.lload_n 3, 80, [3], 0, 0, []) := And.intro dX5_strikesOut_79 (And.intro rfl (rfl))
theorem oX5_strikesOut_80 : OKI 27 80 (.lconst 1, 81, [], 0, 1, []) := And.intro dX5_strikesOut_80 (And.intro rfl (by decide +kernel))
theorem oX5_strikesOut_81 : OKI 27 81 (.land, 82, [], 0, 0, []) := And.intro dX5_strikesOut_81 rfl
theorem oX5_strikesOut_82 : OKI 27 82 (.lor, 83, [], 0, 0, []) := And.intro dX5_strikesOut_82 rfl
theorem oX5_strikesOut_83 : OKI 27 83 (.lstore_n 3, 84, [3], 0, 0, []) := And.intro dX5_strikesOut_83 (And.intro rfl (And.intro rfl (by decide)))
theorem oX5_strikesOut_84 : OKI 27 84 (.goto 36, 87, [120], 0, 0, []) := And.intro dX5_strikesOut_84 (And.intro rfl (by decide))
theorem oX5_strikesOut_87 : OKI 27 87 (.lload_n 3, 88, [3], 0, 0, []) := And.intro dX5_strikesOut_87 (And.intro rfl (rfl))
theorem oX5_strikesOut_88 : OKI 27 88 (.iconst 1, 89, [], 1, 0, []) := And.intro dX5_strikesOut_88 (And.intro rfl (by decide +kernel))
theorem oX5_strikesOut_89 : OKI 27 89 (.lshl, 90, [], 0, 0, []) := And.intro dX5_strikesOut_89 rfl
theorem oX5_strikesOut_90 : OKI 27 90 (.aload_n 0, 91, [0], 0, 0, []) := And.intro dX5_strikesOut_90 (And.intro rfl (rfl))
theorem oX5_strikesOut_91 : OKI 27 91 (.getfield 53, 94, [6, 4, 2, 104, 0], 0, 0, []) := And.intro dX5_strikesOut_91 (And.intro rfl (⟨(RX5, TX5, 13), "SpotTimers$Rule", rfl, by decide, tm_1 _ (List.mem_of_getElem? (i := 99) rfl) rfl, Or.inl rfl, rfl, rfl⟩))
theorem oX5_strikesOut_94 : OKI 27 94 (.iload 5, 96, [5], 0, 0, []) := And.intro dX5_strikesOut_94 (And.intro rfl (rfl))
theorem oX5_strikesOut_96 : OKI 27 96 (.iaload, 97, [], 0, 0, []) := And.intro dX5_strikesOut_96 rfl
theorem oX5_strikesOut_97 : OKI 27 97 (.aload_n 0, 98, [0], 0, 0, []) := And.intro dX5_strikesOut_97 (And.intro rfl (rfl))
theorem oX5_strikesOut_98 : OKI 27 98 (.getfield 56, 101, [6, 5, 2, 105, 0], 0, 0, []) := And.intro dX5_strikesOut_98 (And.intro rfl (⟨(RX5, TX5, 13), "SpotTimers$Rule", rfl, by decide, tm_1 _ (List.mem_of_getElem? (i := 100) rfl) rfl, Or.inl rfl, rfl, rfl⟩))
theorem oX5_strikesOut_101 : OKI 27 101 (.iload 5, 103, [5], 0, 0, []) := And.intro dX5_strikesOut_101 (And.intro rfl (rfl))
theorem oX5_strikesOut_103 : OKI 27 103 (.iaload, 104, [], 0, 0, []) := And.intro dX5_strikesOut_103 rfl
theorem oX5_strikesOut_104 : OKI 27 104 (.aload_n 1, 105, [1], 0, 0, []) := And.intro dX5_strikesOut_104 (And.intro rfl (rfl))
theorem oX5_strikesOut_105 : OKI 27 105 (.iload_n 2, 106, [2], 0, 0, []) := And.intro dX5_strikesOut_105 (And.intro rfl (rfl))
theorem oX5_strikesOut_106 : OKI 27 106 (.invokestatic 65, 109, [28, 4, 0, 0, 0, 1], 0, 0, []) := And.intro dX5_strikesOut_106 (And.intro rfl (And.intro rfl (And.intro mo_X5_holds (And.intro (Or.inl (tm_4 _ (List.mem_of_getElem? (i := 172) rfl) rfl)) (tm_4 _ (List.mem_of_getElem? (i := 173) rfl) rfl)))))
theorem oX5_strikesOut_109 : OKI 27 109 (.ifCond .eq 7, 112, [116], 0, 0, []) := And.intro dX5_strikesOut_109 (And.intro rfl (by decide))
theorem oX5_strikesOut_112 : OKI 27 112 (.iconst 1, 113, [], 1, 0, []) := And.intro dX5_strikesOut_112 (And.intro rfl (by decide +kernel))
theorem oX5_strikesOut_113 : OKI 27 113 (.goto 4, 116, [117], 0, 0, []) := And.intro dX5_strikesOut_113 (And.intro rfl (by decide))
theorem oX5_strikesOut_116 : OKI 27 116 (.iconst 0, 117, [], 0, 0, []) := And.intro dX5_strikesOut_116 (And.intro rfl (by decide +kernel))
theorem oX5_strikesOut_117 : OKI 27 117 (.i2l, 118, [], 0, 0, []) := And.intro dX5_strikesOut_117 rfl
theorem oX5_strikesOut_118 : OKI 27 118 (.lor, 119, [], 0, 0, []) := And.intro dX5_strikesOut_118 rfl
theorem oX5_strikesOut_119 : OKI 27 119 (.lstore_n 3, 120, [3], 0, 0, []) := And.intro dX5_strikesOut_119 (And.intro rfl (And.intro rfl (by decide)))
theorem oX5_strikesOut_120 : OKI 27 120 (.iinc 5 1, 123, [5], 1, 0, []) := And.intro dX5_strikesOut_120 (And.intro rfl (And.intro rfl (And.intro (by decide +kernel) (by decide))))
theorem oX5_strikesOut_123 : OKI 27 123 (.goto (-118), 126, [5], 0, 0, []) := And.intro dX5_strikesOut_123 (And.intro rfl (by decide))
theorem oX5_strikesOut_126 : OKI 27 126 (.lload_n 3, 127, [3], 0, 0, []) := And.intro dX5_strikesOut_126 (And.intro rfl (rfl))
theorem oX5_strikesOut_127 : OKI 27 127 (.lconst 1, 128, [], 0, 1, []) := And.intro dX5_strikesOut_127 (And.intro rfl (by decide +kernel))
theorem oX5_strikesOut_128 : OKI 27 128 (.land, 129, [], 0, 0, []) := And.intro dX5_strikesOut_128 rfl
theorem oX5_strikesOut_129 : OKI 27 129 (.lconst 1, 130, [], 0, 1, []) := And.intro dX5_strikesOut_129 (And.intro rfl (by decide +kernel))
theorem oX5_strikesOut_130 : OKI 27 130 (.lcmp, 131, [], 0, 0, []) := And.intro dX5_strikesOut_130 rfl
theorem oX5_strikesOut_131 : OKI 27 131 (.ifCond .ne 7, 134, [138], 0, 0, []) := And.intro dX5_strikesOut_131 (And.intro rfl (by decide))
theorem oX5_strikesOut_134 : OKI 27 134 (.iconst 1, 135, [], 1, 0, []) := And.intro dX5_strikesOut_134 (And.intro rfl (by decide +kernel))
theorem oX5_strikesOut_135 : OKI 27 135 (.goto 4, 138, [139], 0, 0, []) := And.intro dX5_strikesOut_135 (And.intro rfl (by decide))
theorem oX5_strikesOut_138 : OKI 27 138 (.iconst 0, 139, [], 0, 0, []) := And.intro dX5_strikesOut_138 (And.intro rfl (by decide +kernel))
theorem oX5_strikesOut_139 : OKI 27 139 (.ireturn, 140, [3], 0, 0, []) := And.intro dX5_strikesOut_139 (Or.inr (Or.inl (And.intro rfl rfl)))
def pfX5_strikesOut (pc : Nat) : Option XE := (bif Nat.blt pc 83 then (bif Nat.blt pc 60 then (bif Nat.blt pc 14 then (bif Nat.blt pc 5 then (bif Nat.blt pc 2 then (bif Nat.blt pc 1 then (bif Nat.beq pc 0 then some (.lconst 0, 1, [], 0, 0, []) else none) else (bif Nat.beq pc 1 then some (.lstore_n 3, 2, [3], 0, 0, []) else none)) else (bif Nat.blt pc 3 then (bif Nat.beq pc 2 then some (.iconst 0, 3, [], 0, 0, []) else none) else (bif Nat.beq pc 3 then some (.istore 5, 5, [5], 0, 0, []) else none))) else (bif Nat.blt pc 8 then (bif Nat.blt pc 7 then (bif Nat.beq pc 5 then some (.iload 5, 7, [5], 0, 0, []) else none) else (bif Nat.beq pc 7 then some (.aload_n 0, 8, [0], 0, 0, []) else none)) else (bif Nat.blt pc 11 then (bif Nat.beq pc 8 then some (.getfield 15, 11, [6, 6, 0], 0, 0, []) else none) else (bif Nat.beq pc 11 then some (.if_icmp .ge 115, 14, [126], 0, 0, []) else none)))) else (bif Nat.blt pc 21 then (bif Nat.blt pc 18 then (bif Nat.blt pc 15 then (bif Nat.beq pc 14 then some (.aload_n 0, 15, [0], 0, 0, []) else none) else (bif Nat.beq pc 15 then some (.getfield 53, 18, [6, 4, 2, 104, 0], 0, 0, []) else none)) else (bif Nat.blt pc 20 then (bif Nat.beq pc 18 then some (.iload 5, 20, [5], 0, 0, []) else none) else (bif Nat.beq pc 20 then some (.iaload, 21, [], 0, 0, []) else none))) else (bif Nat.blt pc 57 then (bif Nat.blt pc 56 then (bif Nat.beq pc 21 then some (.lookupswitch 66 #[(33, 35), (38, 42), (124, 55)], 56, [87], 0, 0, [(33, 56), (38, 63), (124, 76)]) else none) else (bif Nat.beq pc 56 then some (.lload_n 3, 57, [3], 0, 0, []) else none)) else (bif Nat.blt pc 58 then (bif Nat.beq pc 57 then some (.lconst 1, 58, [], 0, 1, []) else none) else (bif Nat.blt pc 59 then (bif Nat.beq pc 58 then some (.lxor, 59, [], 0, 0, []) else none) else (bif Nat.beq pc 59 then some (.lstore_n 3, 60, [3], 0, 0, []) else none)))))) else (bif Nat.blt pc 72 then (bif Nat.blt pc 66 then (bif Nat.blt pc 64 then (bif Nat.blt pc 63 then (bif Nat.beq pc 60 then some (.goto 60, 63, [120], 0, 0, []) else none) else (bif Nat.beq pc 63 then some (.lload_n 3, 64, [3], 0, 0, []) else none)) else (bif Nat.blt pc 65 then (bif Nat.beq pc 64 then some (.iconst 1, 65, [], 1, 0, []) else none) else (bif Nat.beq pc 65 then some (.lushr, 66, [], 0, 0, []) else none))) else (bif Nat.blt pc 70 then (bif Nat.blt pc 67 then (bif Nat.beq pc 66 then some (.lload_n 3, 67, [3], 0, 0, []) else none) else (bif Nat.beq pc 67 then some (.ldc2_w 63, 70, [], 0, (-2), []) else none)) else (bif Nat.blt pc 71 then (bif Nat.beq pc 70 then some (.lor, 71, [], 0, 0, []) else none) else (bif Nat.beq pc 71 then some (.land, 72, [], 0, 0, []) else none)))) else (bif Nat.blt pc 78 then (bif Nat.blt pc 76 then (bif Nat.blt pc 73 then (bif Nat.beq pc 72 then some (.lstore_n 3, 73, [3], 0, 0, []) else none) else (bif Nat.beq pc 73 then some (.goto 47, 76, [120], 0, 0, []) else none)) else (bif Nat.blt pc 77 then (bif Nat.beq pc 76 then some (.lload_n 3, 77, [3], 0, 0, []) else none) else (bif Nat.beq pc 77 then some (.iconst 1, 78, [], 1, 0, []) else none))) else (bif Nat.blt pc 80 then (bif Nat.blt pc 79 then (bif Nat.beq pc 78 then some (.lushr, 79, [], 0, 0, []) else none) else (bif Nat.beq pc 79 then some (.lload_n 3, 80, [3], 0, 0, []) else none)) else (bif Nat.blt pc 81 then (bif Nat.beq pc 80 then some (.lconst 1, 81, [], 0, 1, []) else none) else (bif Nat.blt pc 82 then (bif Nat.beq pc 81 then some (.land, 82, [], 0, 0, []) else none) else (bif Nat.beq pc 82 then some (.lor, 83, [], 0, 0, []) else none))))))) else (bif Nat.blt pc 112 then (bif Nat.blt pc 96 then (bif Nat.blt pc 89 then (bif Nat.blt pc 87 then (bif Nat.blt pc 84 then (bif Nat.beq pc 83 then some (.lstore_n 3, 84, [3], 0, 0, []) else none) else (bif Nat.beq pc 84 then some (.goto 36, 87, [120], 0, 0, []) else none)) else (bif Nat.blt pc 88 then (bif Nat.beq pc 87 then some (.lload_n 3, 88, [3], 0, 0, []) else none) else (bif Nat.beq pc 88 then some (.iconst 1, 89, [], 1, 0, []) else none))) else (bif Nat.blt pc 91 then (bif Nat.blt pc 90 then (bif Nat.beq pc 89 then some (.lshl, 90, [], 0, 0, []) else none) else (bif Nat.beq pc 90 then some (.aload_n 0, 91, [0], 0, 0, []) else none)) else (bif Nat.blt pc 94 then (bif Nat.beq pc 91 then some (.getfield 53, 94, [6, 4, 2, 104, 0], 0, 0, []) else none) else (bif Nat.beq pc 94 then some (.iload 5, 96, [5], 0, 0, []) else none)))) else (bif Nat.blt pc 103 then (bif Nat.blt pc 98 then (bif Nat.blt pc 97 then (bif Nat.beq pc 96 then some (.iaload, 97, [], 0, 0, []) else none) else (bif Nat.beq pc 97 then some (.aload_n 0, 98, [0], 0, 0, []) else none)) else (bif Nat.blt pc 101 then (bif Nat.beq pc 98 then some (.getfield 56, 101, [6, 5, 2, 105, 0], 0, 0, []) else none) else (bif Nat.beq pc 101 then some (.iload 5, 103, [5], 0, 0, []) else none))) else (bif Nat.blt pc 105 then (bif Nat.blt pc 104 then (bif Nat.beq pc 103 then some (.iaload, 104, [], 0, 0, []) else none) else (bif Nat.beq pc 104 then some (.aload_n 1, 105, [1], 0, 0, []) else none)) else (bif Nat.blt pc 106 then (bif Nat.beq pc 105 then some (.iload_n 2, 106, [2], 0, 0, []) else none) else (bif Nat.blt pc 109 then (bif Nat.beq pc 106 then some (.invokestatic 65, 109, [28, 4, 0, 0, 0, 1], 0, 0, []) else none) else (bif Nat.beq pc 109 then some (.ifCond .eq 7, 112, [116], 0, 0, []) else none)))))) else (bif Nat.blt pc 127 then (bif Nat.blt pc 118 then (bif Nat.blt pc 116 then (bif Nat.blt pc 113 then (bif Nat.beq pc 112 then some (.iconst 1, 113, [], 1, 0, []) else none) else (bif Nat.beq pc 113 then some (.goto 4, 116, [117], 0, 0, []) else none)) else (bif Nat.blt pc 117 then (bif Nat.beq pc 116 then some (.iconst 0, 117, [], 0, 0, []) else none) else (bif Nat.beq pc 117 then some (.i2l, 118, [], 0, 0, []) else none))) else (bif Nat.blt pc 120 then (bif Nat.blt pc 119 then (bif Nat.beq pc 118 then some (.lor, 119, [], 0, 0, []) else none) else (bif Nat.beq pc 119 then some (.lstore_n 3, 120, [3], 0, 0, []) else none)) else (bif Nat.blt pc 123 then (bif Nat.beq pc 120 then some (.iinc 5 1, 123, [5], 1, 0, []) else none) else (bif Nat.blt pc 126 then (bif Nat.beq pc 123 then some (.goto (-118), 126, [5], 0, 0, []) else none) else (bif Nat.beq pc 126 then some (.lload_n 3, 127, [3], 0, 0, []) else none))))) else (bif Nat.blt pc 131 then (bif Nat.blt pc 129 then (bif Nat.blt pc 128 then (bif Nat.beq pc 127 then some (.lconst 1, 128, [], 0, 1, []) else none) else (bif Nat.beq pc 128 then some (.land, 129, [], 0, 0, []) else none)) else (bif Nat.blt pc 130 then (bif Nat.beq pc 129 then some (.lconst 1, 130, [], 0, 1, []) else none) else (bif Nat.beq pc 130 then some (.lcmp, 131, [], 0, 0, []) else none))) else (bif Nat.blt pc 135 then (bif Nat.blt pc 134 then (bif Nat.beq pc 131 then some (.ifCond .ne 7, 134, [138], 0, 0, []) else none) else (bif Nat.beq pc 134 then some (.iconst 1, 135, [], 1, 0, []) else none)) else (bif Nat.blt pc 138 then (bif Nat.beq pc 135 then some (.goto 4, 138, [139], 0, 0, []) else none) else (bif Nat.blt pc 139 then (bif Nat.beq pc 138 then some (.iconst 0, 139, [], 0, 0, []) else none) else (bif Nat.beq pc 139 then some (.ireturn, 140, [3], 0, 0, []) else none))))))))
theorem okX5_strikesOut : ∀ pc Y, pfX5_strikesOut pc = some Y → OKI m_X5_strikesOut pc Y := fun pc Y => ((bt_node (bt_node (bt_node (bt_node (bt_node (bt_node (bt_leaf (P := OKI m_X5_strikesOut) oX5_strikesOut_0) (bt_leaf (P := OKI m_X5_strikesOut) oX5_strikesOut_1)) (bt_node (bt_leaf (P := OKI m_X5_strikesOut) oX5_strikesOut_2) (bt_leaf (P := OKI m_X5_strikesOut) oX5_strikesOut_3))) (bt_node (bt_node (bt_leaf (P := OKI m_X5_strikesOut) oX5_strikesOut_5) (bt_leaf (P := OKI m_X5_strikesOut) oX5_strikesOut_7)) (bt_node (bt_leaf (P := OKI m_X5_strikesOut) oX5_strikesOut_8) (bt_leaf (P := OKI m_X5_strikesOut) oX5_strikesOut_11)))) (bt_node (bt_node (bt_node (bt_leaf (P := OKI m_X5_strikesOut) oX5_strikesOut_14) (bt_leaf (P := OKI m_X5_strikesOut) oX5_strikesOut_15)) (bt_node (bt_leaf (P := OKI m_X5_strikesOut) oX5_strikesOut_18) (bt_leaf (P := OKI m_X5_strikesOut) oX5_strikesOut_20))) (bt_node (bt_node (bt_leaf (P := OKI m_X5_strikesOut) oX5_strikesOut_21) (bt_leaf (P := OKI m_X5_strikesOut) oX5_strikesOut_56)) (bt_node (bt_leaf (P := OKI m_X5_strikesOut) oX5_strikesOut_57) (bt_node (bt_leaf (P := OKI m_X5_strikesOut) oX5_strikesOut_58) (bt_leaf (P := OKI m_X5_strikesOut) oX5_strikesOut_59)))))) (bt_node (bt_node (bt_node (bt_node (bt_leaf (P := OKI m_X5_strikesOut) oX5_strikesOut_60) (bt_leaf (P := OKI m_X5_strikesOut) oX5_strikesOut_63)) (bt_node (bt_leaf (P := OKI m_X5_strikesOut) oX5_strikesOut_64) (bt_leaf (P := OKI m_X5_strikesOut) oX5_strikesOut_65))) (bt_node (bt_node (bt_leaf (P := OKI m_X5_strikesOut) oX5_strikesOut_66) (bt_leaf (P := OKI m_X5_strikesOut) oX5_strikesOut_67)) (bt_node (bt_leaf (P := OKI m_X5_strikesOut) oX5_strikesOut_70) (bt_leaf (P := OKI m_X5_strikesOut) oX5_strikesOut_71)))) (bt_node (bt_node (bt_node (bt_leaf (P := OKI m_X5_strikesOut) oX5_strikesOut_72) (bt_leaf (P := OKI m_X5_strikesOut) oX5_strikesOut_73)) (bt_node (bt_leaf (P := OKI m_X5_strikesOut) oX5_strikesOut_76) (bt_leaf (P := OKI m_X5_strikesOut) oX5_strikesOut_77))) (bt_node (bt_node (bt_leaf (P := OKI m_X5_strikesOut) oX5_strikesOut_78) (bt_leaf (P := OKI m_X5_strikesOut) oX5_strikesOut_79)) (bt_node (bt_leaf (P := OKI m_X5_strikesOut) oX5_strikesOut_80) (bt_node (bt_leaf (P := OKI m_X5_strikesOut) oX5_strikesOut_81) (bt_leaf (P := OKI m_X5_strikesOut) oX5_strikesOut_82))))))) (bt_node (bt_node (bt_node (bt_node (bt_node (bt_leaf (P := OKI m_X5_strikesOut) oX5_strikesOut_83) (bt_leaf (P := OKI m_X5_strikesOut) oX5_strikesOut_84)) (bt_node (bt_leaf (P := OKI m_X5_strikesOut) oX5_strikesOut_87) (bt_leaf (P := OKI m_X5_strikesOut) oX5_strikesOut_88))) (bt_node (bt_node (bt_leaf (P := OKI m_X5_strikesOut) oX5_strikesOut_89) (bt_leaf (P := OKI m_X5_strikesOut) oX5_strikesOut_90)) (bt_node (bt_leaf (P := OKI m_X5_strikesOut) oX5_strikesOut_91) (bt_leaf (P := OKI m_X5_strikesOut) oX5_strikesOut_94)))) (bt_node (bt_node (bt_node (bt_leaf (P := OKI m_X5_strikesOut) oX5_strikesOut_96) (bt_leaf (P := OKI m_X5_strikesOut) oX5_strikesOut_97)) (bt_node (bt_leaf (P := OKI m_X5_strikesOut) oX5_strikesOut_98) (bt_leaf (P := OKI m_X5_strikesOut) oX5_strikesOut_101))) (bt_node (bt_node (bt_leaf (P := OKI m_X5_strikesOut) oX5_strikesOut_103) (bt_leaf (P := OKI m_X5_strikesOut) oX5_strikesOut_104)) (bt_node (bt_leaf (P := OKI m_X5_strikesOut) oX5_strikesOut_105) (bt_node (bt_leaf (P := OKI m_X5_strikesOut) oX5_strikesOut_106) (bt_leaf (P := OKI m_X5_strikesOut) oX5_strikesOut_109)))))) (bt_node (bt_node (bt_node (bt_node (bt_leaf (P := OKI m_X5_strikesOut) oX5_strikesOut_112) (bt_leaf (P := OKI m_X5_strikesOut) oX5_strikesOut_113)) (bt_node (bt_leaf (P := OKI m_X5_strikesOut) oX5_strikesOut_116) (bt_leaf (P := OKI m_X5_strikesOut) oX5_strikesOut_117))) (bt_node (bt_node (bt_leaf (P := OKI m_X5_strikesOut) oX5_strikesOut_118) (bt_leaf (P := OKI m_X5_strikesOut) oX5_strikesOut_119)) (bt_node (bt_leaf (P := OKI m_X5_strikesOut) oX5_strikesOut_120) (bt_node (bt_leaf (P := OKI m_X5_strikesOut) oX5_strikesOut_123) (bt_leaf (P := OKI m_X5_strikesOut) oX5_strikesOut_126))))) (bt_node (bt_node (bt_node (bt_leaf (P := OKI m_X5_strikesOut) oX5_strikesOut_127) (bt_leaf (P := OKI m_X5_strikesOut) oX5_strikesOut_128)) (bt_node (bt_leaf (P := OKI m_X5_strikesOut) oX5_strikesOut_129) (bt_leaf (P := OKI m_X5_strikesOut) oX5_strikesOut_130))) (bt_node (bt_node (bt_leaf (P := OKI m_X5_strikesOut) oX5_strikesOut_131) (bt_leaf (P := OKI m_X5_strikesOut) oX5_strikesOut_134)) (bt_node (bt_leaf (P := OKI m_X5_strikesOut) oX5_strikesOut_135) (bt_node (bt_leaf (P := OKI m_X5_strikesOut) oX5_strikesOut_138) (bt_leaf (P := OKI m_X5_strikesOut) oX5_strikesOut_139)))))))) : pfX5_strikesOut pc = some Y → OKI m_X5_strikesOut pc Y)
def stpX5_strikesOut (pc : Nat) : Option (List Bool) := (bif Nat.blt pc 120 then (bif Nat.blt pc 117 then (bif Nat.beq pc 5 then some [true, true, true, true, false, true] else none) else (bif Nat.beq pc 117 then some [true, true, true, false, false, true] else none)) else (bif Nat.blt pc 139 then (bif Nat.beq pc 120 then some [true, true, true, true, false, true] else none) else (bif Nat.beq pc 139 then some [false, false, false, false, false, false] else none)))
def bX5_strikesOut_0 (d rc rs : Nat) (t : Nat) (a1 : Option XO) (a2 : Int32) (σ : XH) (Q : XV → XH → Prop) : Prop :=
  Ex d rc rs m_X5_strikesOut 5 [vR (some (6, t)), vR a1, vI a2, vL 0, vU, vI 0] [] σ Q
theorem sX5_strikesOut_0 {d rc rs : Nat} {t : Nat} {a1 : Option XO} {a2 : Int32} {σ : XH} {Q : XV → XH → Prop} (h : bX5_strikesOut_0 d rc rs t a1 a2 σ Q) : Ex d rc rs m_X5_strikesOut 0 [vR (some (6, t)), vR a1, vI a2, vU, vU, vU] [] σ Q :=
  xtree_sound (stop := stpX5_strikesOut) okX5_strikesOut 6 _ _ _ _ _ _ h
def bX5_strikesOut_5 (d rc rs : Nat) (t : Nat) (l1 : Option XO) (l2 : Int32) (l3 : Int64) (l5 : Int32) (σ : XH) (Q : XV → XH → Prop) : Prop :=
  (((l5 < (hi σ 6 t 6) → ((hr σ 6 t 4 = some (104, t) ∧ ((vp_in l5 (hn σ 104 t) ∧ (((hi σ 104 t l5.toNatClampNeg) = 33 → Ex d rc rs m_X5_strikesOut 120 [vR (some (6, t)), vR l1, vI l2, vL (l3 ^^^ 1), vU, vI l5] [] σ Q) ∧ (¬ (hi σ 104 t l5.toNatClampNeg) = 33 → (((hi σ 104 t l5.toNatClampNeg) = 38 → Ex d rc rs m_X5_strikesOut 120 [vR (some (6, t)), vR l1, vI l2, vL (((l3.toUInt64 >>> ((1 : Int32).toInt64.toUInt64 &&& Int64.toUInt64 63)).toInt64) &&& (l3 ||| (-2))), vU, vI l5] [] σ Q) ∧ (¬ (hi σ 104 t l5.toNatClampNeg) = 38 → (((hi σ 104 t l5.toNatClampNeg) = 124 → Ex d rc rs m_X5_strikesOut 120 [vR (some (6, t)), vR l1, vI l2, vL (((l3.toUInt64 >>> ((1 : Int32).toInt64.toUInt64 &&& Int64.toUInt64 63)).toInt64) ||| (l3 &&& 1)), vU, vI l5] [] σ Q) ∧ (¬ (hi σ 104 t l5.toNatClampNeg) = 124 → ((hr σ 6 t 4 = some (104, t) ∧ ((vp_in l5 (hn σ 104 t) ∧ ((hr σ 6 t 5 = some (105, t) ∧ ((vp_in l5 (hn σ 105 t) ∧ (1 ≤ d ∧ Ec (d - 1) 0 0 m_X5_holds [vI (hi σ 104 t l5.toNatClampNeg), vI (hi σ 105 t l5.toNatClampNeg), vR l1, vI l2] σ (kI fun x2 h1 => ((x2 = 0 → Ex d rc rs m_X5_strikesOut 117 [vR (some (6, t)), vR l1, vI l2, vU, vU, vI l5] [vI 0, vL (l3 <<< ((1 : Int32).toInt64 &&& 63))] h1 Q) ∧ (¬ x2 = 0 → Ex d rc rs m_X5_strikesOut 117 [vR (some (6, t)), vR l1, vI l2, vU, vU, vI l5] [vI 1, vL (l3 <<< ((1 : Int32).toInt64 &&& 63))] h1 Q))))))))))))))))))))))) ∧ (¬ l5 < (hi σ 6 t 6) → (((lg_cmp (l3 &&& 1) 1) = 0 → Ex d rc rs m_X5_strikesOut 139 [vU, vU, vU, vU, vU, vU] [vI 1] σ Q) ∧ (¬ (lg_cmp (l3 &&& 1) 1) = 0 → Ex d rc rs m_X5_strikesOut 139 [vU, vU, vU, vU, vU, vU] [vI 0] σ Q)))))
theorem sX5_strikesOut_5 {d rc rs : Nat} {t : Nat} {l1 : Option XO} {l2 : Int32} {l3 : Int64} {l5 : Int32} {σ : XH} {Q : XV → XH → Prop} (h : bX5_strikesOut_5 d rc rs t l1 l2 l3 l5 σ Q) : Ex d rc rs m_X5_strikesOut 5 [vR (some (6, t)), vR l1, vI l2, vL l3, vU, vI l5] [] σ Q :=
  xtree_sound (stop := stpX5_strikesOut) okX5_strikesOut 28 _ _ _ _ _ _ h
def bX5_strikesOut_117 (d rc rs : Nat) (t : Nat) (l1 : Option XO) (l2 : Int32) (l5 : Int32) (q0 : Int32) (q1 : Int64) (σ : XH) (Q : XV → XH → Prop) : Prop :=
  Ex d rc rs m_X5_strikesOut 120 [vR (some (6, t)), vR l1, vI l2, vL (q1 ||| q0.toInt64), vU, vI l5] [] σ Q
theorem sX5_strikesOut_117 {d rc rs : Nat} {t : Nat} {l1 : Option XO} {l2 : Int32} {l5 : Int32} {q0 : Int32} {q1 : Int64} {σ : XH} {Q : XV → XH → Prop} (h : bX5_strikesOut_117 d rc rs t l1 l2 l5 q0 q1 σ Q) : Ex d rc rs m_X5_strikesOut 117 [vR (some (6, t)), vR l1, vI l2, vU, vU, vI l5] [vI q0, vL q1] σ Q :=
  xtree_sound (stop := stpX5_strikesOut) okX5_strikesOut 5 _ _ _ _ _ _ h
def bX5_strikesOut_120 (d rc rs : Nat) (t : Nat) (l1 : Option XO) (l2 : Int32) (l3 : Int64) (l5 : Int32) (σ : XH) (Q : XV → XH → Prop) : Prop :=
  Ex d rc rs m_X5_strikesOut 5 [vR (some (6, t)), vR l1, vI l2, vL l3, vU, vI (l5 + 1)] [] σ Q
theorem sX5_strikesOut_120 {d rc rs : Nat} {t : Nat} {l1 : Option XO} {l2 : Int32} {l3 : Int64} {l5 : Int32} {σ : XH} {Q : XV → XH → Prop} (h : bX5_strikesOut_120 d rc rs t l1 l2 l3 l5 σ Q) : Ex d rc rs m_X5_strikesOut 120 [vR (some (6, t)), vR l1, vI l2, vL l3, vU, vI l5] [] σ Q :=
  xtree_sound (stop := stpX5_strikesOut) okX5_strikesOut 4 _ _ _ _ _ _ h
def bX5_strikesOut_139 (d rc rs : Nat) (q0 : Int32) (σ : XH) (Q : XV → XH → Prop) : Prop :=
  ((q0 = 0 ∨ q0 = 1) ∧ Q (vI q0) σ)
theorem sX5_strikesOut_139 {d rc rs : Nat} {q0 : Int32} {σ : XH} {Q : XV → XH → Prop} (h : bX5_strikesOut_139 d rc rs q0 σ Q) : Ex d rc rs m_X5_strikesOut 139 [vU, vU, vU, vU, vU, vU] [vI q0] σ Q :=
  xtree_sound (stop := stpX5_strikesOut) okX5_strikesOut 3 _ _ _ _ _ _ h
/-! SpotTimers$Rule.holds(IILSpotTimers$Reading;I)Z -/
theorem dX5_holds_0 : decode cX5_holds 0 = .ok (.iload_n 0, 1) := by decide +kernel
theorem dX5_holds_1 : decode cX5_holds 1 = .ok (.lookupswitch 146 #[(60, 124), (62, 135), (101, 93), (104, 59), (107, 110), (115, 73)], 59) := by decide +kernel
theorem dX5_holds_60 : decode cX5_holds 60 = .ok (.aload_n 2, 1) := by decide +kernel
theorem dX5_holds_61 : decode cX5_holds 61 = .ok (.getfield 69, 3) := by decide +kernel
theorem dX5_holds_64 : decode cX5_holds 64 = .ok (.iload_n 1, 1) := by decide +kernel
theorem dX5_holds_65 : decode cX5_holds 65 = .ok (.if_icmp .ne 7, 3) := by decide +kernel
theorem dX5_holds_68 : decode cX5_holds 68 = .ok (.iconst 1, 1) := by decide +kernel
theorem dX5_holds_69 : decode cX5_holds 69 = .ok (.goto 4, 3) := by decide +kernel
theorem dX5_holds_72 : decode cX5_holds 72 = .ok (.iconst 0, 1) := by decide +kernel
theorem dX5_holds_73 : decode cX5_holds 73 = .ok (.ireturn, 1) := by decide +kernel
theorem dX5_holds_74 : decode cX5_holds 74 = .ok (.aload_n 2, 1) := by decide +kernel
theorem dX5_holds_75 : decode cX5_holds 75 = .ok (.getfield 74, 3) := by decide +kernel
theorem dX5_holds_78 : decode cX5_holds 78 = .ok (.getfield 78, 3) := by decide +kernel
theorem dX5_holds_81 : decode cX5_holds 81 = .ok (.getfield 84, 3) := by decide +kernel
theorem dX5_holds_84 : decode cX5_holds 84 = .ok (.iload_n 1, 1) := by decide +kernel
theorem dX5_holds_85 : decode cX5_holds 85 = .ok (.if_icmp .ne 7, 3) := by decide +kernel
theorem dX5_holds_88 : decode cX5_holds 88 = .ok (.iconst 1, 1) := by decide +kernel
theorem dX5_holds_89 : decode cX5_holds 89 = .ok (.goto 4, 3) := by decide +kernel
theorem dX5_holds_92 : decode cX5_holds 92 = .ok (.iconst 0, 1) := by decide +kernel
theorem dX5_holds_93 : decode cX5_holds 93 = .ok (.ireturn, 1) := by decide +kernel
theorem dX5_holds_94 : decode cX5_holds 94 = .ok (.aload_n 2, 1) := by decide +kernel
theorem dX5_holds_95 : decode cX5_holds 95 = .ok (.invokevirtual 87, 3) := by decide +kernel
theorem dX5_holds_98 : decode cX5_holds 98 = .ok (.getfield 91, 3) := by decide +kernel
theorem dX5_holds_101 : decode cX5_holds 101 = .ok (.iload_n 1, 1) := by decide +kernel
theorem dX5_holds_102 : decode cX5_holds 102 = .ok (.if_icmp .ne 7, 3) := by decide +kernel
theorem dX5_holds_105 : decode cX5_holds 105 = .ok (.iconst 1, 1) := by decide +kernel
theorem dX5_holds_106 : decode cX5_holds 106 = .ok (.goto 4, 3) := by decide +kernel
theorem dX5_holds_109 : decode cX5_holds 109 = .ok (.iconst 0, 1) := by decide +kernel
theorem dX5_holds_110 : decode cX5_holds 110 = .ok (.ireturn, 1) := by decide +kernel
theorem dX5_holds_111 : decode cX5_holds 111 = .ok (.aload_n 2, 1) := by decide +kernel
theorem dX5_holds_112 : decode cX5_holds 112 = .ok (.getfield 94, 3) := by decide +kernel
theorem dX5_holds_115 : decode cX5_holds 115 = .ok (.iload_n 1, 1) := by decide +kernel
theorem dX5_holds_116 : decode cX5_holds 116 = .ok (.if_icmp .ne 7, 3) := by decide +kernel
theorem dX5_holds_119 : decode cX5_holds 119 = .ok (.iconst 1, 1) := by decide +kernel
theorem dX5_holds_120 : decode cX5_holds 120 = .ok (.goto 4, 3) := by decide +kernel
theorem dX5_holds_123 : decode cX5_holds 123 = .ok (.iconst 0, 1) := by decide +kernel
theorem dX5_holds_124 : decode cX5_holds 124 = .ok (.ireturn, 1) := by decide +kernel
theorem dX5_holds_125 : decode cX5_holds 125 = .ok (.iload_n 3, 1) := by decide +kernel
theorem dX5_holds_126 : decode cX5_holds 126 = .ok (.iload_n 1, 1) := by decide +kernel
theorem dX5_holds_127 : decode cX5_holds 127 = .ok (.if_icmp .ge 7, 3) := by decide +kernel
theorem dX5_holds_130 : decode cX5_holds 130 = .ok (.iconst 1, 1) := by decide +kernel
theorem dX5_holds_131 : decode cX5_holds 131 = .ok (.goto 4, 3) := by decide +kernel
theorem dX5_holds_134 : decode cX5_holds 134 = .ok (.iconst 0, 1) := by decide +kernel
theorem dX5_holds_135 : decode cX5_holds 135 = .ok (.ireturn, 1) := by decide +kernel
theorem dX5_holds_136 : decode cX5_holds 136 = .ok (.iload_n 3, 1) := by decide +kernel
theorem dX5_holds_137 : decode cX5_holds 137 = .ok (.iload_n 1, 1) := by decide +kernel
theorem dX5_holds_138 : decode cX5_holds 138 = .ok (.if_icmp .le 7, 3) := by decide +kernel
theorem dX5_holds_141 : decode cX5_holds 141 = .ok (.iconst 1, 1) := by decide +kernel
theorem dX5_holds_142 : decode cX5_holds 142 = .ok (.goto 4, 3) := by decide +kernel
theorem dX5_holds_145 : decode cX5_holds 145 = .ok (.iconst 0, 1) := by decide +kernel
theorem dX5_holds_146 : decode cX5_holds 146 = .ok (.ireturn, 1) := by decide +kernel
theorem dX5_holds_147 : decode cX5_holds 147 = .ok (.iconst 0, 1) := by decide +kernel
theorem dX5_holds_148 : decode cX5_holds 148 = .ok (.ireturn, 1) := by decide +kernel
theorem oX5_holds_0 : OKI 28 0 (.iload_n 0, 1, [0], 0, 0, []) := And.intro dX5_holds_0 (And.intro rfl (rfl))
theorem oX5_holds_1 : OKI 28 1 (.lookupswitch 146 #[(60, 124), (62, 135), (101, 93), (104, 59), (107, 110), (115, 73)], 60, [147], 0, 0, [(60, 125), (62, 136), (101, 94), (104, 60), (107, 111), (115, 74)]) := And.intro ⟨_, dX5_holds_1⟩ (by decide +kernel)
theorem oX5_holds_60 : OKI 28 60 (.aload_n 2, 61, [2], 0, 0, []) := And.intro dX5_holds_60 (And.intro rfl (rfl))
theorem oX5_holds_61 : OKI 28 61 (.getfield 69, 64, [5, 3, 0], 0, 0, []) := And.intro dX5_holds_61 (And.intro rfl (⟨(RX4, TX4, 11), "SpotTimers$Reading", rfl, by decide, tm_3 _ (List.mem_of_getElem? (i := 60) rfl) rfl, Or.inl rfl, Or.inr (Or.inr (And.intro rfl (Or.inl rfl)))⟩))
theorem oX5_holds_64 : OKI 28 64 (.iload_n 1, 65, [1], 0, 0, []) := And.intro dX5_holds_64 (And.intro rfl (rfl))
theorem oX5_holds_65 : OKI 28 65 (.if_icmp .ne 7, 68, [72], 0, 0, []) := And.intro dX5_holds_65 (And.intro rfl (by decide))
theorem oX5_holds_68 : OKI 28 68 (.iconst 1, 69, [], 1, 0, []) := And.intro dX5_holds_68 (And.intro rfl (by decide +kernel))
theorem oX5_holds_69 : OKI 28 69 (.goto 4, 72, [73], 0, 0, []) := And.intro dX5_holds_69 (And.intro rfl (by decide))
theorem oX5_holds_72 : OKI 28 72 (.iconst 0, 73, [], 0, 0, []) := And.intro dX5_holds_72 (And.intro rfl (by decide +kernel))
theorem oX5_holds_73 : OKI 28 73 (.ireturn, 74, [3], 0, 0, []) := And.intro dX5_holds_73 (Or.inr (Or.inl (And.intro rfl rfl)))
theorem oX5_holds_74 : OKI 28 74 (.aload_n 2, 75, [2], 0, 0, []) := And.intro dX5_holds_74 (And.intro rfl (rfl))
theorem oX5_holds_75 : OKI 28 75 (.getfield 74, 78, [5, 2, 2], 0, 0, []) := And.intro dX5_holds_75 (And.intro rfl (⟨(RX4, TX4, 11), "SpotTimers$Reading", rfl, by decide, tm_3 _ (List.mem_of_getElem? (i := 56) rfl) rfl, Or.inl rfl, Or.inr (Or.inl (And.intro rfl rfl))⟩))
theorem oX5_holds_78 : OKI 28 78 (.getfield 78, 81, [2, 1, 2], 0, 0, []) := And.intro dX5_holds_78 (And.intro rfl (⟨(RX1, TX1, 6), "SpotTimers$Clock", rfl, by decide, tm_2 _ (List.mem_of_getElem? (i := 181) rfl) rfl, Or.inl rfl, Or.inr (Or.inl (And.intro rfl rfl))⟩))
theorem oX5_holds_81 : OKI 28 81 (.getfield 84, 84, [8, 0, 0], 0, 0, []) := And.intro dX5_holds_81 (And.intro rfl (⟨(RX7, TX7, 5), "SpotTimers$Station", rfl, by decide, tm_2 _ (List.mem_of_getElem? (i := 65) rfl) rfl, Or.inl rfl, Or.inr (Or.inr (And.intro rfl (Or.inl rfl)))⟩))
theorem oX5_holds_84 : OKI 28 84 (.iload_n 1, 85, [1], 0, 0, []) := And.intro dX5_holds_84 (And.intro rfl (rfl))
theorem oX5_holds_85 : OKI 28 85 (.if_icmp .ne 7, 88, [92], 0, 0, []) := And.intro dX5_holds_85 (And.intro rfl (by decide))
theorem oX5_holds_88 : OKI 28 88 (.iconst 1, 89, [], 1, 0, []) := And.intro dX5_holds_88 (And.intro rfl (by decide +kernel))
theorem oX5_holds_89 : OKI 28 89 (.goto 4, 92, [93], 0, 0, []) := And.intro dX5_holds_89 (And.intro rfl (by decide))
theorem oX5_holds_92 : OKI 28 92 (.iconst 0, 93, [], 0, 0, []) := And.intro dX5_holds_92 (And.intro rfl (by decide +kernel))
theorem oX5_holds_93 : OKI 28 93 (.ireturn, 94, [3], 0, 0, []) := And.intro dX5_holds_93 (Or.inr (Or.inl (And.intro rfl rfl)))
theorem oX5_holds_94 : OKI 28 94 (.aload_n 2, 95, [2], 0, 0, []) := And.intro dX5_holds_94 (And.intro rfl (rfl))
theorem oX5_holds_95 : OKI 28 95 (.invokevirtual 87, 98, [18, 1, 6, 0, 0, 3], 0, 0, []) := And.intro dX5_holds_95 (And.intro rfl (And.intro (by decide) (And.intro (by decide) (And.intro mo_X4_origin (And.intro (tm_4 _ (List.mem_of_getElem? (i := 175) rfl) rfl) (And.intro (tm_3 _ (List.mem_of_getElem? (i := 123) rfl) rfl) (And.intro (tm_3 _ (List.mem_of_getElem? (i := 124) rfl) rfl) (Or.inl ⟨(RX4, TX4, 11), rfl, rfl⟩))))))))
theorem oX5_holds_98 : OKI 28 98 (.getfield 91, 101, [5, 7, 0], 0, 0, []) := And.intro dX5_holds_98 (And.intro rfl (⟨(RX4, TX4, 11), "SpotTimers$Reading", rfl, by decide, tm_3 _ (List.mem_of_getElem? (i := 71) rfl) rfl, Or.inl rfl, Or.inr (Or.inr (And.intro rfl (Or.inl rfl)))⟩))
theorem oX5_holds_101 : OKI 28 101 (.iload_n 1, 102, [1], 0, 0, []) := And.intro dX5_holds_101 (And.intro rfl (rfl))
theorem oX5_holds_102 : OKI 28 102 (.if_icmp .ne 7, 105, [109], 0, 0, []) := And.intro dX5_holds_102 (And.intro rfl (by decide))
theorem oX5_holds_105 : OKI 28 105 (.iconst 1, 106, [], 1, 0, []) := And.intro dX5_holds_105 (And.intro rfl (by decide +kernel))
theorem oX5_holds_106 : OKI 28 106 (.goto 4, 109, [110], 0, 0, []) := And.intro dX5_holds_106 (And.intro rfl (by decide))
theorem oX5_holds_109 : OKI 28 109 (.iconst 0, 110, [], 0, 0, []) := And.intro dX5_holds_109 (And.intro rfl (by decide +kernel))
theorem oX5_holds_110 : OKI 28 110 (.ireturn, 111, [3], 0, 0, []) := And.intro dX5_holds_110 (Or.inr (Or.inl (And.intro rfl rfl)))
theorem oX5_holds_111 : OKI 28 111 (.aload_n 2, 112, [2], 0, 0, []) := And.intro dX5_holds_111 (And.intro rfl (rfl))
theorem oX5_holds_112 : OKI 28 112 (.getfield 94, 115, [5, 1, 0], 0, 0, []) := And.intro dX5_holds_112 (And.intro rfl (⟨(RX4, TX4, 11), "SpotTimers$Reading", rfl, by decide, tm_3 _ (List.mem_of_getElem? (i := 52) rfl) rfl, Or.inl rfl, Or.inr (Or.inr (And.intro rfl (Or.inl rfl)))⟩))
theorem oX5_holds_115 : OKI 28 115 (.iload_n 1, 116, [1], 0, 0, []) := And.intro dX5_holds_115 (And.intro rfl (rfl))
theorem oX5_holds_116 : OKI 28 116 (.if_icmp .ne 7, 119, [123], 0, 0, []) := And.intro dX5_holds_116 (And.intro rfl (by decide))
theorem oX5_holds_119 : OKI 28 119 (.iconst 1, 120, [], 1, 0, []) := And.intro dX5_holds_119 (And.intro rfl (by decide +kernel))
theorem oX5_holds_120 : OKI 28 120 (.goto 4, 123, [124], 0, 0, []) := And.intro dX5_holds_120 (And.intro rfl (by decide))
theorem oX5_holds_123 : OKI 28 123 (.iconst 0, 124, [], 0, 0, []) := And.intro dX5_holds_123 (And.intro rfl (by decide +kernel))
theorem oX5_holds_124 : OKI 28 124 (.ireturn, 125, [3], 0, 0, []) := And.intro dX5_holds_124 (Or.inr (Or.inl (And.intro rfl rfl)))
theorem oX5_holds_125 : OKI 28 125 (.iload_n 3, 126, [3], 0, 0, []) := And.intro dX5_holds_125 (And.intro rfl (rfl))
theorem oX5_holds_126 : OKI 28 126 (.iload_n 1, 127, [1], 0, 0, []) := And.intro dX5_holds_126 (And.intro rfl (rfl))
theorem oX5_holds_127 : OKI 28 127 (.if_icmp .ge 7, 130, [134], 0, 0, []) := And.intro dX5_holds_127 (And.intro rfl (by decide))
theorem oX5_holds_130 : OKI 28 130 (.iconst 1, 131, [], 1, 0, []) := And.intro dX5_holds_130 (And.intro rfl (by decide +kernel))
theorem oX5_holds_131 : OKI 28 131 (.goto 4, 134, [135], 0, 0, []) := And.intro dX5_holds_131 (And.intro rfl (by decide))
theorem oX5_holds_134 : OKI 28 134 (.iconst 0, 135, [], 0, 0, []) := And.intro dX5_holds_134 (And.intro rfl (by decide +kernel))
theorem oX5_holds_135 : OKI 28 135 (.ireturn, 136, [3], 0, 0, []) := And.intro dX5_holds_135 (Or.inr (Or.inl (And.intro rfl rfl)))
theorem oX5_holds_136 : OKI 28 136 (.iload_n 3, 137, [3], 0, 0, []) := And.intro dX5_holds_136 (And.intro rfl (rfl))
theorem oX5_holds_137 : OKI 28 137 (.iload_n 1, 138, [1], 0, 0, []) := And.intro dX5_holds_137 (And.intro rfl (rfl))
theorem oX5_holds_138 : OKI 28 138 (.if_icmp .le 7, 141, [145], 0, 0, []) := And.intro dX5_holds_138 (And.intro rfl (by decide))
theorem oX5_holds_141 : OKI 28 141 (.iconst 1, 142, [], 1, 0, []) := And.intro dX5_holds_141 (And.intro rfl (by decide +kernel))
theorem oX5_holds_142 : OKI 28 142 (.goto 4, 145, [146], 0, 0, []) := And.intro dX5_holds_142 (And.intro rfl (by decide))
theorem oX5_holds_145 : OKI 28 145 (.iconst 0, 146, [], 0, 0, []) := And.intro dX5_holds_145 (And.intro rfl (by decide +kernel))
theorem oX5_holds_146 : OKI 28 146 (.ireturn, 147, [3], 0, 0, []) := And.intro dX5_holds_146 (Or.inr (Or.inl (And.intro rfl rfl)))
theorem oX5_holds_147 : OKI 28 147 (.iconst 0, 148, [], 0, 0, []) := And.intro dX5_holds_147 (And.intro rfl (by decide +kernel))
theorem oX5_holds_148 : OKI 28 148 (.ireturn, 149, [3], 0, 0, []) := And.intro dX5_holds_148 (Or.inr (Or.inl (And.intro rfl rfl)))
def pfX5_holds (pc : Nat) : Option XE := (bif Nat.blt pc 106 then (bif Nat.blt pc 81 then (bif Nat.blt pc 68 then (bif Nat.blt pc 61 then (bif Nat.blt pc 1 then (bif Nat.beq pc 0 then some (.iload_n 0, 1, [0], 0, 0, []) else none) else (bif Nat.blt pc 60 then (bif Nat.beq pc 1 then some (.lookupswitch 146 #[(60, 124), (62, 135), (101, 93), (104, 59), (107, 110), (115, 73)], 60, [147], 0, 0, [(60, 125), (62, 136), (101, 94), (104, 60), (107, 111), (115, 74)]) else none) else (bif Nat.beq pc 60 then some (.aload_n 2, 61, [2], 0, 0, []) else none))) else (bif Nat.blt pc 64 then (bif Nat.beq pc 61 then some (.getfield 69, 64, [5, 3, 0], 0, 0, []) else none) else (bif Nat.blt pc 65 then (bif Nat.beq pc 64 then some (.iload_n 1, 65, [1], 0, 0, []) else none) else (bif Nat.beq pc 65 then some (.if_icmp .ne 7, 68, [72], 0, 0, []) else none)))) else (bif Nat.blt pc 73 then (bif Nat.blt pc 69 then (bif Nat.beq pc 68 then some (.iconst 1, 69, [], 1, 0, []) else none) else (bif Nat.blt pc 72 then (bif Nat.beq pc 69 then some (.goto 4, 72, [73], 0, 0, []) else none) else (bif Nat.beq pc 72 then some (.iconst 0, 73, [], 0, 0, []) else none))) else (bif Nat.blt pc 75 then (bif Nat.blt pc 74 then (bif Nat.beq pc 73 then some (.ireturn, 74, [3], 0, 0, []) else none) else (bif Nat.beq pc 74 then some (.aload_n 2, 75, [2], 0, 0, []) else none)) else (bif Nat.blt pc 78 then (bif Nat.beq pc 75 then some (.getfield 74, 78, [5, 2, 2], 0, 0, []) else none) else (bif Nat.beq pc 78 then some (.getfield 78, 81, [2, 1, 2], 0, 0, []) else none))))) else (bif Nat.blt pc 93 then (bif Nat.blt pc 88 then (bif Nat.blt pc 84 then (bif Nat.beq pc 81 then some (.getfield 84, 84, [8, 0, 0], 0, 0, []) else none) else (bif Nat.blt pc 85 then (bif Nat.beq pc 84 then some (.iload_n 1, 85, [1], 0, 0, []) else none) else (bif Nat.beq pc 85 then some (.if_icmp .ne 7, 88, [92], 0, 0, []) else none))) else (bif Nat.blt pc 89 then (bif Nat.beq pc 88 then some (.iconst 1, 89, [], 1, 0, []) else none) else (bif Nat.blt pc 92 then (bif Nat.beq pc 89 then some (.goto 4, 92, [93], 0, 0, []) else none) else (bif Nat.beq pc 92 then some (.iconst 0, 93, [], 0, 0, []) else none)))) else (bif Nat.blt pc 98 then (bif Nat.blt pc 94 then (bif Nat.beq pc 93 then some (.ireturn, 94, [3], 0, 0, []) else none) else (bif Nat.blt pc 95 then (bif Nat.beq pc 94 then some (.aload_n 2, 95, [2], 0, 0, []) else none) else (bif Nat.beq pc 95 then some (.invokevirtual 87, 98, [18, 1, 6, 0, 0, 3], 0, 0, []) else none))) else (bif Nat.blt pc 102 then (bif Nat.blt pc 101 then (bif Nat.beq pc 98 then some (.getfield 91, 101, [5, 7, 0], 0, 0, []) else none) else (bif Nat.beq pc 101 then some (.iload_n 1, 102, [1], 0, 0, []) else none)) else (bif Nat.blt pc 105 then (bif Nat.beq pc 102 then some (.if_icmp .ne 7, 105, [109], 0, 0, []) else none) else (bif Nat.beq pc 105 then some (.iconst 1, 106, [], 1, 0, []) else none)))))) else (bif Nat.blt pc 127 then (bif Nat.blt pc 116 then (bif Nat.blt pc 111 then (bif Nat.blt pc 109 then (bif Nat.beq pc 106 then some (.goto 4, 109, [110], 0, 0, []) else none) else (bif Nat.blt pc 110 then (bif Nat.beq pc 109 then some (.iconst 0, 110, [], 0, 0, []) else none) else (bif Nat.beq pc 110 then some (.ireturn, 111, [3], 0, 0, []) else none))) else (bif Nat.blt pc 112 then (bif Nat.beq pc 111 then some (.aload_n 2, 112, [2], 0, 0, []) else none) else (bif Nat.blt pc 115 then (bif Nat.beq pc 112 then some (.getfield 94, 115, [5, 1, 0], 0, 0, []) else none) else (bif Nat.beq pc 115 then some (.iload_n 1, 116, [1], 0, 0, []) else none)))) else (bif Nat.blt pc 123 then (bif Nat.blt pc 119 then (bif Nat.beq pc 116 then some (.if_icmp .ne 7, 119, [123], 0, 0, []) else none) else (bif Nat.blt pc 120 then (bif Nat.beq pc 119 then some (.iconst 1, 120, [], 1, 0, []) else none) else (bif Nat.beq pc 120 then some (.goto 4, 123, [124], 0, 0, []) else none))) else (bif Nat.blt pc 125 then (bif Nat.blt pc 124 then (bif Nat.beq pc 123 then some (.iconst 0, 124, [], 0, 0, []) else none) else (bif Nat.beq pc 124 then some (.ireturn, 125, [3], 0, 0, []) else none)) else (bif Nat.blt pc 126 then (bif Nat.beq pc 125 then some (.iload_n 3, 126, [3], 0, 0, []) else none) else (bif Nat.beq pc 126 then some (.iload_n 1, 127, [1], 0, 0, []) else none))))) else (bif Nat.blt pc 138 then (bif Nat.blt pc 134 then (bif Nat.blt pc 130 then (bif Nat.beq pc 127 then some (.if_icmp .ge 7, 130, [134], 0, 0, []) else none) else (bif Nat.blt pc 131 then (bif Nat.beq pc 130 then some (.iconst 1, 131, [], 1, 0, []) else none) else (bif Nat.beq pc 131 then some (.goto 4, 134, [135], 0, 0, []) else none))) else (bif Nat.blt pc 136 then (bif Nat.blt pc 135 then (bif Nat.beq pc 134 then some (.iconst 0, 135, [], 0, 0, []) else none) else (bif Nat.beq pc 135 then some (.ireturn, 136, [3], 0, 0, []) else none)) else (bif Nat.blt pc 137 then (bif Nat.beq pc 136 then some (.iload_n 3, 137, [3], 0, 0, []) else none) else (bif Nat.beq pc 137 then some (.iload_n 1, 138, [1], 0, 0, []) else none)))) else (bif Nat.blt pc 145 then (bif Nat.blt pc 141 then (bif Nat.beq pc 138 then some (.if_icmp .le 7, 141, [145], 0, 0, []) else none) else (bif Nat.blt pc 142 then (bif Nat.beq pc 141 then some (.iconst 1, 142, [], 1, 0, []) else none) else (bif Nat.beq pc 142 then some (.goto 4, 145, [146], 0, 0, []) else none))) else (bif Nat.blt pc 147 then (bif Nat.blt pc 146 then (bif Nat.beq pc 145 then some (.iconst 0, 146, [], 0, 0, []) else none) else (bif Nat.beq pc 146 then some (.ireturn, 147, [3], 0, 0, []) else none)) else (bif Nat.blt pc 148 then (bif Nat.beq pc 147 then some (.iconst 0, 148, [], 0, 0, []) else none) else (bif Nat.beq pc 148 then some (.ireturn, 149, [3], 0, 0, []) else none)))))))
theorem okX5_holds : ∀ pc Y, pfX5_holds pc = some Y → OKI m_X5_holds pc Y := fun pc Y => ((bt_node (bt_node (bt_node (bt_node (bt_node (bt_leaf (P := OKI m_X5_holds) oX5_holds_0) (bt_node (bt_leaf (P := OKI m_X5_holds) oX5_holds_1) (bt_leaf (P := OKI m_X5_holds) oX5_holds_60))) (bt_node (bt_leaf (P := OKI m_X5_holds) oX5_holds_61) (bt_node (bt_leaf (P := OKI m_X5_holds) oX5_holds_64) (bt_leaf (P := OKI m_X5_holds) oX5_holds_65)))) (bt_node (bt_node (bt_leaf (P := OKI m_X5_holds) oX5_holds_68) (bt_node (bt_leaf (P := OKI m_X5_holds) oX5_holds_69) (bt_leaf (P := OKI m_X5_holds) oX5_holds_72))) (bt_node (bt_node (bt_leaf (P := OKI m_X5_holds) oX5_holds_73) (bt_leaf (P := OKI m_X5_holds) oX5_holds_74)) (bt_node (bt_leaf (P := OKI m_X5_holds) oX5_holds_75) (bt_leaf (P := OKI m_X5_holds) oX5_holds_78))))) (bt_node (bt_node (bt_node (bt_leaf (P := OKI m_X5_holds) oX5_holds_81) (bt_node (bt_leaf (P := OKI m_X5_holds) oX5_holds_84) (bt_leaf (P := OKI m_X5_holds) oX5_holds_85))) (bt_node (bt_leaf (P := OKI m_X5_holds) oX5_holds_88) (bt_node (bt_leaf (P := OKI m_X5_holds) oX5_holds_89) (bt_leaf (P := OKI m_X5_holds) oX5_holds_92)))) (bt_node (bt_node (bt_leaf (P := OKI m_X5_holds) oX5_holds_93) (bt_node (bt_leaf (P := OKI m_X5_holds) oX5_holds_94) (bt_leaf (P := OKI m_X5_holds) oX5_holds_95))) (bt_node (bt_node (bt_leaf (P := OKI m_X5_holds) oX5_holds_98) (bt_leaf (P := OKI m_X5_holds) oX5_holds_101)) (bt_node (bt_leaf (P := OKI m_X5_holds) oX5_holds_102) (bt_leaf (P := OKI m_X5_holds) oX5_holds_105)))))) (bt_node (bt_node (bt_node (bt_node (bt_leaf (P := OKI m_X5_holds) oX5_holds_106) (bt_node (bt_leaf (P := OKI m_X5_holds) oX5_holds_109) (bt_leaf (P := OKI m_X5_holds) oX5_holds_110))) (bt_node (bt_leaf (P := OKI m_X5_holds) oX5_holds_111) (bt_node (bt_leaf (P := OKI m_X5_holds) oX5_holds_112) (bt_leaf (P := OKI m_X5_holds) oX5_holds_115)))) (bt_node (bt_node (bt_leaf (P := OKI m_X5_holds) oX5_holds_116) (bt_node (bt_leaf (P := OKI m_X5_holds) oX5_holds_119) (bt_leaf (P := OKI m_X5_holds) oX5_holds_120))) (bt_node (bt_node (bt_leaf (P := OKI m_X5_holds) oX5_holds_123) (bt_leaf (P := OKI m_X5_holds) oX5_holds_124)) (bt_node (bt_leaf (P := OKI m_X5_holds) oX5_holds_125) (bt_leaf (P := OKI m_X5_holds) oX5_holds_126))))) (bt_node (bt_node (bt_node (bt_leaf (P := OKI m_X5_holds) oX5_holds_127) (bt_node (bt_leaf (P := OKI m_X5_holds) oX5_holds_130) (bt_leaf (P := OKI m_X5_holds) oX5_holds_131))) (bt_node (bt_node (bt_leaf (P := OKI m_X5_holds) oX5_holds_134) (bt_leaf (P := OKI m_X5_holds) oX5_holds_135)) (bt_node (bt_leaf (P := OKI m_X5_holds) oX5_holds_136) (bt_leaf (P := OKI m_X5_holds) oX5_holds_137)))) (bt_node (bt_node (bt_leaf (P := OKI m_X5_holds) oX5_holds_138) (bt_node (bt_leaf (P := OKI m_X5_holds) oX5_holds_141) (bt_leaf (P := OKI m_X5_holds) oX5_holds_142))) (bt_node (bt_node (bt_leaf (P := OKI m_X5_holds) oX5_holds_145) (bt_leaf (P := OKI m_X5_holds) oX5_holds_146)) (bt_node (bt_leaf (P := OKI m_X5_holds) oX5_holds_147) (bt_leaf (P := OKI m_X5_holds) oX5_holds_148))))))) : pfX5_holds pc = some Y → OKI m_X5_holds pc Y)
def stpX5_holds (pc : Nat) : Option (List Bool) := (bif Nat.blt pc 124 then (bif Nat.blt pc 93 then (bif Nat.beq pc 73 then some [false, false, false, false] else none) else (bif Nat.blt pc 110 then (bif Nat.beq pc 93 then some [false, false, false, false] else none) else (bif Nat.beq pc 110 then some [false, false, false, false] else none))) else (bif Nat.blt pc 135 then (bif Nat.beq pc 124 then some [false, false, false, false] else none) else (bif Nat.blt pc 146 then (bif Nat.beq pc 135 then some [false, false, false, false] else none) else (bif Nat.beq pc 146 then some [false, false, false, false] else none))))
def bX5_holds_0 (d rc rs : Nat) (a1 : Int32) (a2 : Int32) (a3 : Option XO) (a4 : Int32) (σ : XH) (Q : XV → XH → Prop) : Prop :=
  ((a1 = 60 → ((a4 < a2 → Ex d rc rs m_X5_holds 135 [vU, vU, vU, vU] [vI 1] σ Q) ∧ (¬ a4 < a2 → Ex d rc rs m_X5_holds 135 [vU, vU, vU, vU] [vI 0] σ Q))) ∧ (¬ a1 = 60 → ((a1 = 62 → ((a2 < a4 → Ex d rc rs m_X5_holds 146 [vU, vU, vU, vU] [vI 1] σ Q) ∧ (¬ a2 < a4 → Ex d rc rs m_X5_holds 146 [vU, vU, vU, vU] [vI 0] σ Q))) ∧ (¬ a1 = 62 → ((a1 = 101 → (drf a3 5 fun i9 => (1 ≤ d ∧ Ec (d - 1) 0 0 m_X4_origin [vR (some (5, i9))] σ (kR fun x7 h6 => (drf x7 5 fun i8 => (((hi h6 5 i8 7) = a2 → Ex d rc rs m_X5_holds 110 [vU, vU, vU, vU] [vI 1] h6 Q) ∧ (¬ (hi h6 5 i8 7) = a2 → Ex d rc rs m_X5_holds 110 [vU, vU, vU, vU] [vI 0] h6 Q))))))) ∧ (¬ a1 = 101 → ((a1 = 104 → (drf a3 5 fun i5 => (((hi σ 5 i5 3) = a2 → Ex d rc rs m_X5_holds 73 [vU, vU, vU, vU] [vI 1] σ Q) ∧ (¬ (hi σ 5 i5 3) = a2 → Ex d rc rs m_X5_holds 73 [vU, vU, vU, vU] [vI 0] σ Q)))) ∧ (¬ a1 = 104 → ((a1 = 107 → (drf a3 5 fun i4 => (((hi σ 5 i4 1) = a2 → Ex d rc rs m_X5_holds 124 [vU, vU, vU, vU] [vI 1] σ Q) ∧ (¬ (hi σ 5 i4 1) = a2 → Ex d rc rs m_X5_holds 124 [vU, vU, vU, vU] [vI 0] σ Q)))) ∧ (¬ a1 = 107 → ((a1 = 115 → (drf a3 5 fun i1 => (drf (hr σ 5 i1 2) 2 fun i2 => (drf (hr σ 2 i2 1) 8 fun i3 => (((hi σ 8 i3 0) = a2 → Ex d rc rs m_X5_holds 93 [vU, vU, vU, vU] [vI 1] σ Q) ∧ (¬ (hi σ 8 i3 0) = a2 → Ex d rc rs m_X5_holds 93 [vU, vU, vU, vU] [vI 0] σ Q)))))) ∧ (¬ a1 = 115 → (((0 : Int32) = 0 ∨ (0 : Int32) = 1) ∧ Q (vI 0) σ)))))))))))))
theorem sX5_holds_0 {d rc rs : Nat} {a1 : Int32} {a2 : Int32} {a3 : Option XO} {a4 : Int32} {σ : XH} {Q : XV → XH → Prop} (h : bX5_holds_0 d rc rs a1 a2 a3 a4 σ Q) : Ex d rc rs m_X5_holds 0 [vI a1, vI a2, vR a3, vI a4] [] σ Q :=
  xtree_sound (stop := stpX5_holds) okX5_holds 12 _ _ _ _ _ _ h
def bX5_holds_73 (d rc rs : Nat) (q0 : Int32) (σ : XH) (Q : XV → XH → Prop) : Prop :=
  ((q0 = 0 ∨ q0 = 1) ∧ Q (vI q0) σ)
theorem sX5_holds_73 {d rc rs : Nat} {q0 : Int32} {σ : XH} {Q : XV → XH → Prop} (h : bX5_holds_73 d rc rs q0 σ Q) : Ex d rc rs m_X5_holds 73 [vU, vU, vU, vU] [vI q0] σ Q :=
  xtree_sound (stop := stpX5_holds) okX5_holds 3 _ _ _ _ _ _ h
def bX5_holds_93 (d rc rs : Nat) (q0 : Int32) (σ : XH) (Q : XV → XH → Prop) : Prop :=
  ((q0 = 0 ∨ q0 = 1) ∧ Q (vI q0) σ)
theorem sX5_holds_93 {d rc rs : Nat} {q0 : Int32} {σ : XH} {Q : XV → XH → Prop} (h : bX5_holds_93 d rc rs q0 σ Q) : Ex d rc rs m_X5_holds 93 [vU, vU, vU, vU] [vI q0] σ Q :=
  xtree_sound (stop := stpX5_holds) okX5_holds 3 _ _ _ _ _ _ h
def bX5_holds_110 (d rc rs : Nat) (q0 : Int32) (σ : XH) (Q : XV → XH → Prop) : Prop :=
  ((q0 = 0 ∨ q0 = 1) ∧ Q (vI q0) σ)
theorem sX5_holds_110 {d rc rs : Nat} {q0 : Int32} {σ : XH} {Q : XV → XH → Prop} (h : bX5_holds_110 d rc rs q0 σ Q) : Ex d rc rs m_X5_holds 110 [vU, vU, vU, vU] [vI q0] σ Q :=
  xtree_sound (stop := stpX5_holds) okX5_holds 3 _ _ _ _ _ _ h
def bX5_holds_124 (d rc rs : Nat) (q0 : Int32) (σ : XH) (Q : XV → XH → Prop) : Prop :=
  ((q0 = 0 ∨ q0 = 1) ∧ Q (vI q0) σ)
theorem sX5_holds_124 {d rc rs : Nat} {q0 : Int32} {σ : XH} {Q : XV → XH → Prop} (h : bX5_holds_124 d rc rs q0 σ Q) : Ex d rc rs m_X5_holds 124 [vU, vU, vU, vU] [vI q0] σ Q :=
  xtree_sound (stop := stpX5_holds) okX5_holds 3 _ _ _ _ _ _ h
def bX5_holds_135 (d rc rs : Nat) (q0 : Int32) (σ : XH) (Q : XV → XH → Prop) : Prop :=
  ((q0 = 0 ∨ q0 = 1) ∧ Q (vI q0) σ)
theorem sX5_holds_135 {d rc rs : Nat} {q0 : Int32} {σ : XH} {Q : XV → XH → Prop} (h : bX5_holds_135 d rc rs q0 σ Q) : Ex d rc rs m_X5_holds 135 [vU, vU, vU, vU] [vI q0] σ Q :=
  xtree_sound (stop := stpX5_holds) okX5_holds 3 _ _ _ _ _ _ h
def bX5_holds_146 (d rc rs : Nat) (q0 : Int32) (σ : XH) (Q : XV → XH → Prop) : Prop :=
  ((q0 = 0 ∨ q0 = 1) ∧ Q (vI q0) σ)
theorem sX5_holds_146 {d rc rs : Nat} {q0 : Int32} {σ : XH} {Q : XV → XH → Prop} (h : bX5_holds_146 d rc rs q0 σ Q) : Ex d rc rs m_X5_holds 146 [vU, vU, vU, vU] [vI q0] σ Q :=
  xtree_sound (stop := stpX5_holds) okX5_holds 3 _ _ _ _ _ _ h
/-! SpotTimers$RuleReader.<init>()V -/
theorem dX6_init_0 : decode cX6_init 0 = .ok (.aload_n 0, 1) := by decide +kernel
theorem dX6_init_1 : decode cX6_init 1 = .ok (.invokespecial 3, 3) := by decide +kernel
theorem dX6_init_4 : decode cX6_init 4 = .ok (.aload_n 0, 1) := by decide +kernel
theorem dX6_init_5 : decode cX6_init 5 = .ok (.sipush 140, 3) := by decide +kernel
theorem dX6_init_8 : decode cX6_init 8 = .ok (.newarray .byte, 2) := by decide +kernel
theorem dX6_init_10 : decode cX6_init 10 = .ok (.putfield 9, 3) := by decide +kernel
theorem dX6_init_13 : decode cX6_init 13 = .ok (.aload_n 0, 1) := by decide +kernel
theorem dX6_init_14 : decode cX6_init 14 = .ok (.iconst 0, 1) := by decide +kernel
theorem dX6_init_15 : decode cX6_init 15 = .ok (.putfield 15, 3) := by decide +kernel
theorem dX6_init_18 : decode cX6_init 18 = .ok (.aload_n 0, 1) := by decide +kernel
theorem dX6_init_19 : decode cX6_init 19 = .ok (.iconst 0, 1) := by decide +kernel
theorem dX6_init_20 : decode cX6_init 20 = .ok (.putfield 19, 3) := by decide +kernel
theorem dX6_init_23 : decode cX6_init 23 = .ok (.return_, 1) := by decide +kernel
theorem oX6_init_0 : OKI 29 0 (.aload_n 0, 1, [0], 0, 0, []) := And.intro dX6_init_0 (And.intro rfl (rfl))
theorem oX6_init_1 : OKI 29 1 (.invokespecial 3, 4, [9004], 0, 0, []) := And.intro dX6_init_1 (And.intro rfl (And.intro rfl (And.intro (tm_1 _ (List.mem_of_getElem? (i := 67) rfl) rfl) (And.intro (tm_1 _ (List.mem_of_getElem? (i := 32) rfl) rfl) (tm_1 _ (List.mem_of_getElem? (i := 33) rfl) rfl)))))
theorem oX6_init_4 : OKI 29 4 (.aload_n 0, 5, [0], 0, 0, []) := And.intro dX6_init_4 (And.intro rfl (rfl))
theorem oX6_init_5 : OKI 29 5 (.sipush 140, 8, [], 140, 0, []) := And.intro dX6_init_5 (And.intro rfl (by decide +kernel))
theorem oX6_init_8 : OKI 29 8 (.newarray .byte, 10, [200], 0, 0, []) := And.intro dX6_init_8 (And.intro rfl (And.intro (And.intro (by decide) (by decide)) (tm_1 _ (List.mem_of_getElem? (i := 81) rfl) rfl)))
theorem oX6_init_10 : OKI 29 10 (.putfield 9, 13, [7, 0, 2], 0, 0, []) := And.intro dX6_init_10 (And.intro rfl (⟨(RX6, TX6, 3), "SpotTimers$RuleReader", rfl, by decide, tm_1 _ (List.mem_of_getElem? (i := 68) rfl) rfl, Or.inl rfl, Or.inr (And.intro rfl (And.intro rfl rfl)), rfl⟩))
theorem oX6_init_13 : OKI 29 13 (.aload_n 0, 14, [0], 0, 0, []) := And.intro dX6_init_13 (And.intro rfl (rfl))
theorem oX6_init_14 : OKI 29 14 (.iconst 0, 15, [], 0, 0, []) := And.intro dX6_init_14 (And.intro rfl (by decide +kernel))
theorem oX6_init_15 : OKI 29 15 (.putfield 15, 18, [7, 1, 0], 0, 0, []) := And.intro dX6_init_15 (And.intro rfl (⟨(RX6, TX6, 3), "SpotTimers$RuleReader", rfl, by decide, tm_1 _ (List.mem_of_getElem? (i := 69) rfl) rfl, Or.inl rfl, Or.inl rfl, rfl⟩))
theorem oX6_init_18 : OKI 29 18 (.aload_n 0, 19, [0], 0, 0, []) := And.intro dX6_init_18 (And.intro rfl (rfl))
theorem oX6_init_19 : OKI 29 19 (.iconst 0, 20, [], 0, 0, []) := And.intro dX6_init_19 (And.intro rfl (by decide +kernel))
theorem oX6_init_20 : OKI 29 20 (.putfield 19, 23, [7, 2, 0], 0, 0, []) := And.intro dX6_init_20 (And.intro rfl (⟨(RX6, TX6, 3), "SpotTimers$RuleReader", rfl, by decide, tm_1 _ (List.mem_of_getElem? (i := 71) rfl) rfl, Or.inl rfl, Or.inl rfl, rfl⟩))
theorem oX6_init_23 : OKI 29 23 (.return_, 24, [], 0, 0, []) := And.intro dX6_init_23 rfl
def pfX6_init (pc : Nat) : Option XE := (bif Nat.blt pc 13 then (bif Nat.blt pc 5 then (bif Nat.blt pc 1 then (bif Nat.beq pc 0 then some (.aload_n 0, 1, [0], 0, 0, []) else none) else (bif Nat.blt pc 4 then (bif Nat.beq pc 1 then some (.invokespecial 3, 4, [9004], 0, 0, []) else none) else (bif Nat.beq pc 4 then some (.aload_n 0, 5, [0], 0, 0, []) else none))) else (bif Nat.blt pc 8 then (bif Nat.beq pc 5 then some (.sipush 140, 8, [], 140, 0, []) else none) else (bif Nat.blt pc 10 then (bif Nat.beq pc 8 then some (.newarray .byte, 10, [200], 0, 0, []) else none) else (bif Nat.beq pc 10 then some (.putfield 9, 13, [7, 0, 2], 0, 0, []) else none)))) else (bif Nat.blt pc 18 then (bif Nat.blt pc 14 then (bif Nat.beq pc 13 then some (.aload_n 0, 14, [0], 0, 0, []) else none) else (bif Nat.blt pc 15 then (bif Nat.beq pc 14 then some (.iconst 0, 15, [], 0, 0, []) else none) else (bif Nat.beq pc 15 then some (.putfield 15, 18, [7, 1, 0], 0, 0, []) else none))) else (bif Nat.blt pc 20 then (bif Nat.blt pc 19 then (bif Nat.beq pc 18 then some (.aload_n 0, 19, [0], 0, 0, []) else none) else (bif Nat.beq pc 19 then some (.iconst 0, 20, [], 0, 0, []) else none)) else (bif Nat.blt pc 23 then (bif Nat.beq pc 20 then some (.putfield 19, 23, [7, 2, 0], 0, 0, []) else none) else (bif Nat.beq pc 23 then some (.return_, 24, [], 0, 0, []) else none)))))
theorem okX6_init : ∀ pc Y, pfX6_init pc = some Y → OKI m_X6_init pc Y := fun pc Y => ((bt_node (bt_node (bt_node (bt_leaf (P := OKI m_X6_init) oX6_init_0) (bt_node (bt_leaf (P := OKI m_X6_init) oX6_init_1) (bt_leaf (P := OKI m_X6_init) oX6_init_4))) (bt_node (bt_leaf (P := OKI m_X6_init) oX6_init_5) (bt_node (bt_leaf (P := OKI m_X6_init) oX6_init_8) (bt_leaf (P := OKI m_X6_init) oX6_init_10)))) (bt_node (bt_node (bt_leaf (P := OKI m_X6_init) oX6_init_13) (bt_node (bt_leaf (P := OKI m_X6_init) oX6_init_14) (bt_leaf (P := OKI m_X6_init) oX6_init_15))) (bt_node (bt_node (bt_leaf (P := OKI m_X6_init) oX6_init_18) (bt_leaf (P := OKI m_X6_init) oX6_init_19)) (bt_node (bt_leaf (P := OKI m_X6_init) oX6_init_20) (bt_leaf (P := OKI m_X6_init) oX6_init_23))))) : pfX6_init pc = some Y → OKI m_X6_init pc Y)
def stpX6_init (_ : Nat) : Option (List Bool) := none
def bX6_init_0 (d rc rs : Nat) (t : Nat)  (σ : XH) (Q : XV → XH → Prop) : Prop :=
  ((1 ≤ d ∧ (¬ (140 : Int32) < 0 ∧ (140 : Int32).toNatClampNeg ≤ 100000 ∧ 1 ≤ rc ∧ (140 : Int32).toNatClampNeg ≤ rs ∧ (∀ h1, h1 = nwA σ 200 (140 : Int32).toNatClampNeg → ((∀ h2, h2 = wR h1 7 t 0 (some (200, hc σ 200)) → ((∀ h3, h3 = wI h2 7 t 1 0 → ((∀ h4, h4 = wI h3 7 t 2 0 → Q vU h4))))))))))
theorem sX6_init_0 {d rc rs : Nat} {t : Nat}  {σ : XH} {Q : XV → XH → Prop} (h : bX6_init_0 d rc rs t  σ Q) : Ex d rc rs m_X6_init 0 [vR (some (7, t))] [] σ Q :=
  xtree_sound (stop := stpX6_init) okX6_init 15 _ _ _ _ _ _ h
/-! SpotTimers$RuleReader.append(I)V -/
theorem dX6_append_0 : decode cX6_append 0 = .ok (.aload_n 0, 1) := by decide +kernel
theorem dX6_append_1 : decode cX6_append 1 = .ok (.getfield 15, 3) := by decide +kernel
theorem dX6_append_4 : decode cX6_append 4 = .ok (.aload_n 0, 1) := by decide +kernel
theorem dX6_append_5 : decode cX6_append 5 = .ok (.getfield 9, 3) := by decide +kernel
theorem dX6_append_8 : decode cX6_append 8 = .ok (.arraylength, 1) := by decide +kernel
theorem dX6_append_9 : decode cX6_append 9 = .ok (.if_icmp .ge 24, 3) := by decide +kernel
theorem dX6_append_12 : decode cX6_append 12 = .ok (.aload_n 0, 1) := by decide +kernel
theorem dX6_append_13 : decode cX6_append 13 = .ok (.getfield 9, 3) := by decide +kernel
theorem dX6_append_16 : decode cX6_append 16 = .ok (.aload_n 0, 1) := by decide +kernel
theorem dX6_append_17 : decode cX6_append 17 = .ok (.getfield 15, 3) := by decide +kernel
theorem dX6_append_20 : decode cX6_append 20 = .ok (.iload_n 1, 1) := by decide +kernel
theorem dX6_append_21 : decode cX6_append 21 = .ok (.i2b, 1) := by decide +kernel
theorem dX6_append_22 : decode cX6_append 22 = .ok (.bastore, 1) := by decide +kernel
theorem dX6_append_23 : decode cX6_append 23 = .ok (.aload_n 0, 1) := by decide +kernel
theorem dX6_append_24 : decode cX6_append 24 = .ok (.dup, 1) := by decide +kernel
theorem dX6_append_25 : decode cX6_append 25 = .ok (.getfield 15, 3) := by decide +kernel
theorem dX6_append_28 : decode cX6_append 28 = .ok (.iconst 1, 1) := by decide +kernel
theorem dX6_append_29 : decode cX6_append 29 = .ok (.iadd, 1) := by decide +kernel
theorem dX6_append_30 : decode cX6_append 30 = .ok (.putfield 15, 3) := by decide +kernel
theorem dX6_append_33 : decode cX6_append 33 = .ok (.return_, 1) := by decide +kernel
theorem oX6_append_0 : OKI 30 0 (.aload_n 0, 1, [0], 0, 0, []) := And.intro dX6_append_0 (And.intro rfl (rfl))
theorem oX6_append_1 : OKI 30 1 (.getfield 15, 4, [7, 1, 0], 0, 0, []) := And.intro dX6_append_1 (And.intro rfl (⟨(RX6, TX6, 3), "SpotTimers$RuleReader", rfl, by decide, tm_1 _ (List.mem_of_getElem? (i := 69) rfl) rfl, Or.inl rfl, Or.inr (Or.inr (And.intro rfl (Or.inl rfl)))⟩))
theorem oX6_append_4 : OKI 30 4 (.aload_n 0, 5, [0], 0, 0, []) := And.intro dX6_append_4 (And.intro rfl (rfl))
theorem oX6_append_5 : OKI 30 5 (.getfield 9, 8, [7, 0, 2, 200, 0], 0, 0, []) := And.intro dX6_append_5 (And.intro rfl (⟨(RX6, TX6, 3), "SpotTimers$RuleReader", rfl, by decide, tm_1 _ (List.mem_of_getElem? (i := 68) rfl) rfl, Or.inl rfl, rfl, rfl⟩))
theorem oX6_append_8 : OKI 30 8 (.arraylength, 9, [], 0, 0, []) := And.intro dX6_append_8 rfl
theorem oX6_append_9 : OKI 30 9 (.if_icmp .ge 24, 12, [33], 0, 0, []) := And.intro dX6_append_9 (And.intro rfl (by decide))
theorem oX6_append_12 : OKI 30 12 (.aload_n 0, 13, [0], 0, 0, []) := And.intro dX6_append_12 (And.intro rfl (rfl))
theorem oX6_append_13 : OKI 30 13 (.getfield 9, 16, [7, 0, 2, 200, 0], 0, 0, []) := And.intro dX6_append_13 (And.intro rfl (⟨(RX6, TX6, 3), "SpotTimers$RuleReader", rfl, by decide, tm_1 _ (List.mem_of_getElem? (i := 68) rfl) rfl, Or.inl rfl, rfl, rfl⟩))
theorem oX6_append_16 : OKI 30 16 (.aload_n 0, 17, [0], 0, 0, []) := And.intro dX6_append_16 (And.intro rfl (rfl))
theorem oX6_append_17 : OKI 30 17 (.getfield 15, 20, [7, 1, 0], 0, 0, []) := And.intro dX6_append_17 (And.intro rfl (⟨(RX6, TX6, 3), "SpotTimers$RuleReader", rfl, by decide, tm_1 _ (List.mem_of_getElem? (i := 69) rfl) rfl, Or.inl rfl, Or.inr (Or.inr (And.intro rfl (Or.inl rfl)))⟩))
theorem oX6_append_20 : OKI 30 20 (.iload_n 1, 21, [1], 0, 0, []) := And.intro dX6_append_20 (And.intro rfl (rfl))
theorem oX6_append_21 : OKI 30 21 (.i2b, 22, [], 0, 0, []) := And.intro dX6_append_21 rfl
theorem oX6_append_22 : OKI 30 22 (.bastore, 23, [], 0, 0, []) := And.intro dX6_append_22 rfl
theorem oX6_append_23 : OKI 30 23 (.aload_n 0, 24, [0], 0, 0, []) := And.intro dX6_append_23 (And.intro rfl (rfl))
theorem oX6_append_24 : OKI 30 24 (.dup, 25, [], 0, 0, []) := And.intro dX6_append_24 rfl
theorem oX6_append_25 : OKI 30 25 (.getfield 15, 28, [7, 1, 0], 0, 0, []) := And.intro dX6_append_25 (And.intro rfl (⟨(RX6, TX6, 3), "SpotTimers$RuleReader", rfl, by decide, tm_1 _ (List.mem_of_getElem? (i := 69) rfl) rfl, Or.inl rfl, Or.inr (Or.inr (And.intro rfl (Or.inl rfl)))⟩))
theorem oX6_append_28 : OKI 30 28 (.iconst 1, 29, [], 1, 0, []) := And.intro dX6_append_28 (And.intro rfl (by decide +kernel))
theorem oX6_append_29 : OKI 30 29 (.iadd, 30, [], 0, 0, []) := And.intro dX6_append_29 rfl
theorem oX6_append_30 : OKI 30 30 (.putfield 15, 33, [7, 1, 0], 0, 0, []) := And.intro dX6_append_30 (And.intro rfl (⟨(RX6, TX6, 3), "SpotTimers$RuleReader", rfl, by decide, tm_1 _ (List.mem_of_getElem? (i := 69) rfl) rfl, Or.inl rfl, Or.inl rfl, rfl⟩))
theorem oX6_append_33 : OKI 30 33 (.return_, 34, [], 0, 0, []) := And.intro dX6_append_33 rfl
def pfX6_append (pc : Nat) : Option XE := (bif Nat.blt pc 20 then (bif Nat.blt pc 9 then (bif Nat.blt pc 4 then (bif Nat.blt pc 1 then (bif Nat.beq pc 0 then some (.aload_n 0, 1, [0], 0, 0, []) else none) else (bif Nat.beq pc 1 then some (.getfield 15, 4, [7, 1, 0], 0, 0, []) else none)) else (bif Nat.blt pc 5 then (bif Nat.beq pc 4 then some (.aload_n 0, 5, [0], 0, 0, []) else none) else (bif Nat.blt pc 8 then (bif Nat.beq pc 5 then some (.getfield 9, 8, [7, 0, 2, 200, 0], 0, 0, []) else none) else (bif Nat.beq pc 8 then some (.arraylength, 9, [], 0, 0, []) else none)))) else (bif Nat.blt pc 13 then (bif Nat.blt pc 12 then (bif Nat.beq pc 9 then some (.if_icmp .ge 24, 12, [33], 0, 0, []) else none) else (bif Nat.beq pc 12 then some (.aload_n 0, 13, [0], 0, 0, []) else none)) else (bif Nat.blt pc 16 then (bif Nat.beq pc 13 then some (.getfield 9, 16, [7, 0, 2, 200, 0], 0, 0, []) else none) else (bif Nat.blt pc 17 then (bif Nat.beq pc 16 then some (.aload_n 0, 17, [0], 0, 0, []) else none) else (bif Nat.beq pc 17 then some (.getfield 15, 20, [7, 1, 0], 0, 0, []) else none))))) else (bif Nat.blt pc 25 then (bif Nat.blt pc 22 then (bif Nat.blt pc 21 then (bif Nat.beq pc 20 then some (.iload_n 1, 21, [1], 0, 0, []) else none) else (bif Nat.beq pc 21 then some (.i2b, 22, [], 0, 0, []) else none)) else (bif Nat.blt pc 23 then (bif Nat.beq pc 22 then some (.bastore, 23, [], 0, 0, []) else none) else (bif Nat.blt pc 24 then (bif Nat.beq pc 23 then some (.aload_n 0, 24, [0], 0, 0, []) else none) else (bif Nat.beq pc 24 then some (.dup, 25, [], 0, 0, []) else none)))) else (bif Nat.blt pc 29 then (bif Nat.blt pc 28 then (bif Nat.beq pc 25 then some (.getfield 15, 28, [7, 1, 0], 0, 0, []) else none) else (bif Nat.beq pc 28 then some (.iconst 1, 29, [], 1, 0, []) else none)) else (bif Nat.blt pc 30 then (bif Nat.beq pc 29 then some (.iadd, 30, [], 0, 0, []) else none) else (bif Nat.blt pc 33 then (bif Nat.beq pc 30 then some (.putfield 15, 33, [7, 1, 0], 0, 0, []) else none) else (bif Nat.beq pc 33 then some (.return_, 34, [], 0, 0, []) else none))))))
theorem okX6_append : ∀ pc Y, pfX6_append pc = some Y → OKI m_X6_append pc Y := fun pc Y => ((bt_node (bt_node (bt_node (bt_node (bt_leaf (P := OKI m_X6_append) oX6_append_0) (bt_leaf (P := OKI m_X6_append) oX6_append_1)) (bt_node (bt_leaf (P := OKI m_X6_append) oX6_append_4) (bt_node (bt_leaf (P := OKI m_X6_append) oX6_append_5) (bt_leaf (P := OKI m_X6_append) oX6_append_8)))) (bt_node (bt_node (bt_leaf (P := OKI m_X6_append) oX6_append_9) (bt_leaf (P := OKI m_X6_append) oX6_append_12)) (bt_node (bt_leaf (P := OKI m_X6_append) oX6_append_13) (bt_node (bt_leaf (P := OKI m_X6_append) oX6_append_16) (bt_leaf (P := OKI m_X6_append) oX6_append_17))))) (bt_node (bt_node (bt_node (bt_leaf (P := OKI m_X6_append) oX6_append_20) (bt_leaf (P := OKI m_X6_append) oX6_append_21)) (bt_node (bt_leaf (P := OKI m_X6_append) oX6_append_22) (bt_node (bt_leaf (P := OKI m_X6_append) oX6_append_23) (bt_leaf (P := OKI m_X6_append) oX6_append_24)))) (bt_node (bt_node (bt_leaf (P := OKI m_X6_append) oX6_append_25) (bt_leaf (P := OKI m_X6_append) oX6_append_28)) (bt_node (bt_leaf (P := OKI m_X6_append) oX6_append_29) (bt_node (bt_leaf (P := OKI m_X6_append) oX6_append_30) (bt_leaf (P := OKI m_X6_append) oX6_append_33)))))) : pfX6_append pc = some Y → OKI m_X6_append pc Y)
def stpX6_append (pc : Nat) : Option (List Bool) := (bif Nat.beq pc 33 then some [false, false] else none)
def bX6_append_0 (d rc rs : Nat) (t : Nat) (a1 : Int32) (σ : XH) (Q : XV → XH → Prop) : Prop :=
  (((hr σ 7 t 0 = some (200, t) ∧ ((((hi σ 7 t 1) < (Int32.ofNat (hn σ 200 t)) → ((hr σ 7 t 0 = some (200, t) ∧ (((vp_in (hi σ 7 t 1) (hn σ 200 t) ∧ (∀ h1, h1 = wI σ 200 t (hi σ 7 t 1).toNatClampNeg (vp_nar .byte a1.toInt8.toInt32) → (((∀ h2, h2 = wI h1 7 t 1 ((hi h1 7 t 1) + 1) → Ex d rc rs m_X6_append 33 [vU, vU] [] h2 Q)))))))))) ∧ (¬ (hi σ 7 t 1) < (Int32.ofNat (hn σ 200 t)) → Ex d rc rs m_X6_append 33 [vU, vU] [] σ Q))))))
theorem sX6_append_0 {d rc rs : Nat} {t : Nat} {a1 : Int32} {σ : XH} {Q : XV → XH → Prop} (h : bX6_append_0 d rc rs t a1 σ Q) : Ex d rc rs m_X6_append 0 [vR (some (7, t)), vI a1] [] σ Q :=
  xtree_sound (stop := stpX6_append) okX6_append 21 _ _ _ _ _ _ h
def bX6_append_33 (d rc rs : Nat)  (σ : XH) (Q : XV → XH → Prop) : Prop :=
  Q vU σ
theorem sX6_append_33 {d rc rs : Nat}  {σ : XH} {Q : XV → XH → Prop} (h : bX6_append_33 d rc rs  σ Q) : Ex d rc rs m_X6_append 33 [vU, vU] [] σ Q :=
  xtree_sound (stop := stpX6_append) okX6_append 3 _ _ _ _ _ _ h
/-! SpotTimers$RuleReader.understands(LSpotTimers$Rule;)Z -/
theorem dX6_understands_0 : decode cX6_understands 0 = .ok (.aload_n 0, 1) := by decide +kernel
theorem dX6_understands_1 : decode cX6_understands 1 = .ok (.iconst 0, 1) := by decide +kernel
theorem dX6_understands_2 : decode cX6_understands 2 = .ok (.putfield 19, 3) := by decide +kernel
theorem dX6_understands_5 : decode cX6_understands 5 = .ok (.iconst 1, 1) := by decide +kernel
theorem dX6_understands_6 : decode cX6_understands 6 = .ok (.istore_n 2, 1) := by decide +kernel
theorem dX6_understands_7 : decode cX6_understands 7 = .ok (.iload_n 2, 1) := by decide +kernel
theorem dX6_understands_8 : decode cX6_understands 8 = .ok (.bipush 10, 2) := by decide +kernel
theorem dX6_understands_10 : decode cX6_understands 10 = .ok (.if_icmp .gt 49, 3) := by decide +kernel
theorem dX6_understands_13 : decode cX6_understands 13 = .ok (.aload_n 0, 1) := by decide +kernel
theorem dX6_understands_14 : decode cX6_understands 14 = .ok (.aload_n 1, 1) := by decide +kernel
theorem dX6_understands_15 : decode cX6_understands 15 = .ok (.invokevirtual 22, 3) := by decide +kernel
theorem dX6_understands_18 : decode cX6_understands 18 = .ok (.ifCond .ne 5, 3) := by decide +kernel
theorem dX6_understands_21 : decode cX6_understands 21 = .ok (.iconst 0, 1) := by decide +kernel
theorem dX6_understands_22 : decode cX6_understands 22 = .ok (.ireturn, 1) := by decide +kernel
theorem dX6_understands_23 : decode cX6_understands 23 = .ok (.aload_n 0, 1) := by decide +kernel
theorem dX6_understands_24 : decode cX6_understands 24 = .ok (.getfield 19, 3) := by decide +kernel
theorem dX6_understands_27 : decode cX6_understands 27 = .ok (.aload_n 0, 1) := by decide +kernel
theorem dX6_understands_28 : decode cX6_understands 28 = .ok (.getfield 15, 3) := by decide +kernel
theorem dX6_understands_31 : decode cX6_understands 31 = .ok (.if_icmp .lt 5, 3) := by decide +kernel
theorem dX6_understands_34 : decode cX6_understands 34 = .ok (.iconst 1, 1) := by decide +kernel
theorem dX6_understands_35 : decode cX6_understands 35 = .ok (.ireturn, 1) := by decide +kernel
theorem dX6_understands_36 : decode cX6_understands 36 = .ok (.iload_n 2, 1) := by decide +kernel
theorem dX6_understands_37 : decode cX6_understands 37 = .ok (.bipush 10, 2) := by decide +kernel
theorem dX6_understands_39 : decode cX6_understands 39 = .ok (.if_icmp .eq 12, 3) := by decide +kernel
theorem dX6_understands_42 : decode cX6_understands 42 = .ok (.aload_n 0, 1) := by decide +kernel
theorem dX6_understands_43 : decode cX6_understands 43 = .ok (.ldc 26, 2) := by decide +kernel
theorem dX6_understands_45 : decode cX6_understands 45 = .ok (.invokevirtual 28, 3) := by decide +kernel
theorem dX6_understands_48 : decode cX6_understands 48 = .ok (.ifCond .ne 5, 3) := by decide +kernel
theorem dX6_understands_51 : decode cX6_understands 51 = .ok (.iconst 0, 1) := by decide +kernel
theorem dX6_understands_52 : decode cX6_understands 52 = .ok (.ireturn, 1) := by decide +kernel
theorem dX6_understands_53 : decode cX6_understands 53 = .ok (.iinc 2 1, 3) := by decide +kernel
theorem dX6_understands_56 : decode cX6_understands 56 = .ok (.goto (-49), 3) := by decide +kernel
theorem dX6_understands_59 : decode cX6_understands 59 = .ok (.iconst 0, 1) := by decide +kernel
theorem dX6_understands_60 : decode cX6_understands 60 = .ok (.ireturn, 1) := by decide +kernel
theorem oX6_understands_0 : OKI 31 0 (.aload_n 0, 1, [0], 0, 0, []) := And.intro dX6_understands_0 (And.intro rfl (rfl))
theorem oX6_understands_1 : OKI 31 1 (.iconst 0, 2, [], 0, 0, []) := And.intro dX6_understands_1 (And.intro rfl (by decide +kernel))
theorem oX6_understands_2 : OKI 31 2 (.putfield 19, 5, [7, 2, 0], 0, 0, []) := And.intro dX6_understands_2 (And.intro rfl (⟨(RX6, TX6, 3), "SpotTimers$RuleReader", rfl, by decide, tm_1 _ (List.mem_of_getElem? (i := 71) rfl) rfl, Or.inl rfl, Or.inl rfl, rfl⟩))
theorem oX6_understands_5 : OKI 31 5 (.iconst 1, 6, [], 1, 0, []) := And.intro dX6_understands_5 (And.intro rfl (by decide +kernel))
theorem oX6_understands_6 : OKI 31 6 (.istore_n 2, 7, [2], 0, 0, []) := And.intro dX6_understands_6 (And.intro rfl (And.intro rfl (by decide)))
theorem oX6_understands_7 : OKI 31 7 (.iload_n 2, 8, [2], 0, 0, []) := And.intro dX6_understands_7 (And.intro rfl (rfl))
theorem oX6_understands_8 : OKI 31 8 (.bipush 10, 10, [], 10, 0, []) := And.intro dX6_understands_8 (And.intro rfl (by decide +kernel))
theorem oX6_understands_10 : OKI 31 10 (.if_icmp .gt 49, 13, [59], 0, 0, []) := And.intro dX6_understands_10 (And.intro rfl (by decide))
theorem oX6_understands_13 : OKI 31 13 (.aload_n 0, 14, [0], 0, 0, []) := And.intro dX6_understands_13 (And.intro rfl (rfl))
theorem oX6_understands_14 : OKI 31 14 (.aload_n 1, 15, [1], 0, 0, []) := And.intro dX6_understands_14 (And.intro rfl (rfl))
theorem oX6_understands_15 : OKI 31 15 (.invokevirtual 22, 18, [35, 2, 8, 0, 0, 1], 0, 0, []) := And.intro dX6_understands_15 (And.intro rfl (And.intro (by decide) (And.intro (by decide) (And.intro mo_X6_takesClause (And.intro (tm_4 _ (List.mem_of_getElem? (i := 14) rfl) rfl) (And.intro (tm_4 _ (List.mem_of_getElem? (i := 16) rfl) rfl) (And.intro (pm_1 _ (List.mem_of_getElem? (i := 13) rfl)) (Or.inl ⟨(RX6, TX6, 3), rfl, rfl⟩))))))))
theorem oX6_understands_18 : OKI 31 18 (.ifCond .ne 5, 21, [23], 0, 0, []) := And.intro dX6_understands_18 (And.intro rfl (by decide))
theorem oX6_understands_21 : OKI 31 21 (.iconst 0, 22, [], 0, 0, []) := And.intro dX6_understands_21 (And.intro rfl (by decide +kernel))
theorem oX6_understands_22 : OKI 31 22 (.ireturn, 23, [3], 0, 0, []) := And.intro dX6_understands_22 (Or.inr (Or.inl (And.intro rfl rfl)))
theorem oX6_understands_23 : OKI 31 23 (.aload_n 0, 24, [0], 0, 0, []) := And.intro dX6_understands_23 (And.intro rfl (rfl))
theorem oX6_understands_24 : OKI 31 24 (.getfield 19, 27, [7, 2, 0], 0, 0, []) := And.intro dX6_understands_24 (And.intro rfl (⟨(RX6, TX6, 3), "SpotTimers$RuleReader", rfl, by decide, tm_1 _ (List.mem_of_getElem? (i := 71) rfl) rfl, Or.inl rfl, Or.inr (Or.inr (And.intro rfl (Or.inl rfl)))⟩))
theorem oX6_understands_27 : OKI 31 27 (.aload_n 0, 28, [0], 0, 0, []) := And.intro dX6_understands_27 (And.intro rfl (rfl))
theorem oX6_understands_28 : OKI 31 28 (.getfield 15, 31, [7, 1, 0], 0, 0, []) := And.intro dX6_understands_28 (And.intro rfl (⟨(RX6, TX6, 3), "SpotTimers$RuleReader", rfl, by decide, tm_1 _ (List.mem_of_getElem? (i := 69) rfl) rfl, Or.inl rfl, Or.inr (Or.inr (And.intro rfl (Or.inl rfl)))⟩))
theorem oX6_understands_31 : OKI 31 31 (.if_icmp .lt 5, 34, [36], 0, 0, []) := And.intro dX6_understands_31 (And.intro rfl (by decide))
theorem oX6_understands_34 : OKI 31 34 (.iconst 1, 35, [], 1, 0, []) := And.intro dX6_understands_34 (And.intro rfl (by decide +kernel))
theorem oX6_understands_35 : OKI 31 35 (.ireturn, 36, [3], 0, 0, []) := And.intro dX6_understands_35 (Or.inr (Or.inl (And.intro rfl rfl)))
theorem oX6_understands_36 : OKI 31 36 (.iload_n 2, 37, [2], 0, 0, []) := And.intro dX6_understands_36 (And.intro rfl (rfl))
theorem oX6_understands_37 : OKI 31 37 (.bipush 10, 39, [], 10, 0, []) := And.intro dX6_understands_37 (And.intro rfl (by decide +kernel))
theorem oX6_understands_39 : OKI 31 39 (.if_icmp .eq 12, 42, [51], 0, 0, []) := And.intro dX6_understands_39 (And.intro rfl (by decide))
theorem oX6_understands_42 : OKI 31 42 (.aload_n 0, 43, [0], 0, 0, []) := And.intro dX6_understands_42 (And.intro rfl (rfl))
theorem oX6_understands_43 : OKI 31 43 (.ldc 26, 45, [0, 11], 0, 0, []) := And.intro dX6_understands_43 (And.intro rfl (And.intro ⟨_, rfl⟩ rfl))
theorem oX6_understands_45 : OKI 31 45 (.invokevirtual 28, 48, [33, 2, 8, 0, 0, 1], 0, 0, []) := And.intro dX6_understands_45 (And.intro rfl (And.intro (by decide) (And.intro (by decide) (And.intro mo_X6_takes (And.intro (tm_4 _ (List.mem_of_getElem? (i := 23) rfl) rfl) (And.intro (tm_4 _ (List.mem_of_getElem? (i := 25) rfl) rfl) (And.intro (pm_1 _ (List.mem_of_getElem? (i := 15) rfl)) (Or.inl ⟨(RX6, TX6, 3), rfl, rfl⟩))))))))
theorem oX6_understands_48 : OKI 31 48 (.ifCond .ne 5, 51, [53], 0, 0, []) := And.intro dX6_understands_48 (And.intro rfl (by decide))
theorem oX6_understands_51 : OKI 31 51 (.iconst 0, 52, [], 0, 0, []) := And.intro dX6_understands_51 (And.intro rfl (by decide +kernel))
theorem oX6_understands_52 : OKI 31 52 (.ireturn, 53, [3], 0, 0, []) := And.intro dX6_understands_52 (Or.inr (Or.inl (And.intro rfl rfl)))
theorem oX6_understands_53 : OKI 31 53 (.iinc 2 1, 56, [2], 1, 0, []) := And.intro dX6_understands_53 (And.intro rfl (And.intro rfl (And.intro (by decide +kernel) (by decide))))
theorem oX6_understands_56 : OKI 31 56 (.goto (-49), 59, [7], 0, 0, []) := And.intro dX6_understands_56 (And.intro rfl (by decide))
theorem oX6_understands_59 : OKI 31 59 (.iconst 0, 60, [], 0, 0, []) := And.intro dX6_understands_59 (And.intro rfl (by decide +kernel))
theorem oX6_understands_60 : OKI 31 60 (.ireturn, 61, [3], 0, 0, []) := And.intro dX6_understands_60 (Or.inr (Or.inl (And.intro rfl rfl)))
def pfX6_understands (pc : Nat) : Option XE := (bif Nat.blt pc 28 then (bif Nat.blt pc 13 then (bif Nat.blt pc 6 then (bif Nat.blt pc 2 then (bif Nat.blt pc 1 then (bif Nat.beq pc 0 then some (.aload_n 0, 1, [0], 0, 0, []) else none) else (bif Nat.beq pc 1 then some (.iconst 0, 2, [], 0, 0, []) else none)) else (bif Nat.blt pc 5 then (bif Nat.beq pc 2 then some (.putfield 19, 5, [7, 2, 0], 0, 0, []) else none) else (bif Nat.beq pc 5 then some (.iconst 1, 6, [], 1, 0, []) else none))) else (bif Nat.blt pc 8 then (bif Nat.blt pc 7 then (bif Nat.beq pc 6 then some (.istore_n 2, 7, [2], 0, 0, []) else none) else (bif Nat.beq pc 7 then some (.iload_n 2, 8, [2], 0, 0, []) else none)) else (bif Nat.blt pc 10 then (bif Nat.beq pc 8 then some (.bipush 10, 10, [], 10, 0, []) else none) else (bif Nat.beq pc 10 then some (.if_icmp .gt 49, 13, [59], 0, 0, []) else none)))) else (bif Nat.blt pc 21 then (bif Nat.blt pc 15 then (bif Nat.blt pc 14 then (bif Nat.beq pc 13 then some (.aload_n 0, 14, [0], 0, 0, []) else none) else (bif Nat.beq pc 14 then some (.aload_n 1, 15, [1], 0, 0, []) else none)) else (bif Nat.blt pc 18 then (bif Nat.beq pc 15 then some (.invokevirtual 22, 18, [35, 2, 8, 0, 0, 1], 0, 0, []) else none) else (bif Nat.beq pc 18 then some (.ifCond .ne 5, 21, [23], 0, 0, []) else none))) else (bif Nat.blt pc 23 then (bif Nat.blt pc 22 then (bif Nat.beq pc 21 then some (.iconst 0, 22, [], 0, 0, []) else none) else (bif Nat.beq pc 22 then some (.ireturn, 23, [3], 0, 0, []) else none)) else (bif Nat.blt pc 24 then (bif Nat.beq pc 23 then some (.aload_n 0, 24, [0], 0, 0, []) else none) else (bif Nat.blt pc 27 then (bif Nat.beq pc 24 then some (.getfield 19, 27, [7, 2, 0], 0, 0, []) else none) else (bif Nat.beq pc 27 then some (.aload_n 0, 28, [0], 0, 0, []) else none)))))) else (bif Nat.blt pc 43 then (bif Nat.blt pc 36 then (bif Nat.blt pc 34 then (bif Nat.blt pc 31 then (bif Nat.beq pc 28 then some (.getfield 15, 31, [7, 1, 0], 0, 0, []) else none) else (bif Nat.beq pc 31 then some (.if_icmp .lt 5, 34, [36], 0, 0, []) else none)) else (bif Nat.blt pc 35 then (bif Nat.beq pc 34 then some (.iconst 1, 35, [], 1, 0, []) else none) else (bif Nat.beq pc 35 then some (.ireturn, 36, [3], 0, 0, []) else none))) else (bif Nat.blt pc 39 then (bif Nat.blt pc 37 then (bif Nat.beq pc 36 then some (.iload_n 2, 37, [2], 0, 0, []) else none) else (bif Nat.beq pc 37 then some (.bipush 10, 39, [], 10, 0, []) else none)) else (bif Nat.blt pc 42 then (bif Nat.beq pc 39 then some (.if_icmp .eq 12, 42, [51], 0, 0, []) else none) else (bif Nat.beq pc 42 then some (.aload_n 0, 43, [0], 0, 0, []) else none)))) else (bif Nat.blt pc 52 then (bif Nat.blt pc 48 then (bif Nat.blt pc 45 then (bif Nat.beq pc 43 then some (.ldc 26, 45, [0, 11], 0, 0, []) else none) else (bif Nat.beq pc 45 then some (.invokevirtual 28, 48, [33, 2, 8, 0, 0, 1], 0, 0, []) else none)) else (bif Nat.blt pc 51 then (bif Nat.beq pc 48 then some (.ifCond .ne 5, 51, [53], 0, 0, []) else none) else (bif Nat.beq pc 51 then some (.iconst 0, 52, [], 0, 0, []) else none))) else (bif Nat.blt pc 56 then (bif Nat.blt pc 53 then (bif Nat.beq pc 52 then some (.ireturn, 53, [3], 0, 0, []) else none) else (bif Nat.beq pc 53 then some (.iinc 2 1, 56, [2], 1, 0, []) else none)) else (bif Nat.blt pc 59 then (bif Nat.beq pc 56 then some (.goto (-49), 59, [7], 0, 0, []) else none) else (bif Nat.blt pc 60 then (bif Nat.beq pc 59 then some (.iconst 0, 60, [], 0, 0, []) else none) else (bif Nat.beq pc 60 then some (.ireturn, 61, [3], 0, 0, []) else none)))))))
theorem okX6_understands : ∀ pc Y, pfX6_understands pc = some Y → OKI m_X6_understands pc Y := fun pc Y => ((bt_node (bt_node (bt_node (bt_node (bt_node (bt_leaf (P := OKI m_X6_understands) oX6_understands_0) (bt_leaf (P := OKI m_X6_understands) oX6_understands_1)) (bt_node (bt_leaf (P := OKI m_X6_understands) oX6_understands_2) (bt_leaf (P := OKI m_X6_understands) oX6_understands_5))) (bt_node (bt_node (bt_leaf (P := OKI m_X6_understands) oX6_understands_6) (bt_leaf (P := OKI m_X6_understands) oX6_understands_7)) (bt_node (bt_leaf (P := OKI m_X6_understands) oX6_understands_8) (bt_leaf (P := OKI m_X6_understands) oX6_understands_10)))) (bt_node (bt_node (bt_node (bt_leaf (P := OKI m_X6_understands) oX6_understands_13) (bt_leaf (P := OKI m_X6_understands) oX6_understands_14)) (bt_node (bt_leaf (P := OKI m_X6_understands) oX6_understands_15) (bt_leaf (P := OKI m_X6_understands) oX6_understands_18))) (bt_node (bt_node (bt_leaf (P := OKI m_X6_understands) oX6_understands_21) (bt_leaf (P := OKI m_X6_understands) oX6_understands_22)) (bt_node (bt_leaf (P := OKI m_X6_understands) oX6_understands_23) (bt_node (bt_leaf (P := OKI m_X6_understands) oX6_understands_24) (bt_leaf (P := OKI m_X6_understands) oX6_understands_27)))))) (bt_node (bt_node (bt_node (bt_node (bt_leaf (P := OKI m_X6_understands) oX6_understands_28) (bt_leaf (P := OKI m_X6_understands) oX6_understands_31)) (bt_node (bt_leaf (P := OKI m_X6_understands) oX6_understands_34) (bt_leaf (P := OKI m_X6_understands) oX6_understands_35))) (bt_node (bt_node (bt_leaf (P := OKI m_X6_understands) oX6_understands_36) (bt_leaf (P := OKI m_X6_understands) oX6_understands_37)) (bt_node (bt_leaf (P := OKI m_X6_understands) oX6_understands_39) (bt_leaf (P := OKI m_X6_understands) oX6_understands_42)))) (bt_node (bt_node (bt_node (bt_leaf (P := OKI m_X6_understands) oX6_understands_43) (bt_leaf (P := OKI m_X6_understands) oX6_understands_45)) (bt_node (bt_leaf (P := OKI m_X6_understands) oX6_understands_48) (bt_leaf (P := OKI m_X6_understands) oX6_understands_51))) (bt_node (bt_node (bt_leaf (P := OKI m_X6_understands) oX6_understands_52) (bt_leaf (P := OKI m_X6_understands) oX6_understands_53)) (bt_node (bt_leaf (P := OKI m_X6_understands) oX6_understands_56) (bt_node (bt_leaf (P := OKI m_X6_understands) oX6_understands_59) (bt_leaf (P := OKI m_X6_understands) oX6_understands_60))))))) : pfX6_understands pc = some Y → OKI m_X6_understands pc Y)
def stpX6_understands (pc : Nat) : Option (List Bool) := (bif Nat.blt pc 51 then (bif Nat.beq pc 7 then some [true, true, true] else none) else (bif Nat.beq pc 51 then some [false, false, false] else none))
def bX6_understands_0 (d rc rs : Nat) (t : Nat) (a1 : Option XO) (σ : XH) (Q : XV → XH → Prop) : Prop :=
  ((∀ h1, h1 = wI σ 7 t 2 0 → Ex d rc rs m_X6_understands 7 [vR (some (7, t)), vR a1, vI 1] [] h1 Q))
theorem sX6_understands_0 {d rc rs : Nat} {t : Nat} {a1 : Option XO} {σ : XH} {Q : XV → XH → Prop} (h : bX6_understands_0 d rc rs t a1 σ Q) : Ex d rc rs m_X6_understands 0 [vR (some (7, t)), vR a1, vU] [] σ Q :=
  xtree_sound (stop := stpX6_understands) okX6_understands 7 _ _ _ _ _ _ h
def bX6_understands_7 (d rc rs : Nat) (t : Nat) (l1 : Option XO) (l2 : Int32) (σ : XH) (Q : XV → XH → Prop) : Prop :=
  ((10 < l2 → (((0 : Int32) = 0 ∨ (0 : Int32) = 1) ∧ Q (vI 0) σ)) ∧ (¬ 10 < l2 → ((1 ≤ d ∧ Ec (d - 1) 0 0 m_X6_takesClause [vR (some (7, t)), vR l1] σ (kI fun x2 h1 => ((x2 = 0 → (((0 : Int32) = 0 ∨ (0 : Int32) = 1) ∧ Q (vI 0) h1)) ∧ (¬ x2 = 0 → (((((hi h1 7 t 2) < (hi h1 7 t 1) → ((l2 = 10 → Ex d rc rs m_X6_understands 51 [vU, vU, vU] [] h1 Q) ∧ (¬ l2 = 10 → ((1 ≤ d ∧ Ec (d - 1) 0 0 m_X6_takes [vR (some (7, t)), vR (some (512, 11))] h1 (kI fun x4 h3 => ((x4 = 0 → Ex d rc rs m_X6_understands 51 [vU, vU, vU] [] h3 Q) ∧ (¬ x4 = 0 → Ex d rc rs m_X6_understands 7 [vR (some (7, t)), vR l1, vI (l2 + 1)] [] h3 Q)))))))) ∧ (¬ (hi h1 7 t 2) < (hi h1 7 t 1) → (((1 : Int32) = 0 ∨ (1 : Int32) = 1) ∧ Q (vI 1) h1))))))))))))
theorem sX6_understands_7 {d rc rs : Nat} {t : Nat} {l1 : Option XO} {l2 : Int32} {σ : XH} {Q : XV → XH → Prop} (h : bX6_understands_7 d rc rs t l1 l2 σ Q) : Ex d rc rs m_X6_understands 7 [vR (some (7, t)), vR l1, vI l2] [] σ Q :=
  xtree_sound (stop := stpX6_understands) okX6_understands 23 _ _ _ _ _ _ h
def bX6_understands_51 (d rc rs : Nat)  (σ : XH) (Q : XV → XH → Prop) : Prop :=
  (((0 : Int32) = 0 ∨ (0 : Int32) = 1) ∧ Q (vI 0) σ)
theorem sX6_understands_51 {d rc rs : Nat}  {σ : XH} {Q : XV → XH → Prop} (h : bX6_understands_51 d rc rs  σ Q) : Ex d rc rs m_X6_understands 51 [vU, vU, vU] [] σ Q :=
  xtree_sound (stop := stpX6_understands) okX6_understands 4 _ _ _ _ _ _ h
/-! SpotTimers$RuleReader.next()I -/
theorem dX6_next_0 : decode cX6_next 0 = .ok (.aload_n 0, 1) := by decide +kernel
theorem dX6_next_1 : decode cX6_next 1 = .ok (.getfield 19, 3) := by decide +kernel
theorem dX6_next_4 : decode cX6_next 4 = .ok (.aload_n 0, 1) := by decide +kernel
theorem dX6_next_5 : decode cX6_next 5 = .ok (.getfield 15, 3) := by decide +kernel
theorem dX6_next_8 : decode cX6_next 8 = .ok (.if_icmp .ge 31, 3) := by decide +kernel
theorem dX6_next_11 : decode cX6_next 11 = .ok (.aload_n 0, 1) := by decide +kernel
theorem dX6_next_12 : decode cX6_next 12 = .ok (.getfield 19, 3) := by decide +kernel
theorem dX6_next_15 : decode cX6_next 15 = .ok (.aload_n 0, 1) := by decide +kernel
theorem dX6_next_16 : decode cX6_next 16 = .ok (.getfield 9, 3) := by decide +kernel
theorem dX6_next_19 : decode cX6_next 19 = .ok (.arraylength, 1) := by decide +kernel
theorem dX6_next_20 : decode cX6_next 20 = .ok (.if_icmp .ge 19, 3) := by decide +kernel
theorem dX6_next_23 : decode cX6_next 23 = .ok (.aload_n 0, 1) := by decide +kernel
theorem dX6_next_24 : decode cX6_next 24 = .ok (.getfield 9, 3) := by decide +kernel
theorem dX6_next_27 : decode cX6_next 27 = .ok (.aload_n 0, 1) := by decide +kernel
theorem dX6_next_28 : decode cX6_next 28 = .ok (.getfield 19, 3) := by decide +kernel
theorem dX6_next_31 : decode cX6_next 31 = .ok (.baload, 1) := by decide +kernel
theorem dX6_next_32 : decode cX6_next 32 = .ok (.sipush 255, 3) := by decide +kernel
theorem dX6_next_35 : decode cX6_next 35 = .ok (.iand, 1) := by decide +kernel
theorem dX6_next_36 : decode cX6_next 36 = .ok (.goto 4, 3) := by decide +kernel
theorem dX6_next_39 : decode cX6_next 39 = .ok (.iconst (-1), 1) := by decide +kernel
theorem dX6_next_40 : decode cX6_next 40 = .ok (.ireturn, 1) := by decide +kernel
theorem oX6_next_0 : OKI 32 0 (.aload_n 0, 1, [0], 0, 0, []) := And.intro dX6_next_0 (And.intro rfl (rfl))
theorem oX6_next_1 : OKI 32 1 (.getfield 19, 4, [7, 2, 0], 0, 0, []) := And.intro dX6_next_1 (And.intro rfl (⟨(RX6, TX6, 3), "SpotTimers$RuleReader", rfl, by decide, tm_1 _ (List.mem_of_getElem? (i := 71) rfl) rfl, Or.inl rfl, Or.inr (Or.inr (And.intro rfl (Or.inl rfl)))⟩))
theorem oX6_next_4 : OKI 32 4 (.aload_n 0, 5, [0], 0, 0, []) := And.intro dX6_next_4 (And.intro rfl (rfl))
theorem oX6_next_5 : OKI 32 5 (.getfield 15, 8, [7, 1, 0], 0, 0, []) := And.intro dX6_next_5 (And.intro rfl (⟨(RX6, TX6, 3), "SpotTimers$RuleReader", rfl, by decide, tm_1 _ (List.mem_of_getElem? (i := 69) rfl) rfl, Or.inl rfl, Or.inr (Or.inr (And.intro rfl (Or.inl rfl)))⟩))
theorem oX6_next_8 : OKI 32 8 (.if_icmp .ge 31, 11, [39], 0, 0, []) := And.intro dX6_next_8 (And.intro rfl (by decide))
theorem oX6_next_11 : OKI 32 11 (.aload_n 0, 12, [0], 0, 0, []) := And.intro dX6_next_11 (And.intro rfl (rfl))
theorem oX6_next_12 : OKI 32 12 (.getfield 19, 15, [7, 2, 0], 0, 0, []) := And.intro dX6_next_12 (And.intro rfl (⟨(RX6, TX6, 3), "SpotTimers$RuleReader", rfl, by decide, tm_1 _ (List.mem_of_getElem? (i := 71) rfl) rfl, Or.inl rfl, Or.inr (Or.inr (And.intro rfl (Or.inl rfl)))⟩))
theorem oX6_next_15 : OKI 32 15 (.aload_n 0, 16, [0], 0, 0, []) := And.intro dX6_next_15 (And.intro rfl (rfl))
theorem oX6_next_16 : OKI 32 16 (.getfield 9, 19, [7, 0, 2, 200, 0], 0, 0, []) := And.intro dX6_next_16 (And.intro rfl (⟨(RX6, TX6, 3), "SpotTimers$RuleReader", rfl, by decide, tm_1 _ (List.mem_of_getElem? (i := 68) rfl) rfl, Or.inl rfl, rfl, rfl⟩))
theorem oX6_next_19 : OKI 32 19 (.arraylength, 20, [], 0, 0, []) := And.intro dX6_next_19 rfl
theorem oX6_next_20 : OKI 32 20 (.if_icmp .ge 19, 23, [39], 0, 0, []) := And.intro dX6_next_20 (And.intro rfl (by decide))
theorem oX6_next_23 : OKI 32 23 (.aload_n 0, 24, [0], 0, 0, []) := And.intro dX6_next_23 (And.intro rfl (rfl))
theorem oX6_next_24 : OKI 32 24 (.getfield 9, 27, [7, 0, 2, 200, 0], 0, 0, []) := And.intro dX6_next_24 (And.intro rfl (⟨(RX6, TX6, 3), "SpotTimers$RuleReader", rfl, by decide, tm_1 _ (List.mem_of_getElem? (i := 68) rfl) rfl, Or.inl rfl, rfl, rfl⟩))
theorem oX6_next_27 : OKI 32 27 (.aload_n 0, 28, [0], 0, 0, []) := And.intro dX6_next_27 (And.intro rfl (rfl))
theorem oX6_next_28 : OKI 32 28 (.getfield 19, 31, [7, 2, 0], 0, 0, []) := And.intro dX6_next_28 (And.intro rfl (⟨(RX6, TX6, 3), "SpotTimers$RuleReader", rfl, by decide, tm_1 _ (List.mem_of_getElem? (i := 71) rfl) rfl, Or.inl rfl, Or.inr (Or.inr (And.intro rfl (Or.inl rfl)))⟩))
theorem oX6_next_31 : OKI 32 31 (.baload, 32, [], 0, 0, []) := And.intro dX6_next_31 rfl
theorem oX6_next_32 : OKI 32 32 (.sipush 255, 35, [], 255, 0, []) := And.intro dX6_next_32 (And.intro rfl (by decide +kernel))
theorem oX6_next_35 : OKI 32 35 (.iand, 36, [], 0, 0, []) := And.intro dX6_next_35 rfl
theorem oX6_next_36 : OKI 32 36 (.goto 4, 39, [40], 0, 0, []) := And.intro dX6_next_36 (And.intro rfl (by decide))
theorem oX6_next_39 : OKI 32 39 (.iconst (-1), 40, [], (-1), 0, []) := And.intro dX6_next_39 (And.intro rfl (by decide +kernel))
theorem oX6_next_40 : OKI 32 40 (.ireturn, 41, [0], 0, 0, []) := And.intro dX6_next_40 (Or.inl (And.intro rfl rfl))
def pfX6_next (pc : Nat) : Option XE := (bif Nat.blt pc 20 then (bif Nat.blt pc 11 then (bif Nat.blt pc 4 then (bif Nat.blt pc 1 then (bif Nat.beq pc 0 then some (.aload_n 0, 1, [0], 0, 0, []) else none) else (bif Nat.beq pc 1 then some (.getfield 19, 4, [7, 2, 0], 0, 0, []) else none)) else (bif Nat.blt pc 5 then (bif Nat.beq pc 4 then some (.aload_n 0, 5, [0], 0, 0, []) else none) else (bif Nat.blt pc 8 then (bif Nat.beq pc 5 then some (.getfield 15, 8, [7, 1, 0], 0, 0, []) else none) else (bif Nat.beq pc 8 then some (.if_icmp .ge 31, 11, [39], 0, 0, []) else none)))) else (bif Nat.blt pc 15 then (bif Nat.blt pc 12 then (bif Nat.beq pc 11 then some (.aload_n 0, 12, [0], 0, 0, []) else none) else (bif Nat.beq pc 12 then some (.getfield 19, 15, [7, 2, 0], 0, 0, []) else none)) else (bif Nat.blt pc 16 then (bif Nat.beq pc 15 then some (.aload_n 0, 16, [0], 0, 0, []) else none) else (bif Nat.blt pc 19 then (bif Nat.beq pc 16 then some (.getfield 9, 19, [7, 0, 2, 200, 0], 0, 0, []) else none) else (bif Nat.beq pc 19 then some (.arraylength, 20, [], 0, 0, []) else none))))) else (bif Nat.blt pc 31 then (bif Nat.blt pc 24 then (bif Nat.blt pc 23 then (bif Nat.beq pc 20 then some (.if_icmp .ge 19, 23, [39], 0, 0, []) else none) else (bif Nat.beq pc 23 then some (.aload_n 0, 24, [0], 0, 0, []) else none)) else (bif Nat.blt pc 27 then (bif Nat.beq pc 24 then some (.getfield 9, 27, [7, 0, 2, 200, 0], 0, 0, []) else none) else (bif Nat.blt pc 28 then (bif Nat.beq pc 27 then some (.aload_n 0, 28, [0], 0, 0, []) else none) else (bif Nat.beq pc 28 then some (.getfield 19, 31, [7, 2, 0], 0, 0, []) else none)))) else (bif Nat.blt pc 36 then (bif Nat.blt pc 32 then (bif Nat.beq pc 31 then some (.baload, 32, [], 0, 0, []) else none) else (bif Nat.blt pc 35 then (bif Nat.beq pc 32 then some (.sipush 255, 35, [], 255, 0, []) else none) else (bif Nat.beq pc 35 then some (.iand, 36, [], 0, 0, []) else none))) else (bif Nat.blt pc 39 then (bif Nat.beq pc 36 then some (.goto 4, 39, [40], 0, 0, []) else none) else (bif Nat.blt pc 40 then (bif Nat.beq pc 39 then some (.iconst (-1), 40, [], (-1), 0, []) else none) else (bif Nat.beq pc 40 then some (.ireturn, 41, [0], 0, 0, []) else none))))))
theorem okX6_next : ∀ pc Y, pfX6_next pc = some Y → OKI m_X6_next pc Y := fun pc Y => ((bt_node (bt_node (bt_node (bt_node (bt_leaf (P := OKI m_X6_next) oX6_next_0) (bt_leaf (P := OKI m_X6_next) oX6_next_1)) (bt_node (bt_leaf (P := OKI m_X6_next) oX6_next_4) (bt_node (bt_leaf (P := OKI m_X6_next) oX6_next_5) (bt_leaf (P := OKI m_X6_next) oX6_next_8)))) (bt_node (bt_node (bt_leaf (P := OKI m_X6_next) oX6_next_11) (bt_leaf (P := OKI m_X6_next) oX6_next_12)) (bt_node (bt_leaf (P := OKI m_X6_next) oX6_next_15) (bt_node (bt_leaf (P := OKI m_X6_next) oX6_next_16) (bt_leaf (P := OKI m_X6_next) oX6_next_19))))) (bt_node (bt_node (bt_node (bt_leaf (P := OKI m_X6_next) oX6_next_20) (bt_leaf (P := OKI m_X6_next) oX6_next_23)) (bt_node (bt_leaf (P := OKI m_X6_next) oX6_next_24) (bt_node (bt_leaf (P := OKI m_X6_next) oX6_next_27) (bt_leaf (P := OKI m_X6_next) oX6_next_28)))) (bt_node (bt_node (bt_leaf (P := OKI m_X6_next) oX6_next_31) (bt_node (bt_leaf (P := OKI m_X6_next) oX6_next_32) (bt_leaf (P := OKI m_X6_next) oX6_next_35))) (bt_node (bt_leaf (P := OKI m_X6_next) oX6_next_36) (bt_node (bt_leaf (P := OKI m_X6_next) oX6_next_39) (bt_leaf (P := OKI m_X6_next) oX6_next_40)))))) : pfX6_next pc = some Y → OKI m_X6_next pc Y)
def stpX6_next (pc : Nat) : Option (List Bool) := (bif Nat.blt pc 40 then (bif Nat.beq pc 39 then some [false] else none) else (bif Nat.beq pc 40 then some [false] else none))
def bX6_next_0 (d rc rs : Nat) (t : Nat)  (σ : XH) (Q : XV → XH → Prop) : Prop :=
  (((((hi σ 7 t 2) < (hi σ 7 t 1) → (((hr σ 7 t 0 = some (200, t) ∧ ((((hi σ 7 t 2) < (Int32.ofNat (hn σ 200 t)) → ((hr σ 7 t 0 = some (200, t) ∧ (((vp_in (hi σ 7 t 2) (hn σ 200 t) ∧ Ex d rc rs m_X6_next 40 [vU] [vI ((hi σ 200 t (hi σ 7 t 2).toNatClampNeg) &&& 255)] σ Q)))))) ∧ (¬ (hi σ 7 t 2) < (Int32.ofNat (hn σ 200 t)) → Ex d rc rs m_X6_next 39 [vU] [] σ Q))))))) ∧ (¬ (hi σ 7 t 2) < (hi σ 7 t 1) → Ex d rc rs m_X6_next 39 [vU] [] σ Q))))
theorem sX6_next_0 {d rc rs : Nat} {t : Nat}  {σ : XH} {Q : XV → XH → Prop} (h : bX6_next_0 d rc rs t  σ Q) : Ex d rc rs m_X6_next 0 [vR (some (7, t))] [] σ Q :=
  xtree_sound (stop := stpX6_next) okX6_next 21 _ _ _ _ _ _ h
def bX6_next_39 (d rc rs : Nat)  (σ : XH) (Q : XV → XH → Prop) : Prop :=
  Ex d rc rs m_X6_next 40 [vU] [vI (-1)] σ Q
theorem sX6_next_39 {d rc rs : Nat}  {σ : XH} {Q : XV → XH → Prop} (h : bX6_next_39 d rc rs  σ Q) : Ex d rc rs m_X6_next 39 [vU] [] σ Q :=
  xtree_sound (stop := stpX6_next) okX6_next 3 _ _ _ _ _ _ h
def bX6_next_40 (d rc rs : Nat) (q0 : Int32) (σ : XH) (Q : XV → XH → Prop) : Prop :=
  Q (vI q0) σ
theorem sX6_next_40 {d rc rs : Nat} {q0 : Int32} {σ : XH} {Q : XV → XH → Prop} (h : bX6_next_40 d rc rs q0 σ Q) : Ex d rc rs m_X6_next 40 [vU] [vI q0] σ Q :=
  xtree_sound (stop := stpX6_next) okX6_next 3 _ _ _ _ _ _ h
/-! SpotTimers$RuleReader.takes(Ljava/lang/String;)Z -/
theorem dX6_takes_0 : decode cX6_takes 0 = .ok (.iconst 0, 1) := by decide +kernel
theorem dX6_takes_1 : decode cX6_takes 1 = .ok (.istore_n 2, 1) := by decide +kernel
theorem dX6_takes_2 : decode cX6_takes 2 = .ok (.iload_n 2, 1) := by decide +kernel
theorem dX6_takes_3 : decode cX6_takes 3 = .ok (.aload_n 1, 1) := by decide +kernel
theorem dX6_takes_4 : decode cX6_takes 4 = .ok (.invokevirtual 32, 3) := by decide +kernel
theorem dX6_takes_7 : decode cX6_takes 7 = .ok (.if_icmp .ge 33, 3) := by decide +kernel
theorem dX6_takes_10 : decode cX6_takes 10 = .ok (.aload_n 0, 1) := by decide +kernel
theorem dX6_takes_11 : decode cX6_takes 11 = .ok (.invokevirtual 38, 3) := by decide +kernel
theorem dX6_takes_14 : decode cX6_takes 14 = .ok (.aload_n 1, 1) := by decide +kernel
theorem dX6_takes_15 : decode cX6_takes 15 = .ok (.iload_n 2, 1) := by decide +kernel
theorem dX6_takes_16 : decode cX6_takes 16 = .ok (.invokevirtual 41, 3) := by decide +kernel
theorem dX6_takes_19 : decode cX6_takes 19 = .ok (.if_icmp .eq 5, 3) := by decide +kernel
theorem dX6_takes_22 : decode cX6_takes 22 = .ok (.iconst 0, 1) := by decide +kernel
theorem dX6_takes_23 : decode cX6_takes 23 = .ok (.ireturn, 1) := by decide +kernel
theorem dX6_takes_24 : decode cX6_takes 24 = .ok (.aload_n 0, 1) := by decide +kernel
theorem dX6_takes_25 : decode cX6_takes 25 = .ok (.dup, 1) := by decide +kernel
theorem dX6_takes_26 : decode cX6_takes 26 = .ok (.getfield 19, 3) := by decide +kernel
theorem dX6_takes_29 : decode cX6_takes 29 = .ok (.iconst 1, 1) := by decide +kernel
theorem dX6_takes_30 : decode cX6_takes 30 = .ok (.iadd, 1) := by decide +kernel
theorem dX6_takes_31 : decode cX6_takes 31 = .ok (.putfield 19, 3) := by decide +kernel
theorem dX6_takes_34 : decode cX6_takes 34 = .ok (.iinc 2 1, 3) := by decide +kernel
theorem dX6_takes_37 : decode cX6_takes 37 = .ok (.goto (-35), 3) := by decide +kernel
theorem dX6_takes_40 : decode cX6_takes 40 = .ok (.iconst 1, 1) := by decide +kernel
theorem dX6_takes_41 : decode cX6_takes 41 = .ok (.ireturn, 1) := by decide +kernel
theorem oX6_takes_0 : OKI 33 0 (.iconst 0, 1, [], 0, 0, []) := And.intro dX6_takes_0 (And.intro rfl (by decide +kernel))
theorem oX6_takes_1 : OKI 33 1 (.istore_n 2, 2, [2], 0, 0, []) := And.intro dX6_takes_1 (And.intro rfl (And.intro rfl (by decide)))
theorem oX6_takes_2 : OKI 33 2 (.iload_n 2, 3, [2], 0, 0, []) := And.intro dX6_takes_2 (And.intro rfl (rfl))
theorem oX6_takes_3 : OKI 33 3 (.aload_n 1, 4, [1], 0, 0, []) := And.intro dX6_takes_3 (And.intro rfl (rfl))
theorem oX6_takes_4 : OKI 33 4 (.invokevirtual 32, 7, [256, 1, 513, 0, 0, 1], 0, 0, []) := And.intro dX6_takes_4 (And.intro rfl (And.intro (by decide) (And.intro (by decide) (And.intro mo_J0_length_8abf5 (And.intro (tm_4 _ (List.mem_of_getElem? (i := 27) rfl) rfl) (And.intro (tm_4 _ (List.mem_of_getElem? (i := 28) rfl) rfl) (And.intro (tm_4 _ (List.mem_of_getElem? (i := 29) rfl) rfl) (Or.inr (And.intro rfl rfl)))))))))
theorem oX6_takes_7 : OKI 33 7 (.if_icmp .ge 33, 10, [40], 0, 0, []) := And.intro dX6_takes_7 (And.intro rfl (by decide))
theorem oX6_takes_10 : OKI 33 10 (.aload_n 0, 11, [0], 0, 0, []) := And.intro dX6_takes_10 (And.intro rfl (rfl))
theorem oX6_takes_11 : OKI 33 11 (.invokevirtual 38, 14, [32, 1, 8, 0, 0, 1], 0, 0, []) := And.intro dX6_takes_11 (And.intro rfl (And.intro (by decide) (And.intro (by decide) (And.intro mo_X6_next (And.intro (tm_4 _ (List.mem_of_getElem? (i := 18) rfl) rfl) (And.intro (tm_4 _ (List.mem_of_getElem? (i := 20) rfl) rfl) (And.intro (pm_1 _ (List.mem_of_getElem? (i := 14) rfl)) (Or.inl ⟨(RX6, TX6, 3), rfl, rfl⟩))))))))
theorem oX6_takes_14 : OKI 33 14 (.aload_n 1, 15, [1], 0, 0, []) := And.intro dX6_takes_14 (And.intro rfl (rfl))
theorem oX6_takes_15 : OKI 33 15 (.iload_n 2, 16, [2], 0, 0, []) := And.intro dX6_takes_15 (And.intro rfl (rfl))
theorem oX6_takes_16 : OKI 33 16 (.invokevirtual 41, 19, [257, 2, 513, 0, 0, 1], 0, 0, []) := And.intro dX6_takes_16 (And.intro rfl (And.intro (by decide) (And.intro (by decide) (And.intro mo_J0_charAt_5068e (And.intro (tm_4 _ (List.mem_of_getElem? (i := 37) rfl) rfl) (And.intro (tm_4 _ (List.mem_of_getElem? (i := 38) rfl) rfl) (And.intro (tm_4 _ (List.mem_of_getElem? (i := 39) rfl) rfl) (Or.inr (And.intro rfl rfl)))))))))
theorem oX6_takes_19 : OKI 33 19 (.if_icmp .eq 5, 22, [24], 0, 0, []) := And.intro dX6_takes_19 (And.intro rfl (by decide))
theorem oX6_takes_22 : OKI 33 22 (.iconst 0, 23, [], 0, 0, []) := And.intro dX6_takes_22 (And.intro rfl (by decide +kernel))
theorem oX6_takes_23 : OKI 33 23 (.ireturn, 24, [3], 0, 0, []) := And.intro dX6_takes_23 (Or.inr (Or.inl (And.intro rfl rfl)))
theorem oX6_takes_24 : OKI 33 24 (.aload_n 0, 25, [0], 0, 0, []) := And.intro dX6_takes_24 (And.intro rfl (rfl))
theorem oX6_takes_25 : OKI 33 25 (.dup, 26, [], 0, 0, []) := And.intro dX6_takes_25 rfl
theorem oX6_takes_26 : OKI 33 26 (.getfield 19, 29, [7, 2, 0], 0, 0, []) := And.intro dX6_takes_26 (And.intro rfl (⟨(RX6, TX6, 3), "SpotTimers$RuleReader", rfl, by decide, tm_1 _ (List.mem_of_getElem? (i := 71) rfl) rfl, Or.inl rfl, Or.inr (Or.inr (And.intro rfl (Or.inl rfl)))⟩))
theorem oX6_takes_29 : OKI 33 29 (.iconst 1, 30, [], 1, 0, []) := And.intro dX6_takes_29 (And.intro rfl (by decide +kernel))
theorem oX6_takes_30 : OKI 33 30 (.iadd, 31, [], 0, 0, []) := And.intro dX6_takes_30 rfl
theorem oX6_takes_31 : OKI 33 31 (.putfield 19, 34, [7, 2, 0], 0, 0, []) := And.intro dX6_takes_31 (And.intro rfl (⟨(RX6, TX6, 3), "SpotTimers$RuleReader", rfl, by decide, tm_1 _ (List.mem_of_getElem? (i := 71) rfl) rfl, Or.inl rfl, Or.inl rfl, rfl⟩))
theorem oX6_takes_34 : OKI 33 34 (.iinc 2 1, 37, [2], 1, 0, []) := And.intro dX6_takes_34 (And.intro rfl (And.intro rfl (And.intro (by decide +kernel) (by decide))))
theorem oX6_takes_37 : OKI 33 37 (.goto (-35), 40, [2], 0, 0, []) := And.intro dX6_takes_37 (And.intro rfl (by decide))
theorem oX6_takes_40 : OKI 33 40 (.iconst 1, 41, [], 1, 0, []) := And.intro dX6_takes_40 (And.intro rfl (by decide +kernel))
theorem oX6_takes_41 : OKI 33 41 (.ireturn, 42, [3], 0, 0, []) := And.intro dX6_takes_41 (Or.inr (Or.inl (And.intro rfl rfl)))
def pfX6_takes (pc : Nat) : Option XE := (bif Nat.blt pc 22 then (bif Nat.blt pc 10 then (bif Nat.blt pc 3 then (bif Nat.blt pc 1 then (bif Nat.beq pc 0 then some (.iconst 0, 1, [], 0, 0, []) else none) else (bif Nat.blt pc 2 then (bif Nat.beq pc 1 then some (.istore_n 2, 2, [2], 0, 0, []) else none) else (bif Nat.beq pc 2 then some (.iload_n 2, 3, [2], 0, 0, []) else none))) else (bif Nat.blt pc 4 then (bif Nat.beq pc 3 then some (.aload_n 1, 4, [1], 0, 0, []) else none) else (bif Nat.blt pc 7 then (bif Nat.beq pc 4 then some (.invokevirtual 32, 7, [256, 1, 513, 0, 0, 1], 0, 0, []) else none) else (bif Nat.beq pc 7 then some (.if_icmp .ge 33, 10, [40], 0, 0, []) else none)))) else (bif Nat.blt pc 15 then (bif Nat.blt pc 11 then (bif Nat.beq pc 10 then some (.aload_n 0, 11, [0], 0, 0, []) else none) else (bif Nat.blt pc 14 then (bif Nat.beq pc 11 then some (.invokevirtual 38, 14, [32, 1, 8, 0, 0, 1], 0, 0, []) else none) else (bif Nat.beq pc 14 then some (.aload_n 1, 15, [1], 0, 0, []) else none))) else (bif Nat.blt pc 16 then (bif Nat.beq pc 15 then some (.iload_n 2, 16, [2], 0, 0, []) else none) else (bif Nat.blt pc 19 then (bif Nat.beq pc 16 then some (.invokevirtual 41, 19, [257, 2, 513, 0, 0, 1], 0, 0, []) else none) else (bif Nat.beq pc 19 then some (.if_icmp .eq 5, 22, [24], 0, 0, []) else none))))) else (bif Nat.blt pc 30 then (bif Nat.blt pc 25 then (bif Nat.blt pc 23 then (bif Nat.beq pc 22 then some (.iconst 0, 23, [], 0, 0, []) else none) else (bif Nat.blt pc 24 then (bif Nat.beq pc 23 then some (.ireturn, 24, [3], 0, 0, []) else none) else (bif Nat.beq pc 24 then some (.aload_n 0, 25, [0], 0, 0, []) else none))) else (bif Nat.blt pc 26 then (bif Nat.beq pc 25 then some (.dup, 26, [], 0, 0, []) else none) else (bif Nat.blt pc 29 then (bif Nat.beq pc 26 then some (.getfield 19, 29, [7, 2, 0], 0, 0, []) else none) else (bif Nat.beq pc 29 then some (.iconst 1, 30, [], 1, 0, []) else none)))) else (bif Nat.blt pc 37 then (bif Nat.blt pc 31 then (bif Nat.beq pc 30 then some (.iadd, 31, [], 0, 0, []) else none) else (bif Nat.blt pc 34 then (bif Nat.beq pc 31 then some (.putfield 19, 34, [7, 2, 0], 0, 0, []) else none) else (bif Nat.beq pc 34 then some (.iinc 2 1, 37, [2], 1, 0, []) else none))) else (bif Nat.blt pc 40 then (bif Nat.beq pc 37 then some (.goto (-35), 40, [2], 0, 0, []) else none) else (bif Nat.blt pc 41 then (bif Nat.beq pc 40 then some (.iconst 1, 41, [], 1, 0, []) else none) else (bif Nat.beq pc 41 then some (.ireturn, 42, [3], 0, 0, []) else none))))))
theorem okX6_takes : ∀ pc Y, pfX6_takes pc = some Y → OKI m_X6_takes pc Y := fun pc Y => ((bt_node (bt_node (bt_node (bt_node (bt_leaf (P := OKI m_X6_takes) oX6_takes_0) (bt_node (bt_leaf (P := OKI m_X6_takes) oX6_takes_1) (bt_leaf (P := OKI m_X6_takes) oX6_takes_2))) (bt_node (bt_leaf (P := OKI m_X6_takes) oX6_takes_3) (bt_node (bt_leaf (P := OKI m_X6_takes) oX6_takes_4) (bt_leaf (P := OKI m_X6_takes) oX6_takes_7)))) (bt_node (bt_node (bt_leaf (P := OKI m_X6_takes) oX6_takes_10) (bt_node (bt_leaf (P := OKI m_X6_takes) oX6_takes_11) (bt_leaf (P := OKI m_X6_takes) oX6_takes_14))) (bt_node (bt_leaf (P := OKI m_X6_takes) oX6_takes_15) (bt_node (bt_leaf (P := OKI m_X6_takes) oX6_takes_16) (bt_leaf (P := OKI m_X6_takes) oX6_takes_19))))) (bt_node (bt_node (bt_node (bt_leaf (P := OKI m_X6_takes) oX6_takes_22) (bt_node (bt_leaf (P := OKI m_X6_takes) oX6_takes_23) (bt_leaf (P := OKI m_X6_takes) oX6_takes_24))) (bt_node (bt_leaf (P := OKI m_X6_takes) oX6_takes_25) (bt_node (bt_leaf (P := OKI m_X6_takes) oX6_takes_26) (bt_leaf (P := OKI m_X6_takes) oX6_takes_29)))) (bt_node (bt_node (bt_leaf (P := OKI m_X6_takes) oX6_takes_30) (bt_node (bt_leaf (P := OKI m_X6_takes) oX6_takes_31) (bt_leaf (P := OKI m_X6_takes) oX6_takes_34))) (bt_node (bt_leaf (P := OKI m_X6_takes) oX6_takes_37) (bt_node (bt_leaf (P := OKI m_X6_takes) oX6_takes_40) (bt_leaf (P := OKI m_X6_takes) oX6_takes_41)))))) : pfX6_takes pc = some Y → OKI m_X6_takes pc Y)
def stpX6_takes (pc : Nat) : Option (List Bool) := (bif Nat.beq pc 2 then some [true, true, true] else none)
def bX6_takes_0 (d rc rs : Nat) (t : Nat) (a1 : Option XO) (σ : XH) (Q : XV → XH → Prop) : Prop :=
  Ex d rc rs m_X6_takes 2 [vR (some (7, t)), vR a1, vI 0] [] σ Q
theorem sX6_takes_0 {d rc rs : Nat} {t : Nat} {a1 : Option XO} {σ : XH} {Q : XV → XH → Prop} (h : bX6_takes_0 d rc rs t a1 σ Q) : Ex d rc rs m_X6_takes 0 [vR (some (7, t)), vR a1, vU] [] σ Q :=
  xtree_sound (stop := stpX6_takes) okX6_takes 4 _ _ _ _ _ _ h
def bX6_takes_2 (d rc rs : Nat) (t : Nat) (l1 : Option XO) (l2 : Int32) (σ : XH) (Q : XV → XH → Prop) : Prop :=
  (drf l1 512 fun i9 => (i9 < 12 ∧ 1 ≤ d ∧ Ec (d - 1) 0 0 m_J0_length_8abf5 [vR (some (512, i9))] σ (kI fun x2 h1 => ((l2 < x2 → ((1 ≤ d ∧ Ec (d - 1) 0 0 m_X6_next [vR (some (7, t))] h1 (kI fun x4 h3 => (drf l1 512 fun i8 => (i8 < 12 ∧ 1 ≤ d ∧ Ec (d - 1) 0 0 m_J0_charAt_5068e [vR (some (512, i8)), vI l2] h3 (kI fun x6 h5 => ((x4 = x6 → (((∀ h7, h7 = wI h5 7 t 2 ((hi h5 7 t 2) + 1) → Ex d rc rs m_X6_takes 2 [vR (some (7, t)), vR l1, vI (l2 + 1)] [] h7 Q)))) ∧ (¬ x4 = x6 → (((0 : Int32) = 0 ∨ (0 : Int32) = 1) ∧ Q (vI 0) h5)))))))))) ∧ (¬ l2 < x2 → (((1 : Int32) = 0 ∨ (1 : Int32) = 1) ∧ Q (vI 1) h1))))))
theorem sX6_takes_2 {d rc rs : Nat} {t : Nat} {l1 : Option XO} {l2 : Int32} {σ : XH} {Q : XV → XH → Prop} (h : bX6_takes_2 d rc rs t l1 l2 σ Q) : Ex d rc rs m_X6_takes 2 [vR (some (7, t)), vR l1, vI l2] [] σ Q :=
  xtree_sound (stop := stpX6_takes) okX6_takes 20 _ _ _ _ _ _ h
