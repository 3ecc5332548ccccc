/-! ===== blocks: 30.binn ===== -/
/-! SpotTimers$RuleReader.takesDigits(I)I -/
theorem dX6_takesDigits_0 : decode cX6_takesDigits 0 = .ok (.iconst (-1), 1) := by decide +kernel
theorem dX6_takesDigits_1 : decode cX6_takesDigits 1 = .ok (.istore_n 2, 1) := by decide +kernel
theorem dX6_takesDigits_2 : decode cX6_takesDigits 2 = .ok (.iconst 0, 1) := by decide +kernel
theorem dX6_takesDigits_3 : decode cX6_takesDigits 3 = .ok (.istore_n 3, 1) := by decide +kernel
theorem dX6_takesDigits_4 : decode cX6_takesDigits 4 = .ok (.iload_n 3, 1) := by decide +kernel
theorem dX6_takesDigits_5 : decode cX6_takesDigits 5 = .ok (.iload_n 1, 1) := by decide +kernel
theorem dX6_takesDigits_6 : decode cX6_takesDigits 6 = .ok (.if_icmp .ge 54, 3) := by decide +kernel
theorem dX6_takesDigits_9 : decode cX6_takesDigits 9 = .ok (.aload_n 0, 1) := by decide +kernel
theorem dX6_takesDigits_10 : decode cX6_takesDigits 10 = .ok (.invokevirtual 38, 3) := by decide +kernel
theorem dX6_takesDigits_13 : decode cX6_takesDigits 13 = .ok (.bipush 48, 2) := by decide +kernel
theorem dX6_takesDigits_15 : decode cX6_takesDigits 15 = .ok (.if_icmp .lt 45, 3) := by decide +kernel
theorem dX6_takesDigits_18 : decode cX6_takesDigits 18 = .ok (.aload_n 0, 1) := by decide +kernel
theorem dX6_takesDigits_19 : decode cX6_takesDigits 19 = .ok (.invokevirtual 38, 3) := by decide +kernel
theorem dX6_takesDigits_22 : decode cX6_takesDigits 22 = .ok (.bipush 57, 2) := by decide +kernel
theorem dX6_takesDigits_24 : decode cX6_takesDigits 24 = .ok (.if_icmp .gt 36, 3) := by decide +kernel
theorem dX6_takesDigits_27 : decode cX6_takesDigits 27 = .ok (.iconst 0, 1) := by decide +kernel
theorem dX6_takesDigits_28 : decode cX6_takesDigits 28 = .ok (.iload_n 2, 1) := by decide +kernel
theorem dX6_takesDigits_29 : decode cX6_takesDigits 29 = .ok (.invokestatic 45, 3) := by decide +kernel
theorem dX6_takesDigits_32 : decode cX6_takesDigits 32 = .ok (.bipush 10, 2) := by decide +kernel
theorem dX6_takesDigits_34 : decode cX6_takesDigits 34 = .ok (.imul, 1) := by decide +kernel
theorem dX6_takesDigits_35 : decode cX6_takesDigits 35 = .ok (.aload_n 0, 1) := by decide +kernel
theorem dX6_takesDigits_36 : decode cX6_takesDigits 36 = .ok (.invokevirtual 38, 3) := by decide +kernel
theorem dX6_takesDigits_39 : decode cX6_takesDigits 39 = .ok (.iadd, 1) := by decide +kernel
theorem dX6_takesDigits_40 : decode cX6_takesDigits 40 = .ok (.bipush 48, 2) := by decide +kernel
theorem dX6_takesDigits_42 : decode cX6_takesDigits 42 = .ok (.isub, 1) := by decide +kernel
theorem dX6_takesDigits_43 : decode cX6_takesDigits 43 = .ok (.istore_n 2, 1) := by decide +kernel
theorem dX6_takesDigits_44 : decode cX6_takesDigits 44 = .ok (.aload_n 0, 1) := by decide +kernel
theorem dX6_takesDigits_45 : decode cX6_takesDigits 45 = .ok (.dup, 1) := by decide +kernel
theorem dX6_takesDigits_46 : decode cX6_takesDigits 46 = .ok (.getfield 19, 3) := by decide +kernel
theorem dX6_takesDigits_49 : decode cX6_takesDigits 49 = .ok (.iconst 1, 1) := by decide +kernel
theorem dX6_takesDigits_50 : decode cX6_takesDigits 50 = .ok (.iadd, 1) := by decide +kernel
theorem dX6_takesDigits_51 : decode cX6_takesDigits 51 = .ok (.putfield 19, 3) := by decide +kernel
theorem dX6_takesDigits_54 : decode cX6_takesDigits 54 = .ok (.iinc 3 1, 3) := by decide +kernel
theorem dX6_takesDigits_57 : decode cX6_takesDigits 57 = .ok (.goto (-53), 3) := by decide +kernel
theorem dX6_takesDigits_60 : decode cX6_takesDigits 60 = .ok (.iload_n 2, 1) := by decide +kernel
theorem dX6_takesDigits_61 : decode cX6_takesDigits 61 = .ok (.ireturn, 1) := by decide +kernel
theorem oX6_takesDigits_0 : OKI 34 0 (.iconst (-1), 1, [], (-1), 0, []) := And.intro dX6_takesDigits_0 (And.intro rfl (by decide +kernel))
theorem oX6_takesDigits_1 : OKI 34 1 (.istore_n 2, 2, [2], 0, 0, []) := And.intro dX6_takesDigits_1 (And.intro rfl (And.intro rfl (by decide)))
theorem oX6_takesDigits_2 : OKI 34 2 (.iconst 0, 3, [], 0, 0, []) := And.intro dX6_takesDigits_2 (And.intro rfl (by decide +kernel))
theorem oX6_takesDigits_3 : OKI 34 3 (.istore_n 3, 4, [3], 0, 0, []) := And.intro dX6_takesDigits_3 (And.intro rfl (And.intro rfl (by decide)))
theorem oX6_takesDigits_4 : OKI 34 4 (.iload_n 3, 5, [3], 0, 0, []) := And.intro dX6_takesDigits_4 (And.intro rfl (rfl))
theorem oX6_takesDigits_5 : OKI 34 5 (.iload_n 1, 6, [1], 0, 0, []) := And.intro dX6_takesDigits_5 (And.intro rfl (rfl))
theorem oX6_takesDigits_6 : OKI 34 6 (.if_icmp .ge 54, 9, [60], 0, 0, []) := And.intro dX6_takesDigits_6 (And.intro rfl (by decide))
theorem oX6_takesDigits_9 : OKI 34 9 (.aload_n 0, 10, [0], 0, 0, []) := And.intro dX6_takesDigits_9 (And.intro rfl (rfl))
theorem oX6_takesDigits_10 : OKI 34 10 (.invokevirtual 38, 13, [32, 1, 8, 0, 0, 1], 0, 0, []) := And.intro dX6_takesDigits_10 (And.intro rfl (And.intro (by decide) (And.intro (by decide) (And.intro mo_X6_next (And.intro (tm_4 _ (List.mem_of_getElem? (i := 18) rfl) rfl) (And.intro (tm_4 _ (List.mem_of_getElem? (i := 20) rfl) rfl) (And.intro (pm_1 _ (List.mem_of_getElem? (i := 14) rfl)) (Or.inl ⟨(RX6, TX6, 3), rfl, rfl⟩))))))))
theorem oX6_takesDigits_13 : OKI 34 13 (.bipush 48, 15, [], 48, 0, []) := And.intro dX6_takesDigits_13 (And.intro rfl (by decide +kernel))
theorem oX6_takesDigits_15 : OKI 34 15 (.if_icmp .lt 45, 18, [60], 0, 0, []) := And.intro dX6_takesDigits_15 (And.intro rfl (by decide))
theorem oX6_takesDigits_18 : OKI 34 18 (.aload_n 0, 19, [0], 0, 0, []) := And.intro dX6_takesDigits_18 (And.intro rfl (rfl))
theorem oX6_takesDigits_19 : OKI 34 19 (.invokevirtual 38, 22, [32, 1, 8, 0, 0, 1], 0, 0, []) := And.intro dX6_takesDigits_19 (And.intro rfl (And.intro (by decide) (And.intro (by decide) (And.intro mo_X6_next (And.intro (tm_4 _ (List.mem_of_getElem? (i := 18) rfl) rfl) (And.intro (tm_4 _ (List.mem_of_getElem? (i := 20) rfl) rfl) (And.intro (pm_1 _ (List.mem_of_getElem? (i := 14) rfl)) (Or.inl ⟨(RX6, TX6, 3), rfl, rfl⟩))))))))
theorem oX6_takesDigits_22 : OKI 34 22 (.bipush 57, 24, [], 57, 0, []) := And.intro dX6_takesDigits_22 (And.intro rfl (by decide +kernel))
theorem oX6_takesDigits_24 : OKI 34 24 (.if_icmp .gt 36, 27, [60], 0, 0, []) := And.intro dX6_takesDigits_24 (And.intro rfl (by decide))
theorem oX6_takesDigits_27 : OKI 34 27 (.iconst 0, 28, [], 0, 0, []) := And.intro dX6_takesDigits_27 (And.intro rfl (by decide +kernel))
theorem oX6_takesDigits_28 : OKI 34 28 (.iload_n 2, 29, [2], 0, 0, []) := And.intro dX6_takesDigits_28 (And.intro rfl (rfl))
theorem oX6_takesDigits_29 : OKI 34 29 (.invokestatic 45, 32, [252, 2, 0, 0, 0, 1], 0, 0, []) := And.intro dX6_takesDigits_29 (And.intro rfl (And.intro rfl (And.intro mo_J9_max_7cf53 (And.intro (Or.inl (tm_4 _ (List.mem_of_getElem? (i := 92) rfl) rfl)) (tm_1 _ (List.mem_of_getElem? (i := 89) rfl) rfl)))))
theorem oX6_takesDigits_32 : OKI 34 32 (.bipush 10, 34, [], 10, 0, []) := And.intro dX6_takesDigits_32 (And.intro rfl (by decide +kernel))
theorem oX6_takesDigits_34 : OKI 34 34 (.imul, 35, [], 0, 0, []) := And.intro dX6_takesDigits_34 rfl
theorem oX6_takesDigits_35 : OKI 34 35 (.aload_n 0, 36, [0], 0, 0, []) := And.intro dX6_takesDigits_35 (And.intro rfl (rfl))
theorem oX6_takesDigits_36 : OKI 34 36 (.invokevirtual 38, 39, [32, 1, 8, 0, 0, 1], 0, 0, []) := And.intro dX6_takesDigits_36 (And.intro rfl (And.intro (by decide) (And.intro (by decide) (And.intro mo_X6_next (And.intro (tm_4 _ (List.mem_of_getElem? (i := 18) rfl) rfl) (And.intro (tm_4 _ (List.mem_of_getElem? (i := 20) rfl) rfl) (And.intro (pm_1 _ (List.mem_of_getElem? (i := 14) rfl)) (Or.inl ⟨(RX6, TX6, 3), rfl, rfl⟩))))))))
theorem oX6_takesDigits_39 : OKI 34 39 (.iadd, 40, [], 0, 0, []) := And.intro dX6_takesDigits_39 rfl
theorem oX6_takesDigits_40 : OKI 34 40 (.bipush 48, 42, [], 48, 0, []) := And.intro dX6_takesDigits_40 (And.intro rfl (by decide +kernel))
theorem oX6_takesDigits_42 : OKI 34 42 (.isub, 43, [], 0, 0, []) := And.intro dX6_takesDigits_42 rfl
theorem oX6_takesDigits_43 : OKI 34 43 (.istore_n 2, 44, [2], 0, 0, []) := And.intro dX6_takesDigits_43 (And.intro rfl (And.intro rfl (by decide)))
theorem oX6_takesDigits_44 : OKI 34 44 (.aload_n 0, 45, [0], 0, 0, []) := And.intro dX6_takesDigits_44 (And.intro rfl (rfl))
theorem oX6_takesDigits_45 : OKI 34 45 (.dup, 46, [], 0, 0, []) := And.intro dX6_takesDigits_45 rfl
theorem oX6_takesDigits_46 : OKI 34 46 (.getfield 19, 49, [7, 2, 0], 0, 0, []) := And.intro dX6_takesDigits_46 (And.intro rfl (⟨(RX6, TX6, 3), "SpotTimers$RuleReader", rfl, by decide, tm_1 _ (List.mem_of_getElem? (i := 71) rfl) rfl, Or.inl rfl, Or.inr (Or.inr (And.intro rfl (Or.inl rfl)))⟩))
theorem oX6_takesDigits_49 : OKI 34 49 (.iconst 1, 50, [], 1, 0, []) := And.intro dX6_takesDigits_49 (And.intro rfl (by decide +kernel))
theorem oX6_takesDigits_50 : OKI 34 50 (.iadd, 51, [], 0, 0, []) := And.intro dX6_takesDigits_50 rfl
theorem oX6_takesDigits_51 : OKI 34 51 (.putfield 19, 54, [7, 2, 0], 0, 0, []) := And.intro dX6_takesDigits_51 (And.intro rfl (⟨(RX6, TX6, 3), "SpotTimers$RuleReader", rfl, by decide, tm_1 _ (List.mem_of_getElem? (i := 71) rfl) rfl, Or.inl rfl, Or.inl rfl, rfl⟩))
theorem oX6_takesDigits_54 : OKI 34 54 (.iinc 3 1, 57, [3], 1, 0, []) := And.intro dX6_takesDigits_54 (And.intro rfl (And.intro rfl (And.intro (by decide +kernel) (by decide))))
theorem oX6_takesDigits_57 : OKI 34 57 (.goto (-53), 60, [4], 0, 0, []) := And.intro dX6_takesDigits_57 (And.intro rfl (by decide))
theorem oX6_takesDigits_60 : OKI 34 60 (.iload_n 2, 61, [2], 0, 0, []) := And.intro dX6_takesDigits_60 (And.intro rfl (rfl))
theorem oX6_takesDigits_61 : OKI 34 61 (.ireturn, 62, [0], 0, 0, []) := And.intro dX6_takesDigits_61 (Or.inl (And.intro rfl rfl))
def pfX6_takesDigits (pc : Nat) : Option XE := (bif Nat.blt pc 32 then (bif Nat.blt pc 13 then (bif Nat.blt pc 4 then (bif Nat.blt pc 2 then (bif Nat.blt pc 1 then (bif Nat.beq pc 0 then some (.iconst (-1), 1, [], (-1), 0, []) else none) else (bif Nat.beq pc 1 then some (.istore_n 2, 2, [2], 0, 0, []) else none)) else (bif Nat.blt pc 3 then (bif Nat.beq pc 2 then some (.iconst 0, 3, [], 0, 0, []) else none) else (bif Nat.beq pc 3 then some (.istore_n 3, 4, [3], 0, 0, []) else none))) else (bif Nat.blt pc 6 then (bif Nat.blt pc 5 then (bif Nat.beq pc 4 then some (.iload_n 3, 5, [3], 0, 0, []) else none) else (bif Nat.beq pc 5 then some (.iload_n 1, 6, [1], 0, 0, []) else none)) else (bif Nat.blt pc 9 then (bif Nat.beq pc 6 then some (.if_icmp .ge 54, 9, [60], 0, 0, []) else none) else (bif Nat.blt pc 10 then (bif Nat.beq pc 9 then some (.aload_n 0, 10, [0], 0, 0, []) else none) else (bif Nat.beq pc 10 then some (.invokevirtual 38, 13, [32, 1, 8, 0, 0, 1], 0, 0, []) else none))))) else (bif Nat.blt pc 22 then (bif Nat.blt pc 18 then (bif Nat.blt pc 15 then (bif Nat.beq pc 13 then some (.bipush 48, 15, [], 48, 0, []) else none) else (bif Nat.beq pc 15 then some (.if_icmp .lt 45, 18, [60], 0, 0, []) else none)) else (bif Nat.blt pc 19 then (bif Nat.beq pc 18 then some (.aload_n 0, 19, [0], 0, 0, []) else none) else (bif Nat.beq pc 19 then some (.invokevirtual 38, 22, [32, 1, 8, 0, 0, 1], 0, 0, []) else none))) else (bif Nat.blt pc 27 then (bif Nat.blt pc 24 then (bif Nat.beq pc 22 then some (.bipush 57, 24, [], 57, 0, []) else none) else (bif Nat.beq pc 24 then some (.if_icmp .gt 36, 27, [60], 0, 0, []) else none)) else (bif Nat.blt pc 28 then (bif Nat.beq pc 27 then some (.iconst 0, 28, [], 0, 0, []) else none) else (bif Nat.blt pc 29 then (bif Nat.beq pc 28 then some (.iload_n 2, 29, [2], 0, 0, []) else none) else (bif Nat.beq pc 29 then some (.invokestatic 45, 32, [252, 2, 0, 0, 0, 1], 0, 0, []) else none)))))) else (bif Nat.blt pc 45 then (bif Nat.blt pc 39 then (bif Nat.blt pc 35 then (bif Nat.blt pc 34 then (bif Nat.beq pc 32 then some (.bipush 10, 34, [], 10, 0, []) else none) else (bif Nat.beq pc 34 then some (.imul, 35, [], 0, 0, []) else none)) else (bif Nat.blt pc 36 then (bif Nat.beq pc 35 then some (.aload_n 0, 36, [0], 0, 0, []) else none) else (bif Nat.beq pc 36 then some (.invokevirtual 38, 39, [32, 1, 8, 0, 0, 1], 0, 0, []) else none))) else (bif Nat.blt pc 42 then (bif Nat.blt pc 40 then (bif Nat.beq pc 39 then some (.iadd, 40, [], 0, 0, []) else none) else (bif Nat.beq pc 40 then some (.bipush 48, 42, [], 48, 0, []) else none)) else (bif Nat.blt pc 43 then (bif Nat.beq pc 42 then some (.isub, 43, [], 0, 0, []) else none) else (bif Nat.blt pc 44 then (bif Nat.beq pc 43 then some (.istore_n 2, 44, [2], 0, 0, []) else none) else (bif Nat.beq pc 44 then some (.aload_n 0, 45, [0], 0, 0, []) else none))))) else (bif Nat.blt pc 51 then (bif Nat.blt pc 49 then (bif Nat.blt pc 46 then (bif Nat.beq pc 45 then some (.dup, 46, [], 0, 0, []) else none) else (bif Nat.beq pc 46 then some (.getfield 19, 49, [7, 2, 0], 0, 0, []) else none)) else (bif Nat.blt pc 50 then (bif Nat.beq pc 49 then some (.iconst 1, 50, [], 1, 0, []) else none) else (bif Nat.beq pc 50 then some (.iadd, 51, [], 0, 0, []) else none))) else (bif Nat.blt pc 57 then (bif Nat.blt pc 54 then (bif Nat.beq pc 51 then some (.putfield 19, 54, [7, 2, 0], 0, 0, []) else none) else (bif Nat.beq pc 54 then some (.iinc 3 1, 57, [3], 1, 0, []) else none)) else (bif Nat.blt pc 60 then (bif Nat.beq pc 57 then some (.goto (-53), 60, [4], 0, 0, []) else none) else (bif Nat.blt pc 61 then (bif Nat.beq pc 60 then some (.iload_n 2, 61, [2], 0, 0, []) else none) else (bif Nat.beq pc 61 then some (.ireturn, 62, [0], 0, 0, []) else none)))))))
theorem okX6_takesDigits : ∀ pc Y, pfX6_takesDigits pc = some Y → OKI m_X6_takesDigits pc Y := fun pc Y => ((bt_node (bt_node (bt_node (bt_node (bt_node (bt_leaf (P := OKI m_X6_takesDigits) oX6_takesDigits_0) (bt_leaf (P := OKI m_X6_takesDigits) oX6_takesDigits_1)) (bt_node (bt_leaf (P := OKI m_X6_takesDigits) oX6_takesDigits_2) (bt_leaf (P := OKI m_X6_takesDigits) oX6_takesDigits_3))) (bt_node (bt_node (bt_leaf (P := OKI m_X6_takesDigits) oX6_takesDigits_4) (bt_leaf (P := OKI m_X6_takesDigits) oX6_takesDigits_5)) (bt_node (bt_leaf (P := OKI m_X6_takesDigits) oX6_takesDigits_6) (bt_node (bt_leaf (P := OKI m_X6_takesDigits) oX6_takesDigits_9) (bt_leaf (P := OKI m_X6_takesDigits) oX6_takesDigits_10))))) (bt_node (bt_node (bt_node (bt_leaf (P := OKI m_X6_takesDigits) oX6_takesDigits_13) (bt_leaf (P := OKI m_X6_takesDigits) oX6_takesDigits_15)) (bt_node (bt_leaf (P := OKI m_X6_takesDigits) oX6_takesDigits_18) (bt_leaf (P := OKI m_X6_takesDigits) oX6_takesDigits_19))) (bt_node (bt_node (bt_leaf (P := OKI m_X6_takesDigits) oX6_takesDigits_22) (bt_leaf (P := OKI m_X6_takesDigits) oX6_takesDigits_24)) (bt_node (bt_leaf (P := OKI m_X6_takesDigits) oX6_takesDigits_27) (bt_node (bt_leaf (P := OKI m_X6_takesDigits) oX6_takesDigits_28) (bt_leaf (P := OKI m_X6_takesDigits) oX6_takesDigits_29)))))) (bt_node (bt_node (bt_node (bt_node (bt_leaf (P := OKI m_X6_takesDigits) oX6_takesDigits_32) (bt_leaf (P := OKI m_X6_takesDigits) oX6_takesDigits_34)) (bt_node (bt_leaf (P := OKI m_X6_takesDigits) oX6_takesDigits_35) (bt_leaf (P := OKI m_X6_takesDigits) oX6_takesDigits_36))) (bt_node (bt_node (bt_leaf (P := OKI m_X6_takesDigits) oX6_takesDigits_39) (bt_leaf (P := OKI m_X6_takesDigits) oX6_takesDigits_40)) (bt_node (bt_leaf (P := OKI m_X6_takesDigits) oX6_takesDigits_42) (bt_node (bt_leaf (P := OKI m_X6_takesDigits) oX6_takesDigits_43) (bt_leaf (P := OKI m_X6_takesDigits) oX6_takesDigits_44))))) (bt_node (bt_node (bt_node (bt_leaf (P := OKI m_X6_takesDigits) oX6_takesDigits_45) (bt_leaf (P := OKI m_X6_takesDigits) oX6_takesDigits_46)) (bt_node (bt_leaf (P := OKI m_X6_takesDigits) oX6_takesDigits_49) (bt_leaf (P := OKI m_X6_takesDigits) oX6_takesDigits_50))) (bt_node (bt_node (bt_leaf (P := OKI m_X6_takesDigits) oX6_takesDigits_51) (bt_leaf (P := OKI m_X6_takesDigits) oX6_takesDigits_54)) (bt_node (bt_leaf (P := OKI m_X6_takesDigits) oX6_takesDigits_57) (bt_node (bt_leaf (P := OKI m_X6_takesDigits) oX6_takesDigits_60) (bt_leaf (P := OKI m_X6_takesDigits) oX6_takesDigits_61))))))) : pfX6_takesDigits pc = some Y → OKI m_X6_takesDigits pc Y)
def stpX6_takesDigits (pc : Nat) : Option (List Bool) := (bif Nat.blt pc 44 then (bif Nat.beq pc 4 then some [true, true, true, true] else none) else (bif Nat.blt pc 60 then (bif Nat.beq pc 44 then some [true, true, true, true] else none) else (bif Nat.beq pc 60 then some [false, false, true, false] else none)))
def bX6_takesDigits_0 (d rc rs : Nat) (t : Nat) (a1 : Int32) (σ : XH) (Q : XV → XH → Prop) : Prop :=
  Ex d rc rs m_X6_takesDigits 4 [vR (some (7, t)), vI a1, vI (-1), vI 0] [] σ Q
theorem sX6_takesDigits_0 {d rc rs : Nat} {t : Nat} {a1 : Int32} {σ : XH} {Q : XV → XH → Prop} (h : bX6_takesDigits_0 d rc rs t a1 σ Q) : Ex d rc rs m_X6_takesDigits 0 [vR (some (7, t)), vI a1, vU, vU] [] σ Q :=
  xtree_sound (stop := stpX6_takesDigits) okX6_takesDigits 6 _ _ _ _ _ _ h
def bX6_takesDigits_4 (d rc rs : Nat) (t : Nat) (l1 : Int32) (l2 : Int32) (l3 : Int32) (σ : XH) (Q : XV → XH → Prop) : Prop :=
  ((l3 < l1 → ((1 ≤ d ∧ Ec (d - 1) 0 0 m_X6_next [vR (some (7, t))] σ (kI fun x2 h1 => ((x2 < 48 → Ex d rc rs m_X6_takesDigits 60 [vU, vU, vI l2, vU] [] h1 Q) ∧ (¬ x2 < 48 → ((1 ≤ d ∧ Ec (d - 1) 0 0 m_X6_next [vR (some (7, t))] h1 (kI fun x4 h3 => ((57 < x4 → Ex d rc rs m_X6_takesDigits 60 [vU, vU, vI l2, vU] [] h3 Q) ∧ (¬ 57 < x4 → (1 ≤ d ∧ Ec (d - 1) 0 0 m_J9_max_7cf53 [vI 0, vI l2] h3 (kI fun x6 h5 => ((1 ≤ d ∧ Ec (d - 1) 0 0 m_X6_next [vR (some (7, t))] h5 (kI fun x8 h7 => Ex d rc rs m_X6_takesDigits 44 [vR (some (7, t)), vI l1, vI (((x6 * 10) + x8) - 48), vI l3] [] h7 Q)))))))))))))))) ∧ (¬ l3 < l1 → Ex d rc rs m_X6_takesDigits 60 [vU, vU, vI l2, vU] [] σ Q))
theorem sX6_takesDigits_4 {d rc rs : Nat} {t : Nat} {l1 : Int32} {l2 : Int32} {l3 : Int32} {σ : XH} {Q : XV → XH → Prop} (h : bX6_takesDigits_4 d rc rs t l1 l2 l3 σ Q) : Ex d rc rs m_X6_takesDigits 4 [vR (some (7, t)), vI l1, vI l2, vI l3] [] σ Q :=
  xtree_sound (stop := stpX6_takesDigits) okX6_takesDigits 24 _ _ _ _ _ _ h
def bX6_takesDigits_44 (d rc rs : Nat) (t : Nat) (l1 : Int32) (l2 : Int32) (l3 : Int32) (σ : XH) (Q : XV → XH → Prop) : Prop :=
  (((∀ h1, h1 = wI σ 7 t 2 ((hi σ 7 t 2) + 1) → Ex d rc rs m_X6_takesDigits 4 [vR (some (7, t)), vI l1, vI l2, vI (l3 + 1)] [] h1 Q)))
theorem sX6_takesDigits_44 {d rc rs : Nat} {t : Nat} {l1 : Int32} {l2 : Int32} {l3 : Int32} {σ : XH} {Q : XV → XH → Prop} (h : bX6_takesDigits_44 d rc rs t l1 l2 l3 σ Q) : Ex d rc rs m_X6_takesDigits 44 [vR (some (7, t)), vI l1, vI l2, vI l3] [] σ Q :=
  xtree_sound (stop := stpX6_takesDigits) okX6_takesDigits 10 _ _ _ _ _ _ h
def bX6_takesDigits_60 (d rc rs : Nat) (l2 : Int32) (σ : XH) (Q : XV → XH → Prop) : Prop :=
  Q (vI l2) σ
theorem sX6_takesDigits_60 {d rc rs : Nat} {l2 : Int32} {σ : XH} {Q : XV → XH → Prop} (h : bX6_takesDigits_60 d rc rs l2 σ Q) : Ex d rc rs m_X6_takesDigits 60 [vU, vU, vI l2, vU] [] σ Q :=
  xtree_sound (stop := stpX6_takesDigits) okX6_takesDigits 4 _ _ _ _ _ _ h
/-! SpotTimers$RuleReader.takesClause(LSpotTimers$Rule;)Z -/
theorem dX6_takesClause_0 : decode cX6_takesClause 0 = .ok (.aload_n 0, 1) := by decide +kernel
theorem dX6_takesClause_1 : decode cX6_takesClause 1 = .ok (.invokevirtual 38, 3) := by decide +kernel
theorem dX6_takesClause_4 : decode cX6_takesClause 4 = .ok (.lookupswitch 198 #[(98, 83), (99, 160), (101, 60), (114, 106), (115, 129), (119, 175)], 60) := by decide +kernel
theorem dX6_takesClause_64 : decode cX6_takesClause 64 = .ok (.aload_n 0, 1) := by decide +kernel
theorem dX6_takesClause_65 : decode cX6_takesClause 65 = .ok (.ldc 51, 2) := by decide +kernel
theorem dX6_takesClause_67 : decode cX6_takesClause 67 = .ok (.invokevirtual 28, 3) := by decide +kernel
theorem dX6_takesClause_70 : decode cX6_takesClause 70 = .ok (.ifCond .eq 15, 3) := by decide +kernel
theorem dX6_takesClause_73 : decode cX6_takesClause 73 = .ok (.aload_n 0, 1) := by decide +kernel
theorem dX6_takesClause_74 : decode cX6_takesClause 74 = .ok (.aload_n 1, 1) := by decide +kernel
theorem dX6_takesClause_75 : decode cX6_takesClause 75 = .ok (.invokevirtual 53, 3) := by decide +kernel
theorem dX6_takesClause_78 : decode cX6_takesClause 78 = .ok (.ifCond .eq 7, 3) := by decide +kernel
theorem dX6_takesClause_81 : decode cX6_takesClause 81 = .ok (.iconst 1, 1) := by decide +kernel
theorem dX6_takesClause_82 : decode cX6_takesClause 82 = .ok (.goto 4, 3) := by decide +kernel
theorem dX6_takesClause_85 : decode cX6_takesClause 85 = .ok (.iconst 0, 1) := by decide +kernel
theorem dX6_takesClause_86 : decode cX6_takesClause 86 = .ok (.ireturn, 1) := by decide +kernel
theorem dX6_takesClause_87 : decode cX6_takesClause 87 = .ok (.aload_n 0, 1) := by decide +kernel
theorem dX6_takesClause_88 : decode cX6_takesClause 88 = .ok (.ldc 56, 2) := by decide +kernel
theorem dX6_takesClause_90 : decode cX6_takesClause 90 = .ok (.invokevirtual 28, 3) := by decide +kernel
theorem dX6_takesClause_93 : decode cX6_takesClause 93 = .ok (.ifCond .eq 15, 3) := by decide +kernel
theorem dX6_takesClause_96 : decode cX6_takesClause 96 = .ok (.aload_n 0, 1) := by decide +kernel
theorem dX6_takesClause_97 : decode cX6_takesClause 97 = .ok (.aload_n 1, 1) := by decide +kernel
theorem dX6_takesClause_98 : decode cX6_takesClause 98 = .ok (.invokevirtual 58, 3) := by decide +kernel
theorem dX6_takesClause_101 : decode cX6_takesClause 101 = .ok (.ifCond .eq 7, 3) := by decide +kernel
theorem dX6_takesClause_104 : decode cX6_takesClause 104 = .ok (.iconst 1, 1) := by decide +kernel
theorem dX6_takesClause_105 : decode cX6_takesClause 105 = .ok (.goto 4, 3) := by decide +kernel
theorem dX6_takesClause_108 : decode cX6_takesClause 108 = .ok (.iconst 0, 1) := by decide +kernel
theorem dX6_takesClause_109 : decode cX6_takesClause 109 = .ok (.ireturn, 1) := by decide +kernel
theorem dX6_takesClause_110 : decode cX6_takesClause 110 = .ok (.aload_n 0, 1) := by decide +kernel
theorem dX6_takesClause_111 : decode cX6_takesClause 111 = .ok (.ldc 61, 2) := by decide +kernel
theorem dX6_takesClause_113 : decode cX6_takesClause 113 = .ok (.invokevirtual 28, 3) := by decide +kernel
theorem dX6_takesClause_116 : decode cX6_takesClause 116 = .ok (.ifCond .eq 15, 3) := by decide +kernel
theorem dX6_takesClause_119 : decode cX6_takesClause 119 = .ok (.aload_n 0, 1) := by decide +kernel
theorem dX6_takesClause_120 : decode cX6_takesClause 120 = .ok (.aload_n 1, 1) := by decide +kernel
theorem dX6_takesClause_121 : decode cX6_takesClause 121 = .ok (.invokevirtual 63, 3) := by decide +kernel
theorem dX6_takesClause_124 : decode cX6_takesClause 124 = .ok (.ifCond .eq 7, 3) := by decide +kernel
theorem dX6_takesClause_127 : decode cX6_takesClause 127 = .ok (.iconst 1, 1) := by decide +kernel
theorem dX6_takesClause_128 : decode cX6_takesClause 128 = .ok (.goto 4, 3) := by decide +kernel
theorem dX6_takesClause_131 : decode cX6_takesClause 131 = .ok (.iconst 0, 1) := by decide +kernel
theorem dX6_takesClause_132 : decode cX6_takesClause 132 = .ok (.ireturn, 1) := by decide +kernel
theorem dX6_takesClause_133 : decode cX6_takesClause 133 = .ok (.aload_n 0, 1) := by decide +kernel
theorem dX6_takesClause_134 : decode cX6_takesClause 134 = .ok (.ldc 66, 2) := by decide +kernel
theorem dX6_takesClause_136 : decode cX6_takesClause 136 = .ok (.invokevirtual 28, 3) := by decide +kernel
theorem dX6_takesClause_139 : decode cX6_takesClause 139 = .ok (.ifCond .eq 23, 3) := by decide +kernel
theorem dX6_takesClause_142 : decode cX6_takesClause 142 = .ok (.aload_n 0, 1) := by decide +kernel
theorem dX6_takesClause_143 : decode cX6_takesClause 143 = .ok (.aload_n 1, 1) := by decide +kernel
theorem dX6_takesClause_144 : decode cX6_takesClause 144 = .ok (.iconst 0, 1) := by decide +kernel
theorem dX6_takesClause_145 : decode cX6_takesClause 145 = .ok (.invokevirtual 68, 3) := by decide +kernel
theorem dX6_takesClause_148 : decode cX6_takesClause 148 = .ok (.ifCond .eq 14, 3) := by decide +kernel
theorem dX6_takesClause_151 : decode cX6_takesClause 151 = .ok (.aload_n 1, 1) := by decide +kernel
theorem dX6_takesClause_152 : decode cX6_takesClause 152 = .ok (.invokevirtual 72, 3) := by decide +kernel
theorem dX6_takesClause_155 : decode cX6_takesClause 155 = .ok (.ifCond .eq 7, 3) := by decide +kernel
theorem dX6_takesClause_158 : decode cX6_takesClause 158 = .ok (.iconst 1, 1) := by decide +kernel
theorem dX6_takesClause_159 : decode cX6_takesClause 159 = .ok (.goto 4, 3) := by decide +kernel
theorem dX6_takesClause_162 : decode cX6_takesClause 162 = .ok (.iconst 0, 1) := by decide +kernel
theorem dX6_takesClause_163 : decode cX6_takesClause 163 = .ok (.ireturn, 1) := by decide +kernel
theorem dX6_takesClause_164 : decode cX6_takesClause 164 = .ok (.aload_n 1, 1) := by decide +kernel
theorem dX6_takesClause_165 : decode cX6_takesClause 165 = .ok (.aload_n 0, 1) := by decide +kernel
theorem dX6_takesClause_166 : decode cX6_takesClause 166 = .ok (.ldc 78, 2) := by decide +kernel
theorem dX6_takesClause_168 : decode cX6_takesClause 168 = .ok (.invokevirtual 28, 3) := by decide +kernel
theorem dX6_takesClause_171 : decode cX6_takesClause 171 = .ok (.putfield 80, 3) := by decide +kernel
theorem dX6_takesClause_174 : decode cX6_takesClause 174 = .ok (.aload_n 1, 1) := by decide +kernel
theorem dX6_takesClause_175 : decode cX6_takesClause 175 = .ok (.getfield 80, 3) := by decide +kernel
theorem dX6_takesClause_178 : decode cX6_takesClause 178 = .ok (.ireturn, 1) := by decide +kernel
theorem dX6_takesClause_179 : decode cX6_takesClause 179 = .ok (.aload_n 0, 1) := by decide +kernel
theorem dX6_takesClause_180 : decode cX6_takesClause 180 = .ok (.ldc 83, 2) := by decide +kernel
theorem dX6_takesClause_182 : decode cX6_takesClause 182 = .ok (.invokevirtual 28, 3) := by decide +kernel
theorem dX6_takesClause_185 : decode cX6_takesClause 185 = .ok (.ifCond .eq 15, 3) := by decide +kernel
theorem dX6_takesClause_188 : decode cX6_takesClause 188 = .ok (.aload_n 0, 1) := by decide +kernel
theorem dX6_takesClause_189 : decode cX6_takesClause 189 = .ok (.aload_n 1, 1) := by decide +kernel
theorem dX6_takesClause_190 : decode cX6_takesClause 190 = .ok (.invokevirtual 85, 3) := by decide +kernel
theorem dX6_takesClause_193 : decode cX6_takesClause 193 = .ok (.ifCond .eq 7, 3) := by decide +kernel
theorem dX6_takesClause_196 : decode cX6_takesClause 196 = .ok (.iconst 1, 1) := by decide +kernel
theorem dX6_takesClause_197 : decode cX6_takesClause 197 = .ok (.goto 4, 3) := by decide +kernel
theorem dX6_takesClause_200 : decode cX6_takesClause 200 = .ok (.iconst 0, 1) := by decide +kernel
theorem dX6_takesClause_201 : decode cX6_takesClause 201 = .ok (.ireturn, 1) := by decide +kernel
theorem dX6_takesClause_202 : decode cX6_takesClause 202 = .ok (.iconst 0, 1) := by decide +kernel
theorem dX6_takesClause_203 : decode cX6_takesClause 203 = .ok (.ireturn, 1) := by decide +kernel
theorem oX6_takesClause_0 : OKI 35 0 (.aload_n 0, 1, [0], 0, 0, []) := And.intro dX6_takesClause_0 (And.intro rfl (rfl))
theorem oX6_takesClause_1 : OKI 35 1 (.invokevirtual 38, 4, [32, 1, 8, 0, 0, 1], 0, 0, []) := And.intro dX6_takesClause_1 (And.intro rfl (And.intro (by decide) (And.intro (by decide) (And.intro mo_X6_next (And.intro (tm_4 _ (List.mem_of_getElem? (i := 18) rfl) rfl) (And.intro (tm_4 _ (List.mem_of_getElem? (i := 20) rfl) rfl) (And.intro (pm_1 _ (List.mem_of_getElem? (i := 14) rfl)) (Or.inl ⟨(RX6, TX6, 3), rfl, rfl⟩))))))))
theorem oX6_takesClause_4 : OKI 35 4 (.lookupswitch 198 #[(98, 83), (99, 160), (101, 60), (114, 106), (115, 129), (119, 175)], 64, [202], 0, 0, [(98, 87), (99, 164), (101, 64), (114, 110), (115, 133), (119, 179)]) := And.intro ⟨_, dX6_takesClause_4⟩ (by decide +kernel)
theorem oX6_takesClause_64 : OKI 35 64 (.aload_n 0, 65, [0], 0, 0, []) := And.intro dX6_takesClause_64 (And.intro rfl (rfl))
theorem oX6_takesClause_65 : OKI 35 65 (.ldc 51, 67, [0, 0], 0, 0, []) := And.intro dX6_takesClause_65 (And.intro rfl (And.intro ⟨_, rfl⟩ rfl))
theorem oX6_takesClause_67 : OKI 35 67 (.invokevirtual 28, 70, [33, 2, 8, 0, 0, 1], 0, 0, []) := And.intro dX6_takesClause_67 (And.intro rfl (And.intro (by decide) (And.intro (by decide) (And.intro mo_X6_takes (And.intro (tm_4 _ (List.mem_of_getElem? (i := 23) rfl) rfl) (And.intro (tm_4 _ (List.mem_of_getElem? (i := 25) rfl) rfl) (And.intro (pm_1 _ (List.mem_of_getElem? (i := 15) rfl)) (Or.inl ⟨(RX6, TX6, 3), rfl, rfl⟩))))))))
theorem oX6_takesClause_70 : OKI 35 70 (.ifCond .eq 15, 73, [85], 0, 0, []) := And.intro dX6_takesClause_70 (And.intro rfl (by decide))
theorem oX6_takesClause_73 : OKI 35 73 (.aload_n 0, 74, [0], 0, 0, []) := And.intro dX6_takesClause_73 (And.intro rfl (rfl))
theorem oX6_takesClause_74 : OKI 35 74 (.aload_n 1, 75, [1], 0, 0, []) := And.intro dX6_takesClause_74 (And.intro rfl (rfl))
theorem oX6_takesClause_75 : OKI 35 75 (.invokevirtual 53, 78, [37, 2, 8, 0, 0, 1], 0, 0, []) := And.intro dX6_takesClause_75 (And.intro rfl (And.intro (by decide) (And.intro (by decide) (And.intro mo_X6_takesEdges (And.intro (tm_4 _ (List.mem_of_getElem? (i := 73) rfl) rfl) (And.intro (tm_4 _ (List.mem_of_getElem? (i := 75) rfl) rfl) (And.intro (pm_2 _ (List.mem_of_getElem? (i := 0) rfl)) (Or.inl ⟨(RX6, TX6, 3), rfl, rfl⟩))))))))
theorem oX6_takesClause_78 : OKI 35 78 (.ifCond .eq 7, 81, [85], 0, 0, []) := And.intro dX6_takesClause_78 (And.intro rfl (by decide))
theorem oX6_takesClause_81 : OKI 35 81 (.iconst 1, 82, [], 1, 0, []) := And.intro dX6_takesClause_81 (And.intro rfl (by decide +kernel))
theorem oX6_takesClause_82 : OKI 35 82 (.goto 4, 85, [86], 0, 0, []) := And.intro dX6_takesClause_82 (And.intro rfl (by decide))
theorem oX6_takesClause_85 : OKI 35 85 (.iconst 0, 86, [], 0, 0, []) := And.intro dX6_takesClause_85 (And.intro rfl (by decide +kernel))
theorem oX6_takesClause_86 : OKI 35 86 (.ireturn, 87, [3], 0, 0, []) := And.intro dX6_takesClause_86 (Or.inr (Or.inl (And.intro rfl rfl)))
theorem oX6_takesClause_87 : OKI 35 87 (.aload_n 0, 88, [0], 0, 0, []) := And.intro dX6_takesClause_87 (And.intro rfl (rfl))
theorem oX6_takesClause_88 : OKI 35 88 (.ldc 56, 90, [0, 1], 0, 0, []) := And.intro dX6_takesClause_88 (And.intro rfl (And.intro ⟨_, rfl⟩ rfl))
theorem oX6_takesClause_90 : OKI 35 90 (.invokevirtual 28, 93, [33, 2, 8, 0, 0, 1], 0, 0, []) := And.intro dX6_takesClause_90 (And.intro rfl (And.intro (by decide) (And.intro (by decide) (And.intro mo_X6_takes (And.intro (tm_4 _ (List.mem_of_getElem? (i := 23) rfl) rfl) (And.intro (tm_4 _ (List.mem_of_getElem? (i := 25) rfl) rfl) (And.intro (pm_1 _ (List.mem_of_getElem? (i := 15) rfl)) (Or.inl ⟨(RX6, TX6, 3), rfl, rfl⟩))))))))
theorem oX6_takesClause_93 : OKI 35 93 (.ifCond .eq 15, 96, [108], 0, 0, []) := And.intro dX6_takesClause_93 (And.intro rfl (by decide))
theorem oX6_takesClause_96 : OKI 35 96 (.aload_n 0, 97, [0], 0, 0, []) := And.intro dX6_takesClause_96 (And.intro rfl (rfl))
theorem oX6_takesClause_97 : OKI 35 97 (.aload_n 1, 98, [1], 0, 0, []) := And.intro dX6_takesClause_97 (And.intro rfl (rfl))
theorem oX6_takesClause_98 : OKI 35 98 (.invokevirtual 58, 101, [38, 2, 8, 0, 0, 1], 0, 0, []) := And.intro dX6_takesClause_98 (And.intro rfl (And.intro (by decide) (And.intro (by decide) (And.intro mo_X6_takesBlur (And.intro (tm_4 _ (List.mem_of_getElem? (i := 79) rfl) rfl) (And.intro (tm_4 _ (List.mem_of_getElem? (i := 81) rfl) rfl) (And.intro (pm_2 _ (List.mem_of_getElem? (i := 1) rfl)) (Or.inl ⟨(RX6, TX6, 3), rfl, rfl⟩))))))))
theorem oX6_takesClause_101 : OKI 35 101 (.ifCond .eq 7, 104, [108], 0, 0, []) := And.intro dX6_takesClause_101 (And.intro rfl (by decide))
theorem oX6_takesClause_104 : OKI 35 104 (.iconst 1, 105, [], 1, 0, []) := And.intro dX6_takesClause_104 (And.intro rfl (by decide +kernel))
theorem oX6_takesClause_105 : OKI 35 105 (.goto 4, 108, [109], 0, 0, []) := And.intro dX6_takesClause_105 (And.intro rfl (by decide))
theorem oX6_takesClause_108 : OKI 35 108 (.iconst 0, 109, [], 0, 0, []) := And.intro dX6_takesClause_108 (And.intro rfl (by decide +kernel))
theorem oX6_takesClause_109 : OKI 35 109 (.ireturn, 110, [3], 0, 0, []) := And.intro dX6_takesClause_109 (Or.inr (Or.inl (And.intro rfl rfl)))
theorem oX6_takesClause_110 : OKI 35 110 (.aload_n 0, 111, [0], 0, 0, []) := And.intro dX6_takesClause_110 (And.intro rfl (rfl))
theorem oX6_takesClause_111 : OKI 35 111 (.ldc 61, 113, [0, 2], 0, 0, []) := And.intro dX6_takesClause_111 (And.intro rfl (And.intro ⟨_, rfl⟩ rfl))
theorem oX6_takesClause_113 : OKI 35 113 (.invokevirtual 28, 116, [33, 2, 8, 0, 0, 1], 0, 0, []) := And.intro dX6_takesClause_113 (And.intro rfl (And.intro (by decide) (And.intro (by decide) (And.intro mo_X6_takes (And.intro (tm_4 _ (List.mem_of_getElem? (i := 23) rfl) rfl) (And.intro (tm_4 _ (List.mem_of_getElem? (i := 25) rfl) rfl) (And.intro (pm_1 _ (List.mem_of_getElem? (i := 15) rfl)) (Or.inl ⟨(RX6, TX6, 3), rfl, rfl⟩))))))))
theorem oX6_takesClause_116 : OKI 35 116 (.ifCond .eq 15, 119, [131], 0, 0, []) := And.intro dX6_takesClause_116 (And.intro rfl (by decide))
theorem oX6_takesClause_119 : OKI 35 119 (.aload_n 0, 120, [0], 0, 0, []) := And.intro dX6_takesClause_119 (And.intro rfl (rfl))
theorem oX6_takesClause_120 : OKI 35 120 (.aload_n 1, 121, [1], 0, 0, []) := And.intro dX6_takesClause_120 (And.intro rfl (rfl))
theorem oX6_takesClause_121 : OKI 35 121 (.invokevirtual 63, 124, [40, 2, 8, 0, 0, 1], 0, 0, []) := And.intro dX6_takesClause_121 (And.intro rfl (And.intro (by decide) (And.intro (by decide) (And.intro mo_X6_takesRest (And.intro (tm_4 _ (List.mem_of_getElem? (i := 84) rfl) rfl) (And.intro (tm_4 _ (List.mem_of_getElem? (i := 86) rfl) rfl) (And.intro (pm_2 _ (List.mem_of_getElem? (i := 2) rfl)) (Or.inl ⟨(RX6, TX6, 3), rfl, rfl⟩))))))))
theorem oX6_takesClause_124 : OKI 35 124 (.ifCond .eq 7, 127, [131], 0, 0, []) := And.intro dX6_takesClause_124 (And.intro rfl (by decide))
theorem oX6_takesClause_127 : OKI 35 127 (.iconst 1, 128, [], 1, 0, []) := And.intro dX6_takesClause_127 (And.intro rfl (by decide +kernel))
theorem oX6_takesClause_128 : OKI 35 128 (.goto 4, 131, [132], 0, 0, []) := And.intro dX6_takesClause_128 (And.intro rfl (by decide))
theorem oX6_takesClause_131 : OKI 35 131 (.iconst 0, 132, [], 0, 0, []) := And.intro dX6_takesClause_131 (And.intro rfl (by decide +kernel))
theorem oX6_takesClause_132 : OKI 35 132 (.ireturn, 133, [3], 0, 0, []) := And.intro dX6_takesClause_132 (Or.inr (Or.inl (And.intro rfl rfl)))
theorem oX6_takesClause_133 : OKI 35 133 (.aload_n 0, 134, [0], 0, 0, []) := And.intro dX6_takesClause_133 (And.intro rfl (rfl))
theorem oX6_takesClause_134 : OKI 35 134 (.ldc 66, 136, [0, 3], 0, 0, []) := And.intro dX6_takesClause_134 (And.intro rfl (And.intro ⟨_, rfl⟩ rfl))
theorem oX6_takesClause_136 : OKI 35 136 (.invokevirtual 28, 139, [33, 2, 8, 0, 0, 1], 0, 0, []) := And.intro dX6_takesClause_136 (And.intro rfl (And.intro (by decide) (And.intro (by decide) (And.intro mo_X6_takes (And.intro (tm_4 _ (List.mem_of_getElem? (i := 23) rfl) rfl) (And.intro (tm_4 _ (List.mem_of_getElem? (i := 25) rfl) rfl) (And.intro (pm_1 _ (List.mem_of_getElem? (i := 15) rfl)) (Or.inl ⟨(RX6, TX6, 3), rfl, rfl⟩))))))))
theorem oX6_takesClause_139 : OKI 35 139 (.ifCond .eq 23, 142, [162], 0, 0, []) := And.intro dX6_takesClause_139 (And.intro rfl (by decide))
theorem oX6_takesClause_142 : OKI 35 142 (.aload_n 0, 143, [0], 0, 0, []) := And.intro dX6_takesClause_142 (And.intro rfl (rfl))
theorem oX6_takesClause_143 : OKI 35 143 (.aload_n 1, 144, [1], 0, 0, []) := And.intro dX6_takesClause_143 (And.intro rfl (rfl))
theorem oX6_takesClause_144 : OKI 35 144 (.iconst 0, 145, [], 0, 0, []) := And.intro dX6_takesClause_144 (And.intro rfl (by decide +kernel))
theorem oX6_takesClause_145 : OKI 35 145 (.invokevirtual 68, 148, [41, 3, 8, 0, 0, 1], 0, 0, []) := And.intro dX6_takesClause_145 (And.intro rfl (And.intro (by decide) (And.intro (by decide) (And.intro mo_X6_takesEither (And.intro (tm_4 _ (List.mem_of_getElem? (i := 94) rfl) rfl) (And.intro (tm_4 _ (List.mem_of_getElem? (i := 96) rfl) rfl) (And.intro (pm_2 _ (List.mem_of_getElem? (i := 4) rfl)) (Or.inl ⟨(RX6, TX6, 3), rfl, rfl⟩))))))))
theorem oX6_takesClause_148 : OKI 35 148 (.ifCond .eq 14, 151, [162], 0, 0, []) := And.intro dX6_takesClause_148 (And.intro rfl (by decide))
theorem oX6_takesClause_151 : OKI 35 151 (.aload_n 1, 152, [1], 0, 0, []) := And.intro dX6_takesClause_151 (And.intro rfl (rfl))
theorem oX6_takesClause_152 : OKI 35 152 (.invokevirtual 72, 155, [25, 1, 7, 0, 0, 1], 0, 0, []) := And.intro dX6_takesClause_152 (And.intro rfl (And.intro (by decide) (And.intro (by decide) (And.intro mo_X5_addsStrike (And.intro (tm_4 _ (List.mem_of_getElem? (i := 112) rfl) rfl) (And.intro (tm_4 _ (List.mem_of_getElem? (i := 113) rfl) rfl) (And.intro (tm_4 _ (List.mem_of_getElem? (i := 114) rfl) rfl) (Or.inl ⟨(RX5, TX5, 13), rfl, rfl⟩))))))))
theorem oX6_takesClause_155 : OKI 35 155 (.ifCond .eq 7, 158, [162], 0, 0, []) := And.intro dX6_takesClause_155 (And.intro rfl (by decide))
theorem oX6_takesClause_158 : OKI 35 158 (.iconst 1, 159, [], 1, 0, []) := And.intro dX6_takesClause_158 (And.intro rfl (by decide +kernel))
theorem oX6_takesClause_159 : OKI 35 159 (.goto 4, 162, [163], 0, 0, []) := And.intro dX6_takesClause_159 (And.intro rfl (by decide))
theorem oX6_takesClause_162 : OKI 35 162 (.iconst 0, 163, [], 0, 0, []) := And.intro dX6_takesClause_162 (And.intro rfl (by decide +kernel))
theorem oX6_takesClause_163 : OKI 35 163 (.ireturn, 164, [3], 0, 0, []) := And.intro dX6_takesClause_163 (Or.inr (Or.inl (And.intro rfl rfl)))
theorem oX6_takesClause_164 : OKI 35 164 (.aload_n 1, 165, [1], 0, 0, []) := And.intro dX6_takesClause_164 (And.intro rfl (rfl))
theorem oX6_takesClause_165 : OKI 35 165 (.aload_n 0, 166, [0], 0, 0, []) := And.intro dX6_takesClause_165 (And.intro rfl (rfl))
theorem oX6_takesClause_166 : OKI 35 166 (.ldc 78, 168, [0, 6], 0, 0, []) := And.intro dX6_takesClause_166 (And.intro rfl (And.intro ⟨_, rfl⟩ rfl))
theorem oX6_takesClause_168 : OKI 35 168 (.invokevirtual 28, 171, [33, 2, 8, 0, 0, 1], 0, 0, []) := And.intro dX6_takesClause_168 (And.intro rfl (And.intro (by decide) (And.intro (by decide) (And.intro mo_X6_takes (And.intro (tm_4 _ (List.mem_of_getElem? (i := 23) rfl) rfl) (And.intro (tm_4 _ (List.mem_of_getElem? (i := 25) rfl) rfl) (And.intro (pm_1 _ (List.mem_of_getElem? (i := 15) rfl)) (Or.inl ⟨(RX6, TX6, 3), rfl, rfl⟩))))))))
theorem oX6_takesClause_171 : OKI 35 171 (.putfield 80, 174, [6, 11, 3], 0, 0, []) := And.intro dX6_takesClause_171 (And.intro rfl (⟨(RX5, TX5, 13), "SpotTimers$Rule", rfl, by decide, tm_1 _ (List.mem_of_getElem? (i := 114) rfl) rfl, Or.inl rfl, Or.inl rfl, rfl⟩))
theorem oX6_takesClause_174 : OKI 35 174 (.aload_n 1, 175, [1], 0, 0, []) := And.intro dX6_takesClause_174 (And.intro rfl (rfl))
theorem oX6_takesClause_175 : OKI 35 175 (.getfield 80, 178, [6, 11, 0], 0, 0, []) := And.intro dX6_takesClause_175 (And.intro rfl (⟨(RX5, TX5, 13), "SpotTimers$Rule", rfl, by decide, tm_1 _ (List.mem_of_getElem? (i := 114) rfl) rfl, Or.inl rfl, Or.inr (Or.inr (And.intro rfl (Or.inr rfl)))⟩))
theorem oX6_takesClause_178 : OKI 35 178 (.ireturn, 179, [3], 0, 0, []) := And.intro dX6_takesClause_178 (Or.inr (Or.inl (And.intro rfl rfl)))
theorem oX6_takesClause_179 : OKI 35 179 (.aload_n 0, 180, [0], 0, 0, []) := And.intro dX6_takesClause_179 (And.intro rfl (rfl))
theorem oX6_takesClause_180 : OKI 35 180 (.ldc 83, 182, [0, 7], 0, 0, []) := And.intro dX6_takesClause_180 (And.intro rfl (And.intro ⟨_, rfl⟩ rfl))
theorem oX6_takesClause_182 : OKI 35 182 (.invokevirtual 28, 185, [33, 2, 8, 0, 0, 1], 0, 0, []) := And.intro dX6_takesClause_182 (And.intro rfl (And.intro (by decide) (And.intro (by decide) (And.intro mo_X6_takes (And.intro (tm_4 _ (List.mem_of_getElem? (i := 23) rfl) rfl) (And.intro (tm_4 _ (List.mem_of_getElem? (i := 25) rfl) rfl) (And.intro (pm_1 _ (List.mem_of_getElem? (i := 15) rfl)) (Or.inl ⟨(RX6, TX6, 3), rfl, rfl⟩))))))))
theorem oX6_takesClause_185 : OKI 35 185 (.ifCond .eq 15, 188, [200], 0, 0, []) := And.intro dX6_takesClause_185 (And.intro rfl (by decide))
theorem oX6_takesClause_188 : OKI 35 188 (.aload_n 0, 189, [0], 0, 0, []) := And.intro dX6_takesClause_188 (And.intro rfl (rfl))
theorem oX6_takesClause_189 : OKI 35 189 (.aload_n 1, 190, [1], 0, 0, []) := And.intro dX6_takesClause_189 (And.intro rfl (rfl))
theorem oX6_takesClause_190 : OKI 35 190 (.invokevirtual 85, 193, [36, 2, 8, 0, 0, 1], 0, 0, []) := And.intro dX6_takesClause_190 (And.intro rfl (And.intro (by decide) (And.intro (by decide) (And.intro mo_X6_takesBehindW (And.intro (tm_4 _ (List.mem_of_getElem? (i := 119) rfl) rfl) (And.intro (tm_4 _ (List.mem_of_getElem? (i := 121) rfl) rfl) (And.intro (pm_2 _ (List.mem_of_getElem? (i := 7) rfl)) (Or.inl ⟨(RX6, TX6, 3), rfl, rfl⟩))))))))
theorem oX6_takesClause_193 : OKI 35 193 (.ifCond .eq 7, 196, [200], 0, 0, []) := And.intro dX6_takesClause_193 (And.intro rfl (by decide))
theorem oX6_takesClause_196 : OKI 35 196 (.iconst 1, 197, [], 1, 0, []) := And.intro dX6_takesClause_196 (And.intro rfl (by decide +kernel))
theorem oX6_takesClause_197 : OKI 35 197 (.goto 4, 200, [201], 0, 0, []) := And.intro dX6_takesClause_197 (And.intro rfl (by decide))
theorem oX6_takesClause_200 : OKI 35 200 (.iconst 0, 201, [], 0, 0, []) := And.intro dX6_takesClause_200 (And.intro rfl (by decide +kernel))
theorem oX6_takesClause_201 : OKI 35 201 (.ireturn, 202, [3], 0, 0, []) := And.intro dX6_takesClause_201 (Or.inr (Or.inl (And.intro rfl rfl)))
theorem oX6_takesClause_202 : OKI 35 202 (.iconst 0, 203, [], 0, 0, []) := And.intro dX6_takesClause_202 (And.intro rfl (by decide +kernel))
theorem oX6_takesClause_203 : OKI 35 203 (.ireturn, 204, [3], 0, 0, []) := And.intro dX6_takesClause_203 (Or.inr (Or.inl (And.intro rfl rfl)))
def pfX6_takesClause (pc : Nat) : Option XE := (bif Nat.blt pc 132 then (bif Nat.blt pc 96 then (bif Nat.blt pc 75 then (bif Nat.blt pc 65 then (bif Nat.blt pc 4 then (bif Nat.blt pc 1 then (bif Nat.beq pc 0 then some (.aload_n 0, 1, [0], 0, 0, []) else none) else (bif Nat.beq pc 1 then some (.invokevirtual 38, 4, [32, 1, 8, 0, 0, 1], 0, 0, []) else none)) else (bif Nat.blt pc 64 then (bif Nat.beq pc 4 then some (.lookupswitch 198 #[(98, 83), (99, 160), (101, 60), (114, 106), (115, 129), (119, 175)], 64, [202], 0, 0, [(98, 87), (99, 164), (101, 64), (114, 110), (115, 133), (119, 179)]) else none) else (bif Nat.beq pc 64 then some (.aload_n 0, 65, [0], 0, 0, []) else none))) else (bif Nat.blt pc 70 then (bif Nat.blt pc 67 then (bif Nat.beq pc 65 then some (.ldc 51, 67, [0, 0], 0, 0, []) else none) else (bif Nat.beq pc 67 then some (.invokevirtual 28, 70, [33, 2, 8, 0, 0, 1], 0, 0, []) else none)) else (bif Nat.blt pc 73 then (bif Nat.beq pc 70 then some (.ifCond .eq 15, 73, [85], 0, 0, []) else none) else (bif Nat.blt pc 74 then (bif Nat.beq pc 73 then some (.aload_n 0, 74, [0], 0, 0, []) else none) else (bif Nat.beq pc 74 then some (.aload_n 1, 75, [1], 0, 0, []) else none))))) else (bif Nat.blt pc 86 then (bif Nat.blt pc 81 then (bif Nat.blt pc 78 then (bif Nat.beq pc 75 then some (.invokevirtual 53, 78, [37, 2, 8, 0, 0, 1], 0, 0, []) else none) else (bif Nat.beq pc 78 then some (.ifCond .eq 7, 81, [85], 0, 0, []) else none)) else (bif Nat.blt pc 82 then (bif Nat.beq pc 81 then some (.iconst 1, 82, [], 1, 0, []) else none) else (bif Nat.blt pc 85 then (bif Nat.beq pc 82 then some (.goto 4, 85, [86], 0, 0, []) else none) else (bif Nat.beq pc 85 then some (.iconst 0, 86, [], 0, 0, []) else none)))) else (bif Nat.blt pc 88 then (bif Nat.blt pc 87 then (bif Nat.beq pc 86 then some (.ireturn, 87, [3], 0, 0, []) else none) else (bif Nat.beq pc 87 then some (.aload_n 0, 88, [0], 0, 0, []) else none)) else (bif Nat.blt pc 90 then (bif Nat.beq pc 88 then some (.ldc 56, 90, [0, 1], 0, 0, []) else none) else (bif Nat.blt pc 93 then (bif Nat.beq pc 90 then some (.invokevirtual 28, 93, [33, 2, 8, 0, 0, 1], 0, 0, []) else none) else (bif Nat.beq pc 93 then some (.ifCond .eq 15, 96, [108], 0, 0, []) else none)))))) else (bif Nat.blt pc 111 then (bif Nat.blt pc 104 then (bif Nat.blt pc 98 then (bif Nat.blt pc 97 then (bif Nat.beq pc 96 then some (.aload_n 0, 97, [0], 0, 0, []) else none) else (bif Nat.beq pc 97 then some (.aload_n 1, 98, [1], 0, 0, []) else none)) else (bif Nat.blt pc 101 then (bif Nat.beq pc 98 then some (.invokevirtual 58, 101, [38, 2, 8, 0, 0, 1], 0, 0, []) else none) else (bif Nat.beq pc 101 then some (.ifCond .eq 7, 104, [108], 0, 0, []) else none))) else (bif Nat.blt pc 108 then (bif Nat.blt pc 105 then (bif Nat.beq pc 104 then some (.iconst 1, 105, [], 1, 0, []) else none) else (bif Nat.beq pc 105 then some (.goto 4, 108, [109], 0, 0, []) else none)) else (bif Nat.blt pc 109 then (bif Nat.beq pc 108 then some (.iconst 0, 109, [], 0, 0, []) else none) else (bif Nat.blt pc 110 then (bif Nat.beq pc 109 then some (.ireturn, 110, [3], 0, 0, []) else none) else (bif Nat.beq pc 110 then some (.aload_n 0, 111, [0], 0, 0, []) else none))))) else (bif Nat.blt pc 121 then (bif Nat.blt pc 116 then (bif Nat.blt pc 113 then (bif Nat.beq pc 111 then some (.ldc 61, 113, [0, 2], 0, 0, []) else none) else (bif Nat.beq pc 113 then some (.invokevirtual 28, 116, [33, 2, 8, 0, 0, 1], 0, 0, []) else none)) else (bif Nat.blt pc 119 then (bif Nat.beq pc 116 then some (.ifCond .eq 15, 119, [131], 0, 0, []) else none) else (bif Nat.blt pc 120 then (bif Nat.beq pc 119 then some (.aload_n 0, 120, [0], 0, 0, []) else none) else (bif Nat.beq pc 120 then some (.aload_n 1, 121, [1], 0, 0, []) else none)))) else (bif Nat.blt pc 127 then (bif Nat.blt pc 124 then (bif Nat.beq pc 121 then some (.invokevirtual 63, 124, [40, 2, 8, 0, 0, 1], 0, 0, []) else none) else (bif Nat.beq pc 124 then some (.ifCond .eq 7, 127, [131], 0, 0, []) else none)) else (bif Nat.blt pc 128 then (bif Nat.beq pc 127 then some (.iconst 1, 128, [], 1, 0, []) else none) else (bif Nat.blt pc 131 then (bif Nat.beq pc 128 then some (.goto 4, 131, [132], 0, 0, []) else none) else (bif Nat.beq pc 131 then some (.iconst 0, 132, [], 0, 0, []) else none))))))) else (bif Nat.blt pc 166 then (bif Nat.blt pc 148 then (bif Nat.blt pc 139 then (bif Nat.blt pc 134 then (bif Nat.blt pc 133 then (bif Nat.beq pc 132 then some (.ireturn, 133, [3], 0, 0, []) else none) else (bif Nat.beq pc 133 then some (.aload_n 0, 134, [0], 0, 0, []) else none)) else (bif Nat.blt pc 136 then (bif Nat.beq pc 134 then some (.ldc 66, 136, [0, 3], 0, 0, []) else none) else (bif Nat.beq pc 136 then some (.invokevirtual 28, 139, [33, 2, 8, 0, 0, 1], 0, 0, []) else none))) else (bif Nat.blt pc 143 then (bif Nat.blt pc 142 then (bif Nat.beq pc 139 then some (.ifCond .eq 23, 142, [162], 0, 0, []) else none) else (bif Nat.beq pc 142 then some (.aload_n 0, 143, [0], 0, 0, []) else none)) else (bif Nat.blt pc 144 then (bif Nat.beq pc 143 then some (.aload_n 1, 144, [1], 0, 0, []) else none) else (bif Nat.blt pc 145 then (bif Nat.beq pc 144 then some (.iconst 0, 145, [], 0, 0, []) else none) else (bif Nat.beq pc 145 then some (.invokevirtual 68, 148, [41, 3, 8, 0, 0, 1], 0, 0, []) else none))))) else (bif Nat.blt pc 159 then (bif Nat.blt pc 152 then (bif Nat.blt pc 151 then (bif Nat.beq pc 148 then some (.ifCond .eq 14, 151, [162], 0, 0, []) else none) else (bif Nat.beq pc 151 then some (.aload_n 1, 152, [1], 0, 0, []) else none)) else (bif Nat.blt pc 155 then (bif Nat.beq pc 152 then some (.invokevirtual 72, 155, [25, 1, 7, 0, 0, 1], 0, 0, []) else none) else (bif Nat.blt pc 158 then (bif Nat.beq pc 155 then some (.ifCond .eq 7, 158, [162], 0, 0, []) else none) else (bif Nat.beq pc 158 then some (.iconst 1, 159, [], 1, 0, []) else none)))) else (bif Nat.blt pc 163 then (bif Nat.blt pc 162 then (bif Nat.beq pc 159 then some (.goto 4, 162, [163], 0, 0, []) else none) else (bif Nat.beq pc 162 then some (.iconst 0, 163, [], 0, 0, []) else none)) else (bif Nat.blt pc 164 then (bif Nat.beq pc 163 then some (.ireturn, 164, [3], 0, 0, []) else none) else (bif Nat.blt pc 165 then (bif Nat.beq pc 164 then some (.aload_n 1, 165, [1], 0, 0, []) else none) else (bif Nat.beq pc 165 then some (.aload_n 0, 166, [0], 0, 0, []) else none)))))) else (bif Nat.blt pc 188 then (bif Nat.blt pc 178 then (bif Nat.blt pc 171 then (bif Nat.blt pc 168 then (bif Nat.beq pc 166 then some (.ldc 78, 168, [0, 6], 0, 0, []) else none) else (bif Nat.beq pc 168 then some (.invokevirtual 28, 171, [33, 2, 8, 0, 0, 1], 0, 0, []) else none)) else (bif Nat.blt pc 174 then (bif Nat.beq pc 171 then some (.putfield 80, 174, [6, 11, 3], 0, 0, []) else none) else (bif Nat.blt pc 175 then (bif Nat.beq pc 174 then some (.aload_n 1, 175, [1], 0, 0, []) else none) else (bif Nat.beq pc 175 then some (.getfield 80, 178, [6, 11, 0], 0, 0, []) else none)))) else (bif Nat.blt pc 180 then (bif Nat.blt pc 179 then (bif Nat.beq pc 178 then some (.ireturn, 179, [3], 0, 0, []) else none) else (bif Nat.beq pc 179 then some (.aload_n 0, 180, [0], 0, 0, []) else none)) else (bif Nat.blt pc 182 then (bif Nat.beq pc 180 then some (.ldc 83, 182, [0, 7], 0, 0, []) else none) else (bif Nat.blt pc 185 then (bif Nat.beq pc 182 then some (.invokevirtual 28, 185, [33, 2, 8, 0, 0, 1], 0, 0, []) else none) else (bif Nat.beq pc 185 then some (.ifCond .eq 15, 188, [200], 0, 0, []) else none))))) else (bif Nat.blt pc 197 then (bif Nat.blt pc 190 then (bif Nat.blt pc 189 then (bif Nat.beq pc 188 then some (.aload_n 0, 189, [0], 0, 0, []) else none) else (bif Nat.beq pc 189 then some (.aload_n 1, 190, [1], 0, 0, []) else none)) else (bif Nat.blt pc 193 then (bif Nat.beq pc 190 then some (.invokevirtual 85, 193, [36, 2, 8, 0, 0, 1], 0, 0, []) else none) else (bif Nat.blt pc 196 then (bif Nat.beq pc 193 then some (.ifCond .eq 7, 196, [200], 0, 0, []) else none) else (bif Nat.beq pc 196 then some (.iconst 1, 197, [], 1, 0, []) else none)))) else (bif Nat.blt pc 201 then (bif Nat.blt pc 200 then (bif Nat.beq pc 197 then some (.goto 4, 200, [201], 0, 0, []) else none) else (bif Nat.beq pc 200 then some (.iconst 0, 201, [], 0, 0, []) else none)) else (bif Nat.blt pc 202 then (bif Nat.beq pc 201 then some (.ireturn, 202, [3], 0, 0, []) else none) else (bif Nat.blt pc 203 then (bif Nat.beq pc 202 then some (.iconst 0, 203, [], 0, 0, []) else none) else (bif Nat.beq pc 203 then some (.ireturn, 204, [3], 0, 0, []) else none))))))))
theorem okX6_takesClause : ∀ pc Y, pfX6_takesClause pc = some Y → OKI m_X6_takesClause pc Y := fun pc Y => ((bt_node (bt_node (bt_node (bt_node (bt_node (bt_node (bt_leaf (P := OKI m_X6_takesClause) oX6_takesClause_0) (bt_leaf (P := OKI m_X6_takesClause) oX6_takesClause_1)) (bt_node (bt_leaf (P := OKI m_X6_takesClause) oX6_takesClause_4) (bt_leaf (P := OKI m_X6_takesClause) oX6_takesClause_64))) (bt_node (bt_node (bt_leaf (P := OKI m_X6_takesClause) oX6_takesClause_65) (bt_leaf (P := OKI m_X6_takesClause) oX6_takesClause_67)) (bt_node (bt_leaf (P := OKI m_X6_takesClause) oX6_takesClause_70) (bt_node (bt_leaf (P := OKI m_X6_takesClause) oX6_takesClause_73) (bt_leaf (P := OKI m_X6_takesClause) oX6_takesClause_74))))) (bt_node (bt_node (bt_node (bt_leaf (P := OKI m_X6_takesClause) oX6_takesClause_75) (bt_leaf (P := OKI m_X6_takesClause) oX6_takesClause_78)) (bt_node (bt_leaf (P := OKI m_X6_takesClause) oX6_takesClause_81) (bt_node (bt_leaf (P := OKI m_X6_takesClause) oX6_takesClause_82) (bt_leaf (P := OKI m_X6_takesClause) oX6_takesClause_85)))) (bt_node (bt_node (bt_leaf (P := OKI m_X6_takesClause) oX6_takesClause_86) (bt_leaf (P := OKI m_X6_takesClause) oX6_takesClause_87)) (bt_node (bt_leaf (P := OKI m_X6_takesClause) oX6_takesClause_88) (bt_node (bt_leaf (P := OKI m_X6_takesClause) oX6_takesClause_90) (bt_leaf (P := OKI m_X6_takesClause) oX6_takesClause_93)))))) (bt_node (bt_node (bt_node (bt_node (bt_leaf (P := OKI m_X6_takesClause) oX6_takesClause_96) (bt_leaf (P := OKI m_X6_takesClause) oX6_takesClause_97)) (bt_node (bt_leaf (P := OKI m_X6_takesClause) oX6_takesClause_98) (bt_leaf (P := OKI m_X6_takesClause) oX6_takesClause_101))) (bt_node (bt_node (bt_leaf (P := OKI m_X6_takesClause) oX6_takesClause_104) (bt_leaf (P := OKI m_X6_takesClause) oX6_takesClause_105)) (bt_node (bt_leaf (P := OKI m_X6_takesClause) oX6_takesClause_108) (bt_node (bt_leaf (P := OKI m_X6_takesClause) oX6_takesClause_109) (bt_leaf (P := OKI m_X6_takesClause) oX6_takesClause_110))))) (bt_node (bt_node (bt_node (bt_leaf (P := OKI m_X6_takesClause) oX6_takesClause_111) (bt_leaf (P := OKI m_X6_takesClause) oX6_takesClause_113)) (bt_node (bt_leaf (P := OKI m_X6_takesClause) oX6_takesClause_116) (bt_node (bt_leaf (P := OKI m_X6_takesClause) oX6_takesClause_119) (bt_leaf (P := OKI m_X6_takesClause) oX6_takesClause_120)))) (bt_node (bt_node (bt_leaf (P := OKI m_X6_takesClause) oX6_takesClause_121) (bt_leaf (P := OKI m_X6_takesClause) oX6_takesClause_124)) (bt_node (bt_leaf (P := OKI m_X6_takesClause) oX6_takesClause_127) (bt_node (bt_leaf (P := OKI m_X6_takesClause) oX6_takesClause_128) (bt_leaf (P := OKI m_X6_takesClause) oX6_takesClause_131))))))) (bt_node (bt_node (bt_node (bt_node (bt_node (bt_leaf (P := OKI m_X6_takesClause) oX6_takesClause_132) (bt_leaf (P := OKI m_X6_takesClause) oX6_takesClause_133)) (bt_node (bt_leaf (P := OKI m_X6_takesClause) oX6_takesClause_134) (bt_leaf (P := OKI m_X6_takesClause) oX6_takesClause_136))) (bt_node (bt_node (bt_leaf (P := OKI m_X6_takesClause) oX6_takesClause_139) (bt_leaf (P := OKI m_X6_takesClause) oX6_takesClause_142)) (bt_node (bt_leaf (P := OKI m_X6_takesClause) oX6_takesClause_143) (bt_node (bt_leaf (P := OKI m_X6_takesClause) oX6_takesClause_144) (bt_leaf (P := OKI m_X6_takesClause) oX6_takesClause_145))))) (bt_node (bt_node (bt_node (bt_leaf (P := OKI m_X6_takesClause) oX6_takesClause_148) (bt_leaf (P := OKI m_X6_takesClause) oX6_takesClause_151)) (bt_node (bt_leaf (P := OKI m_X6_takesClause) oX6_takesClause_152) (bt_node (bt_leaf (P := OKI m_X6_takesClause) oX6_takesClause_155) (bt_leaf (P := OKI m_X6_takesClause) oX6_takesClause_158)))) (bt_node (bt_node (bt_leaf (P := OKI m_X6_takesClause) oX6_takesClause_159) (bt_leaf (P := OKI m_X6_takesClause) oX6_takesClause_162)) (bt_node (bt_leaf (P := OKI m_X6_takesClause) oX6_takesClause_163) (bt_node (bt_leaf (P := OKI m_X6_takesClause) oX6_takesClause_164) (bt_leaf (P := OKI m_X6_takesClause) oX6_takesClause_165)))))) (bt_node (bt_node (bt_node (bt_node (bt_leaf (P := OKI m_X6_takesClause) oX6_takesClause_166) (bt_leaf (P := OKI m_X6_takesClause) oX6_takesClause_168)) (bt_node (bt_leaf (P := OKI m_X6_takesClause) oX6_takesClause_171) (bt_node (bt_leaf (P := OKI m_X6_takesClause) oX6_takesClause_174) (bt_leaf (P := OKI m_X6_takesClause) oX6_takesClause_175)))) (bt_node (bt_node (bt_leaf (P := OKI m_X6_takesClause) oX6_takesClause_178) (bt_leaf (P := OKI m_X6_takesClause) oX6_takesClause_179)) (bt_node (bt_leaf (P := OKI m_X6_takesClause) oX6_takesClause_180) (bt_node (bt_leaf (P := OKI m_X6_takesClause) oX6_takesClause_182) (bt_leaf (P := OKI m_X6_takesClause) oX6_takesClause_185))))) (bt_node (bt_node (bt_node (bt_leaf (P := OKI m_X6_takesClause) oX6_takesClause_188) (bt_leaf (P := OKI m_X6_takesClause) oX6_takesClause_189)) (bt_node (bt_leaf (P := OKI m_X6_takesClause) oX6_takesClause_190) (bt_node (bt_leaf (P := OKI m_X6_takesClause) oX6_takesClause_193) (bt_leaf (P := OKI m_X6_takesClause) oX6_takesClause_196)))) (bt_node (bt_node (bt_leaf (P := OKI m_X6_takesClause) oX6_takesClause_197) (bt_leaf (P := OKI m_X6_takesClause) oX6_takesClause_200)) (bt_node (bt_leaf (P := OKI m_X6_takesClause) oX6_takesClause_201) (bt_node (bt_leaf (P := OKI m_X6_takesClause) oX6_takesClause_202) (bt_leaf (P := OKI m_X6_takesClause) oX6_takesClause_203)))))))) : pfX6_takesClause pc = some Y → OKI m_X6_takesClause pc Y)
def stpX6_takesClause (pc : Nat) : Option (List Bool) := (bif Nat.blt pc 132 then (bif Nat.blt pc 108 then (bif Nat.blt pc 86 then (bif Nat.beq pc 85 then some [false, false] else none) else (bif Nat.beq pc 86 then some [false, false] else none)) else (bif Nat.blt pc 109 then (bif Nat.beq pc 108 then some [false, false] else none) else (bif Nat.blt pc 131 then (bif Nat.beq pc 109 then some [false, false] else none) else (bif Nat.beq pc 131 then some [false, false] else none)))) else (bif Nat.blt pc 163 then (bif Nat.blt pc 162 then (bif Nat.beq pc 132 then some [false, false] else none) else (bif Nat.beq pc 162 then some [false, false] else none)) else (bif Nat.blt pc 200 then (bif Nat.beq pc 163 then some [false, false] else none) else (bif Nat.blt pc 201 then (bif Nat.beq pc 200 then some [false, false] else none) else (bif Nat.beq pc 201 then some [false, false] else none)))))
def bX6_takesClause_0 (d rc rs : Nat) (t : Nat) (a1 : Option XO) (σ : XH) (Q : XV → XH → Prop) : Prop :=
  ((1 ≤ d ∧ Ec (d - 1) 0 0 m_X6_next [vR (some (7, t))] σ (kI fun x2 h1 => ((x2 = 98 → ((1 ≤ d ∧ Ec (d - 1) 0 0 m_X6_takes [vR (some (7, t)), vR (some (512, 1))] h1 (kI fun x28 h27 => ((x28 = 0 → Ex d rc rs m_X6_takesClause 108 [vU, vU] [] h27 Q) ∧ (¬ x28 = 0 → ((1 ≤ d ∧ Ec (d - 1) 0 0 m_X6_takesBlur [vR (some (7, t)), vR a1] h27 (kI fun x30 h29 => ((x30 = 0 → Ex d rc rs m_X6_takesClause 108 [vU, vU] [] h29 Q) ∧ (¬ x30 = 0 → Ex d rc rs m_X6_takesClause 109 [vU, vU] [vI 1] h29 Q))))))))))) ∧ (¬ x2 = 98 → ((x2 = 99 → ((1 ≤ d ∧ Ec (d - 1) 0 0 m_X6_takes [vR (some (7, t)), vR (some (512, 6))] h1 (kI fun x23 h22 => (drf a1 6 fun i24 => ((x23 = 0 ∨ x23 = 1) ∧ (∀ h25, h25 = wI h22 6 i24 11 x23 → (drf a1 6 fun i26 => (((hi h25 6 i26 11) = 0 ∨ (hi h25 6 i26 11) = 1) ∧ Q (vI (hi h25 6 i26 11)) h25))))))))) ∧ (¬ x2 = 99 → ((x2 = 101 → ((1 ≤ d ∧ Ec (d - 1) 0 0 m_X6_takes [vR (some (7, t)), vR (some (512, 0))] h1 (kI fun x19 h18 => ((x19 = 0 → Ex d rc rs m_X6_takesClause 85 [vU, vU] [] h18 Q) ∧ (¬ x19 = 0 → ((1 ≤ d ∧ Ec (d - 1) 0 0 m_X6_takesEdges [vR (some (7, t)), vR a1] h18 (kI fun x21 h20 => ((x21 = 0 → Ex d rc rs m_X6_takesClause 85 [vU, vU] [] h20 Q) ∧ (¬ x21 = 0 → Ex d rc rs m_X6_takesClause 86 [vU, vU] [vI 1] h20 Q))))))))))) ∧ (¬ x2 = 101 → ((x2 = 114 → ((1 ≤ d ∧ Ec (d - 1) 0 0 m_X6_takes [vR (some (7, t)), vR (some (512, 2))] h1 (kI fun x15 h14 => ((x15 = 0 → Ex d rc rs m_X6_takesClause 131 [vU, vU] [] h14 Q) ∧ (¬ x15 = 0 → ((1 ≤ d ∧ Ec (d - 1) 0 0 m_X6_takesRest [vR (some (7, t)), vR a1] h14 (kI fun x17 h16 => ((x17 = 0 → Ex d rc rs m_X6_takesClause 131 [vU, vU] [] h16 Q) ∧ (¬ x17 = 0 → Ex d rc rs m_X6_takesClause 132 [vU, vU] [vI 1] h16 Q))))))))))) ∧ (¬ x2 = 114 → ((x2 = 115 → ((1 ≤ d ∧ Ec (d - 1) 0 0 m_X6_takes [vR (some (7, t)), vR (some (512, 3))] h1 (kI fun x8 h7 => ((x8 = 0 → Ex d rc rs m_X6_takesClause 162 [vU, vU] [] h7 Q) ∧ (¬ x8 = 0 → ((1 ≤ d ∧ Ec (d - 1) 0 0 m_X6_takesEither [vR (some (7, t)), vR a1, vI 0] h7 (kI fun x10 h9 => ((x10 = 0 → Ex d rc rs m_X6_takesClause 162 [vU, vU] [] h9 Q) ∧ (¬ x10 = 0 → (drf a1 6 fun i13 => (1 ≤ d ∧ Ec (d - 1) 0 0 m_X5_addsStrike [vR (some (6, i13))] h9 (kI fun x12 h11 => ((x12 = 0 → Ex d rc rs m_X6_takesClause 162 [vU, vU] [] h11 Q) ∧ (¬ x12 = 0 → Ex d rc rs m_X6_takesClause 163 [vU, vU] [vI 1] h11 Q)))))))))))))))) ∧ (¬ x2 = 115 → ((x2 = 119 → ((1 ≤ d ∧ Ec (d - 1) 0 0 m_X6_takes [vR (some (7, t)), vR (some (512, 7))] h1 (kI fun x4 h3 => ((x4 = 0 → Ex d rc rs m_X6_takesClause 200 [vU, vU] [] h3 Q) ∧ (¬ x4 = 0 → ((1 ≤ d ∧ Ec (d - 1) 0 0 m_X6_takesBehindW [vR (some (7, t)), vR a1] h3 (kI fun x6 h5 => ((x6 = 0 → Ex d rc rs m_X6_takesClause 200 [vU, vU] [] h5 Q) ∧ (¬ x6 = 0 → Ex d rc rs m_X6_takesClause 201 [vU, vU] [vI 1] h5 Q))))))))))) ∧ (¬ x2 = 119 → (((0 : Int32) = 0 ∨ (0 : Int32) = 1) ∧ Q (vI 0) h1))))))))))))))))
theorem sX6_takesClause_0 {d rc rs : Nat} {t : Nat} {a1 : Option XO} {σ : XH} {Q : XV → XH → Prop} (h : bX6_takesClause_0 d rc rs t a1 σ Q) : Ex d rc rs m_X6_takesClause 0 [vR (some (7, t)), vR a1] [] σ Q :=
  xtree_sound (stop := stpX6_takesClause) okX6_takesClause 19 _ _ _ _ _ _ h
def bX6_takesClause_85 (d rc rs : Nat)  (σ : XH) (Q : XV → XH → Prop) : Prop :=
  Ex d rc rs m_X6_takesClause 86 [vU, vU] [vI 0] σ Q
theorem sX6_takesClause_85 {d rc rs : Nat}  {σ : XH} {Q : XV → XH → Prop} (h : bX6_takesClause_85 d rc rs  σ Q) : Ex d rc rs m_X6_takesClause 85 [vU, vU] [] σ Q :=
  xtree_sound (stop := stpX6_takesClause) okX6_takesClause 3 _ _ _ _ _ _ h
def bX6_takesClause_86 (d rc rs : Nat) (q0 : Int32) (σ : XH) (Q : XV → XH → Prop) : Prop :=
  ((q0 = 0 ∨ q0 = 1) ∧ Q (vI q0) σ)
theorem sX6_takesClause_86 {d rc rs : Nat} {q0 : Int32} {σ : XH} {Q : XV → XH → Prop} (h : bX6_takesClause_86 d rc rs q0 σ Q) : Ex d rc rs m_X6_takesClause 86 [vU, vU] [vI q0] σ Q :=
  xtree_sound (stop := stpX6_takesClause) okX6_takesClause 3 _ _ _ _ _ _ h
def bX6_takesClause_108 (d rc rs : Nat)  (σ : XH) (Q : XV → XH → Prop) : Prop :=
  Ex d rc rs m_X6_takesClause 109 [vU, vU] [vI 0] σ Q
theorem sX6_takesClause_108 {d rc rs : Nat}  {σ : XH} {Q : XV → XH → Prop} (h : bX6_takesClause_108 d rc rs  σ Q) : Ex d rc rs m_X6_takesClause 108 [vU, vU] [] σ Q :=
  xtree_sound (stop := stpX6_takesClause) okX6_takesClause 3 _ _ _ _ _ _ h
def bX6_takesClause_109 (d rc rs : Nat) (q0 : Int32) (σ : XH) (Q : XV → XH → Prop) : Prop :=
  ((q0 = 0 ∨ q0 = 1) ∧ Q (vI q0) σ)
theorem sX6_takesClause_109 {d rc rs : Nat} {q0 : Int32} {σ : XH} {Q : XV → XH → Prop} (h : bX6_takesClause_109 d rc rs q0 σ Q) : Ex d rc rs m_X6_takesClause 109 [vU, vU] [vI q0] σ Q :=
  xtree_sound (stop := stpX6_takesClause) okX6_takesClause 3 _ _ _ _ _ _ h
def bX6_takesClause_131 (d rc rs : Nat)  (σ : XH) (Q : XV → XH → Prop) : Prop :=
  Ex d rc rs m_X6_takesClause 132 [vU, vU] [vI 0] σ Q
theorem sX6_takesClause_131 {d rc rs : Nat}  {σ : XH} {Q : XV → XH → Prop} (h : bX6_takesClause_131 d rc rs  σ Q) : Ex d rc rs m_X6_takesClause 131 [vU, vU] [] σ Q :=
  xtree_sound (stop := stpX6_takesClause) okX6_takesClause 3 _ _ _ _ _ _ h
def bX6_takesClause_132 (d rc rs : Nat) (q0 : Int32) (σ : XH) (Q : XV → XH → Prop) : Prop :=
  ((q0 = 0 ∨ q0 = 1) ∧ Q (vI q0) σ)
theorem sX6_takesClause_132 {d rc rs : Nat} {q0 : Int32} {σ : XH} {Q : XV → XH → Prop} (h : bX6_takesClause_132 d rc rs q0 σ Q) : Ex d rc rs m_X6_takesClause 132 [vU, vU] [vI q0] σ Q :=
  xtree_sound (stop := stpX6_takesClause) okX6_takesClause 3 _ _ _ _ _ _ h
def bX6_takesClause_162 (d rc rs : Nat)  (σ : XH) (Q : XV → XH → Prop) : Prop :=
  Ex d rc rs m_X6_takesClause 163 [vU, vU] [vI 0] σ Q
theorem sX6_takesClause_162 {d rc rs : Nat}  {σ : XH} {Q : XV → XH → Prop} (h : bX6_takesClause_162 d rc rs  σ Q) : Ex d rc rs m_X6_takesClause 162 [vU, vU] [] σ Q :=
  xtree_sound (stop := stpX6_takesClause) okX6_takesClause 3 _ _ _ _ _ _ h
def bX6_takesClause_163 (d rc rs : Nat) (q0 : Int32) (σ : XH) (Q : XV → XH → Prop) : Prop :=
  ((q0 = 0 ∨ q0 = 1) ∧ Q (vI q0) σ)
theorem sX6_takesClause_163 {d rc rs : Nat} {q0 : Int32} {σ : XH} {Q : XV → XH → Prop} (h : bX6_takesClause_163 d rc rs q0 σ Q) : Ex d rc rs m_X6_takesClause 163 [vU, vU] [vI q0] σ Q :=
  xtree_sound (stop := stpX6_takesClause) okX6_takesClause 3 _ _ _ _ _ _ h
def bX6_takesClause_200 (d rc rs : Nat)  (σ : XH) (Q : XV → XH → Prop) : Prop :=
  Ex d rc rs m_X6_takesClause 201 [vU, vU] [vI 0] σ Q
theorem sX6_takesClause_200 {d rc rs : Nat}  {σ : XH} {Q : XV → XH → Prop} (h : bX6_takesClause_200 d rc rs  σ Q) : Ex d rc rs m_X6_takesClause 200 [vU, vU] [] σ Q :=
  xtree_sound (stop := stpX6_takesClause) okX6_takesClause 3 _ _ _ _ _ _ h
def bX6_takesClause_201 (d rc rs : Nat) (q0 : Int32) (σ : XH) (Q : XV → XH → Prop) : Prop :=
  ((q0 = 0 ∨ q0 = 1) ∧ Q (vI q0) σ)
theorem sX6_takesClause_201 {d rc rs : Nat} {q0 : Int32} {σ : XH} {Q : XV → XH → Prop} (h : bX6_takesClause_201 d rc rs q0 σ Q) : Ex d rc rs m_X6_takesClause 201 [vU, vU] [vI q0] σ Q :=
  xtree_sound (stop := stpX6_takesClause) okX6_takesClause 3 _ _ _ _ _ _ h
/-! SpotTimers$RuleReader.takesBehindW(LSpotTimers$Rule;)Z -/
theorem dX6_takesBehindW_0 : decode cX6_takesBehindW 0 = .ok (.aload_n 0, 1) := by decide +kernel
theorem dX6_takesBehindW_1 : decode cX6_takesBehindW 1 = .ok (.invokevirtual 38, 3) := by decide +kernel
theorem dX6_takesBehindW_4 : decode cX6_takesBehindW 4 = .ok (.bipush 105, 2) := by decide +kernel
theorem dX6_takesBehindW_6 : decode cX6_takesBehindW 6 = .ok (.if_icmp .ne 18, 3) := by decide +kernel
theorem dX6_takesBehindW_9 : decode cX6_takesBehindW 9 = .ok (.aload_n 1, 1) := by decide +kernel
theorem dX6_takesBehindW_10 : decode cX6_takesBehindW 10 = .ok (.aload_n 0, 1) := by decide +kernel
theorem dX6_takesBehindW_11 : decode cX6_takesBehindW 11 = .ok (.ldc 88, 2) := by decide +kernel
theorem dX6_takesBehindW_13 : decode cX6_takesBehindW 13 = .ok (.invokevirtual 28, 3) := by decide +kernel
theorem dX6_takesBehindW_16 : decode cX6_takesBehindW 16 = .ok (.putfield 90, 3) := by decide +kernel
theorem dX6_takesBehindW_19 : decode cX6_takesBehindW 19 = .ok (.aload_n 1, 1) := by decide +kernel
theorem dX6_takesBehindW_20 : decode cX6_takesBehindW 20 = .ok (.getfield 90, 3) := by decide +kernel
theorem dX6_takesBehindW_23 : decode cX6_takesBehindW 23 = .ok (.ireturn, 1) := by decide +kernel
theorem dX6_takesBehindW_24 : decode cX6_takesBehindW 24 = .ok (.aload_n 0, 1) := by decide +kernel
theorem dX6_takesBehindW_25 : decode cX6_takesBehindW 25 = .ok (.ldc 93, 2) := by decide +kernel
theorem dX6_takesBehindW_27 : decode cX6_takesBehindW 27 = .ok (.invokevirtual 28, 3) := by decide +kernel
theorem dX6_takesBehindW_30 : decode cX6_takesBehindW 30 = .ok (.ifCond .eq 15, 3) := by decide +kernel
theorem dX6_takesBehindW_33 : decode cX6_takesBehindW 33 = .ok (.aload_n 0, 1) := by decide +kernel
theorem dX6_takesBehindW_34 : decode cX6_takesBehindW 34 = .ok (.aload_n 1, 1) := by decide +kernel
theorem dX6_takesBehindW_35 : decode cX6_takesBehindW 35 = .ok (.invokevirtual 95, 3) := by decide +kernel
theorem dX6_takesBehindW_38 : decode cX6_takesBehindW 38 = .ok (.ifCond .eq 7, 3) := by decide +kernel
theorem dX6_takesBehindW_41 : decode cX6_takesBehindW 41 = .ok (.iconst 1, 1) := by decide +kernel
theorem dX6_takesBehindW_42 : decode cX6_takesBehindW 42 = .ok (.goto 4, 3) := by decide +kernel
theorem dX6_takesBehindW_45 : decode cX6_takesBehindW 45 = .ok (.iconst 0, 1) := by decide +kernel
theorem dX6_takesBehindW_46 : decode cX6_takesBehindW 46 = .ok (.ireturn, 1) := by decide +kernel
theorem oX6_takesBehindW_0 : OKI 36 0 (.aload_n 0, 1, [0], 0, 0, []) := And.intro dX6_takesBehindW_0 (And.intro rfl (rfl))
theorem oX6_takesBehindW_1 : OKI 36 1 (.invokevirtual 38, 4, [32, 1, 8, 0, 0, 1], 0, 0, []) := And.intro dX6_takesBehindW_1 (And.intro rfl (And.intro (by decide) (And.intro (by decide) (And.intro mo_X6_next (And.intro (tm_4 _ (List.mem_of_getElem? (i := 18) rfl) rfl) (And.intro (tm_4 _ (List.mem_of_getElem? (i := 20) rfl) rfl) (And.intro (pm_1 _ (List.mem_of_getElem? (i := 14) rfl)) (Or.inl ⟨(RX6, TX6, 3), rfl, rfl⟩))))))))
theorem oX6_takesBehindW_4 : OKI 36 4 (.bipush 105, 6, [], 105, 0, []) := And.intro dX6_takesBehindW_4 (And.intro rfl (by decide +kernel))
theorem oX6_takesBehindW_6 : OKI 36 6 (.if_icmp .ne 18, 9, [24], 0, 0, []) := And.intro dX6_takesBehindW_6 (And.intro rfl (by decide))
theorem oX6_takesBehindW_9 : OKI 36 9 (.aload_n 1, 10, [1], 0, 0, []) := And.intro dX6_takesBehindW_9 (And.intro rfl (rfl))
theorem oX6_takesBehindW_10 : OKI 36 10 (.aload_n 0, 11, [0], 0, 0, []) := And.intro dX6_takesBehindW_10 (And.intro rfl (rfl))
theorem oX6_takesBehindW_11 : OKI 36 11 (.ldc 88, 13, [0, 8], 0, 0, []) := And.intro dX6_takesBehindW_11 (And.intro rfl (And.intro ⟨_, rfl⟩ rfl))
theorem oX6_takesBehindW_13 : OKI 36 13 (.invokevirtual 28, 16, [33, 2, 8, 0, 0, 1], 0, 0, []) := And.intro dX6_takesBehindW_13 (And.intro rfl (And.intro (by decide) (And.intro (by decide) (And.intro mo_X6_takes (And.intro (tm_4 _ (List.mem_of_getElem? (i := 23) rfl) rfl) (And.intro (tm_4 _ (List.mem_of_getElem? (i := 25) rfl) rfl) (And.intro (pm_1 _ (List.mem_of_getElem? (i := 15) rfl)) (Or.inl ⟨(RX6, TX6, 3), rfl, rfl⟩))))))))
theorem oX6_takesBehindW_16 : OKI 36 16 (.putfield 90, 19, [6, 12, 3], 0, 0, []) := And.intro dX6_takesBehindW_16 (And.intro rfl (⟨(RX5, TX5, 13), "SpotTimers$Rule", rfl, by decide, tm_1 _ (List.mem_of_getElem? (i := 117) rfl) rfl, Or.inl rfl, Or.inl rfl, rfl⟩))
theorem oX6_takesBehindW_19 : OKI 36 19 (.aload_n 1, 20, [1], 0, 0, []) := And.intro dX6_takesBehindW_19 (And.intro rfl (rfl))
theorem oX6_takesBehindW_20 : OKI 36 20 (.getfield 90, 23, [6, 12, 0], 0, 0, []) := And.intro dX6_takesBehindW_20 (And.intro rfl (⟨(RX5, TX5, 13), "SpotTimers$Rule", rfl, by decide, tm_1 _ (List.mem_of_getElem? (i := 117) rfl) rfl, Or.inl rfl, Or.inr (Or.inr (And.intro rfl (Or.inr rfl)))⟩))
theorem oX6_takesBehindW_23 : OKI 36 23 (.ireturn, 24, [3], 0, 0, []) := And.intro dX6_takesBehindW_23 (Or.inr (Or.inl (And.intro rfl rfl)))
theorem oX6_takesBehindW_24 : OKI 36 24 (.aload_n 0, 25, [0], 0, 0, []) := And.intro dX6_takesBehindW_24 (And.intro rfl (rfl))
theorem oX6_takesBehindW_25 : OKI 36 25 (.ldc 93, 27, [0, 9], 0, 0, []) := And.intro dX6_takesBehindW_25 (And.intro rfl (And.intro ⟨_, rfl⟩ rfl))
theorem oX6_takesBehindW_27 : OKI 36 27 (.invokevirtual 28, 30, [33, 2, 8, 0, 0, 1], 0, 0, []) := And.intro dX6_takesBehindW_27 (And.intro rfl (And.intro (by decide) (And.intro (by decide) (And.intro mo_X6_takes (And.intro (tm_4 _ (List.mem_of_getElem? (i := 23) rfl) rfl) (And.intro (tm_4 _ (List.mem_of_getElem? (i := 25) rfl) rfl) (And.intro (pm_1 _ (List.mem_of_getElem? (i := 15) rfl)) (Or.inl ⟨(RX6, TX6, 3), rfl, rfl⟩))))))))
theorem oX6_takesBehindW_30 : OKI 36 30 (.ifCond .eq 15, 33, [45], 0, 0, []) := And.intro dX6_takesBehindW_30 (And.intro rfl (by decide))
theorem oX6_takesBehindW_33 : OKI 36 33 (.aload_n 0, 34, [0], 0, 0, []) := And.intro dX6_takesBehindW_33 (And.intro rfl (rfl))
theorem oX6_takesBehindW_34 : OKI 36 34 (.aload_n 1, 35, [1], 0, 0, []) := And.intro dX6_takesBehindW_34 (And.intro rfl (rfl))
theorem oX6_takesBehindW_35 : OKI 36 35 (.invokevirtual 95, 38, [39, 2, 8, 0, 0, 1], 0, 0, []) := And.intro dX6_takesBehindW_35 (And.intro rfl (And.intro (by decide) (And.intro (by decide) (And.intro mo_X6_takesWeight (And.intro (tm_4 _ (List.mem_of_getElem? (i := 125) rfl) rfl) (And.intro (tm_4 _ (List.mem_of_getElem? (i := 127) rfl) rfl) (And.intro (pm_2 _ (List.mem_of_getElem? (i := 8) rfl)) (Or.inl ⟨(RX6, TX6, 3), rfl, rfl⟩))))))))
theorem oX6_takesBehindW_38 : OKI 36 38 (.ifCond .eq 7, 41, [45], 0, 0, []) := And.intro dX6_takesBehindW_38 (And.intro rfl (by decide))
theorem oX6_takesBehindW_41 : OKI 36 41 (.iconst 1, 42, [], 1, 0, []) := And.intro dX6_takesBehindW_41 (And.intro rfl (by decide +kernel))
theorem oX6_takesBehindW_42 : OKI 36 42 (.goto 4, 45, [46], 0, 0, []) := And.intro dX6_takesBehindW_42 (And.intro rfl (by decide))
theorem oX6_takesBehindW_45 : OKI 36 45 (.iconst 0, 46, [], 0, 0, []) := And.intro dX6_takesBehindW_45 (And.intro rfl (by decide +kernel))
theorem oX6_takesBehindW_46 : OKI 36 46 (.ireturn, 47, [3], 0, 0, []) := And.intro dX6_takesBehindW_46 (Or.inr (Or.inl (And.intro rfl rfl)))
def pfX6_takesBehindW (pc : Nat) : Option XE := (bif Nat.blt pc 24 then (bif Nat.blt pc 11 then (bif Nat.blt pc 6 then (bif Nat.blt pc 1 then (bif Nat.beq pc 0 then some (.aload_n 0, 1, [0], 0, 0, []) else none) else (bif Nat.blt pc 4 then (bif Nat.beq pc 1 then some (.invokevirtual 38, 4, [32, 1, 8, 0, 0, 1], 0, 0, []) else none) else (bif Nat.beq pc 4 then some (.bipush 105, 6, [], 105, 0, []) else none))) else (bif Nat.blt pc 9 then (bif Nat.beq pc 6 then some (.if_icmp .ne 18, 9, [24], 0, 0, []) else none) else (bif Nat.blt pc 10 then (bif Nat.beq pc 9 then some (.aload_n 1, 10, [1], 0, 0, []) else none) else (bif Nat.beq pc 10 then some (.aload_n 0, 11, [0], 0, 0, []) else none)))) else (bif Nat.blt pc 19 then (bif Nat.blt pc 13 then (bif Nat.beq pc 11 then some (.ldc 88, 13, [0, 8], 0, 0, []) else none) else (bif Nat.blt pc 16 then (bif Nat.beq pc 13 then some (.invokevirtual 28, 16, [33, 2, 8, 0, 0, 1], 0, 0, []) else none) else (bif Nat.beq pc 16 then some (.putfield 90, 19, [6, 12, 3], 0, 0, []) else none))) else (bif Nat.blt pc 20 then (bif Nat.beq pc 19 then some (.aload_n 1, 20, [1], 0, 0, []) else none) else (bif Nat.blt pc 23 then (bif Nat.beq pc 20 then some (.getfield 90, 23, [6, 12, 0], 0, 0, []) else none) else (bif Nat.beq pc 23 then some (.ireturn, 24, [3], 0, 0, []) else none))))) else (bif Nat.blt pc 35 then (bif Nat.blt pc 30 then (bif Nat.blt pc 25 then (bif Nat.beq pc 24 then some (.aload_n 0, 25, [0], 0, 0, []) else none) else (bif Nat.blt pc 27 then (bif Nat.beq pc 25 then some (.ldc 93, 27, [0, 9], 0, 0, []) else none) else (bif Nat.beq pc 27 then some (.invokevirtual 28, 30, [33, 2, 8, 0, 0, 1], 0, 0, []) else none))) else (bif Nat.blt pc 33 then (bif Nat.beq pc 30 then some (.ifCond .eq 15, 33, [45], 0, 0, []) else none) else (bif Nat.blt pc 34 then (bif Nat.beq pc 33 then some (.aload_n 0, 34, [0], 0, 0, []) else none) else (bif Nat.beq pc 34 then some (.aload_n 1, 35, [1], 0, 0, []) else none)))) else (bif Nat.blt pc 42 then (bif Nat.blt pc 38 then (bif Nat.beq pc 35 then some (.invokevirtual 95, 38, [39, 2, 8, 0, 0, 1], 0, 0, []) else none) else (bif Nat.blt pc 41 then (bif Nat.beq pc 38 then some (.ifCond .eq 7, 41, [45], 0, 0, []) else none) else (bif Nat.beq pc 41 then some (.iconst 1, 42, [], 1, 0, []) else none))) else (bif Nat.blt pc 45 then (bif Nat.beq pc 42 then some (.goto 4, 45, [46], 0, 0, []) else none) else (bif Nat.blt pc 46 then (bif Nat.beq pc 45 then some (.iconst 0, 46, [], 0, 0, []) else none) else (bif Nat.beq pc 46 then some (.ireturn, 47, [3], 0, 0, []) else none))))))
theorem okX6_takesBehindW : ∀ pc Y, pfX6_takesBehindW pc = some Y → OKI m_X6_takesBehindW pc Y := fun pc Y => ((bt_node (bt_node (bt_node (bt_node (bt_leaf (P := OKI m_X6_takesBehindW) oX6_takesBehindW_0) (bt_node (bt_leaf (P := OKI m_X6_takesBehindW) oX6_takesBehindW_1) (bt_leaf (P := OKI m_X6_takesBehindW) oX6_takesBehindW_4))) (bt_node (bt_leaf (P := OKI m_X6_takesBehindW) oX6_takesBehindW_6) (bt_node (bt_leaf (P := OKI m_X6_takesBehindW) oX6_takesBehindW_9) (bt_leaf (P := OKI m_X6_takesBehindW) oX6_takesBehindW_10)))) (bt_node (bt_node (bt_leaf (P := OKI m_X6_takesBehindW) oX6_takesBehindW_11) (bt_node (bt_leaf (P := OKI m_X6_takesBehindW) oX6_takesBehindW_13) (bt_leaf (P := OKI m_X6_takesBehindW) oX6_takesBehindW_16))) (bt_node (bt_leaf (P := OKI m_X6_takesBehindW) oX6_takesBehindW_19) (bt_node (bt_leaf (P := OKI m_X6_takesBehindW) oX6_takesBehindW_20) (bt_leaf (P := OKI m_X6_takesBehindW) oX6_takesBehindW_23))))) (bt_node (bt_node (bt_node (bt_leaf (P := OKI m_X6_takesBehindW) oX6_takesBehindW_24) (bt_node (bt_leaf (P := OKI m_X6_takesBehindW) oX6_takesBehindW_25) (bt_leaf (P := OKI m_X6_takesBehindW) oX6_takesBehindW_27))) (bt_node (bt_leaf (P := OKI m_X6_takesBehindW) oX6_takesBehindW_30) (bt_node (bt_leaf (P := OKI m_X6_takesBehindW) oX6_takesBehindW_33) (bt_leaf (P := OKI m_X6_takesBehindW) oX6_takesBehindW_34)))) (bt_node (bt_node (bt_leaf (P := OKI m_X6_takesBehindW) oX6_takesBehindW_35) (bt_node (bt_leaf (P := OKI m_X6_takesBehindW) oX6_takesBehindW_38) (bt_leaf (P := OKI m_X6_takesBehindW) oX6_takesBehindW_41))) (bt_node (bt_leaf (P := OKI m_X6_takesBehindW) oX6_takesBehindW_42) (bt_node (bt_leaf (P := OKI m_X6_takesBehindW) oX6_takesBehindW_45) (bt_leaf (P := OKI m_X6_takesBehindW) oX6_takesBehindW_46)))))) : pfX6_takesBehindW pc = some Y → OKI m_X6_takesBehindW pc Y)
def stpX6_takesBehindW (pc : Nat) : Option (List Bool) := (bif Nat.blt pc 45 then (bif Nat.beq pc 41 then some [false, false] else none) else (bif Nat.blt pc 46 then (bif Nat.beq pc 45 then some [false, false] else none) else (bif Nat.beq pc 46 then some [false, false] else none)))
def bX6_takesBehindW_0 (d rc rs : Nat) (t : Nat) (a1 : Option XO) (σ : XH) (Q : XV → XH → Prop) : Prop :=
  ((1 ≤ d ∧ Ec (d - 1) 0 0 m_X6_next [vR (some (7, t))] σ (kI fun x2 h1 => ((x2 = 105 → ((1 ≤ d ∧ Ec (d - 1) 0 0 m_X6_takes [vR (some (7, t)), vR (some (512, 8))] h1 (kI fun x8 h7 => (drf a1 6 fun i9 => ((x8 = 0 ∨ x8 = 1) ∧ (∀ h10, h10 = wI h7 6 i9 12 x8 → (drf a1 6 fun i11 => (((hi h10 6 i11 12) = 0 ∨ (hi h10 6 i11 12) = 1) ∧ Q (vI (hi h10 6 i11 12)) h10))))))))) ∧ (¬ x2 = 105 → ((1 ≤ d ∧ Ec (d - 1) 0 0 m_X6_takes [vR (some (7, t)), vR (some (512, 9))] h1 (kI fun x4 h3 => ((x4 = 0 → Ex d rc rs m_X6_takesBehindW 45 [vU, vU] [] h3 Q) ∧ (¬ x4 = 0 → ((1 ≤ d ∧ Ec (d - 1) 0 0 m_X6_takesWeight [vR (some (7, t)), vR a1] h3 (kI fun x6 h5 => ((x6 = 0 → Ex d rc rs m_X6_takesBehindW 45 [vU, vU] [] h5 Q) ∧ (¬ x6 = 0 → Ex d rc rs m_X6_takesBehindW 41 [vU, vU] [] h5 Q)))))))))))))))
theorem sX6_takesBehindW_0 {d rc rs : Nat} {t : Nat} {a1 : Option XO} {σ : XH} {Q : XV → XH → Prop} (h : bX6_takesBehindW_0 d rc rs t a1 σ Q) : Ex d rc rs m_X6_takesBehindW 0 [vR (some (7, t)), vR a1] [] σ Q :=
  xtree_sound (stop := stpX6_takesBehindW) okX6_takesBehindW 14 _ _ _ _ _ _ h
def bX6_takesBehindW_41 (d rc rs : Nat)  (σ : XH) (Q : XV → XH → Prop) : Prop :=
  Ex d rc rs m_X6_takesBehindW 46 [vU, vU] [vI 1] σ Q
theorem sX6_takesBehindW_41 {d rc rs : Nat}  {σ : XH} {Q : XV → XH → Prop} (h : bX6_takesBehindW_41 d rc rs  σ Q) : Ex d rc rs m_X6_takesBehindW 41 [vU, vU] [] σ Q :=
  xtree_sound (stop := stpX6_takesBehindW) okX6_takesBehindW 4 _ _ _ _ _ _ h
def bX6_takesBehindW_45 (d rc rs : Nat)  (σ : XH) (Q : XV → XH → Prop) : Prop :=
  Ex d rc rs m_X6_takesBehindW 46 [vU, vU] [vI 0] σ Q
theorem sX6_takesBehindW_45 {d rc rs : Nat}  {σ : XH} {Q : XV → XH → Prop} (h : bX6_takesBehindW_45 d rc rs  σ Q) : Ex d rc rs m_X6_takesBehindW 45 [vU, vU] [] σ Q :=
  xtree_sound (stop := stpX6_takesBehindW) okX6_takesBehindW 3 _ _ _ _ _ _ h
def bX6_takesBehindW_46 (d rc rs : Nat) (q0 : Int32) (σ : XH) (Q : XV → XH → Prop) : Prop :=
  ((q0 = 0 ∨ q0 = 1) ∧ Q (vI q0) σ)
theorem sX6_takesBehindW_46 {d rc rs : Nat} {q0 : Int32} {σ : XH} {Q : XV → XH → Prop} (h : bX6_takesBehindW_46 d rc rs q0 σ Q) : Ex d rc rs m_X6_takesBehindW 46 [vU, vU] [vI q0] σ Q :=
  xtree_sound (stop := stpX6_takesBehindW) okX6_takesBehindW 3 _ _ _ _ _ _ h
/-! SpotTimers$RuleReader.takesEdges(LSpotTimers$Rule;)Z -/
theorem dX6_takesEdges_0 : decode cX6_takesEdges 0 = .ok (.iconst 0, 1) := by decide +kernel
theorem dX6_takesEdges_1 : decode cX6_takesEdges 1 = .ok (.istore_n 2, 1) := by decide +kernel
theorem dX6_takesEdges_2 : decode cX6_takesEdges 2 = .ok (.iconst 0, 1) := by decide +kernel
theorem dX6_takesEdges_3 : decode cX6_takesEdges 3 = .ok (.istore_n 3, 1) := by decide +kernel
theorem dX6_takesEdges_4 : decode cX6_takesEdges 4 = .ok (.iload_n 3, 1) := by decide +kernel
theorem dX6_takesEdges_5 : decode cX6_takesEdges 5 = .ok (.iconst 4, 1) := by decide +kernel
theorem dX6_takesEdges_6 : decode cX6_takesEdges 6 = .ok (.if_icmp .ge 57, 3) := by decide +kernel
theorem dX6_takesEdges_9 : decode cX6_takesEdges 9 = .ok (.aload_n 0, 1) := by decide +kernel
theorem dX6_takesEdges_10 : decode cX6_takesEdges 10 = .ok (.invokevirtual 38, 3) := by decide +kernel
theorem dX6_takesEdges_13 : decode cX6_takesEdges 13 = .ok (.bipush 48, 2) := by decide +kernel
theorem dX6_takesEdges_15 : decode cX6_takesEdges 15 = .ok (.isub, 1) := by decide +kernel
theorem dX6_takesEdges_16 : decode cX6_takesEdges 16 = .ok (.invokestatic 98, 3) := by decide +kernel
theorem dX6_takesEdges_19 : decode cX6_takesEdges 19 = .ok (.ifCond .eq 44, 3) := by decide +kernel
theorem dX6_takesEdges_22 : decode cX6_takesEdges 22 = .ok (.iconst 1, 1) := by decide +kernel
theorem dX6_takesEdges_23 : decode cX6_takesEdges 23 = .ok (.aload_n 0, 1) := by decide +kernel
theorem dX6_takesEdges_24 : decode cX6_takesEdges 24 = .ok (.invokevirtual 38, 3) := by decide +kernel
theorem dX6_takesEdges_27 : decode cX6_takesEdges 27 = .ok (.bipush 48, 2) := by decide +kernel
theorem dX6_takesEdges_29 : decode cX6_takesEdges 29 = .ok (.isub, 1) := by decide +kernel
theorem dX6_takesEdges_30 : decode cX6_takesEdges 30 = .ok (.ishl, 1) := by decide +kernel
theorem dX6_takesEdges_31 : decode cX6_takesEdges 31 = .ok (.istore 4, 2) := by decide +kernel
theorem dX6_takesEdges_33 : decode cX6_takesEdges 33 = .ok (.iload_n 2, 1) := by decide +kernel
theorem dX6_takesEdges_34 : decode cX6_takesEdges 34 = .ok (.iload 4, 2) := by decide +kernel
theorem dX6_takesEdges_36 : decode cX6_takesEdges 36 = .ok (.iand, 1) := by decide +kernel
theorem dX6_takesEdges_37 : decode cX6_takesEdges 37 = .ok (.ifCond .eq 5, 3) := by decide +kernel
theorem dX6_takesEdges_40 : decode cX6_takesEdges 40 = .ok (.iconst 0, 1) := by decide +kernel
theorem dX6_takesEdges_41 : decode cX6_takesEdges 41 = .ok (.ireturn, 1) := by decide +kernel
theorem dX6_takesEdges_42 : decode cX6_takesEdges 42 = .ok (.iload_n 2, 1) := by decide +kernel
theorem dX6_takesEdges_43 : decode cX6_takesEdges 43 = .ok (.iload 4, 2) := by decide +kernel
theorem dX6_takesEdges_45 : decode cX6_takesEdges 45 = .ok (.ior, 1) := by decide +kernel
theorem dX6_takesEdges_46 : decode cX6_takesEdges 46 = .ok (.istore_n 2, 1) := by decide +kernel
theorem dX6_takesEdges_47 : decode cX6_takesEdges 47 = .ok (.aload_n 0, 1) := by decide +kernel
theorem dX6_takesEdges_48 : decode cX6_takesEdges 48 = .ok (.dup, 1) := by decide +kernel
theorem dX6_takesEdges_49 : decode cX6_takesEdges 49 = .ok (.getfield 19, 3) := by decide +kernel
theorem dX6_takesEdges_52 : decode cX6_takesEdges 52 = .ok (.iconst 1, 1) := by decide +kernel
theorem dX6_takesEdges_53 : decode cX6_takesEdges 53 = .ok (.iadd, 1) := by decide +kernel
theorem dX6_takesEdges_54 : decode cX6_takesEdges 54 = .ok (.putfield 19, 3) := by decide +kernel
theorem dX6_takesEdges_57 : decode cX6_takesEdges 57 = .ok (.iinc 3 1, 3) := by decide +kernel
theorem dX6_takesEdges_60 : decode cX6_takesEdges 60 = .ok (.goto (-56), 3) := by decide +kernel
theorem dX6_takesEdges_63 : decode cX6_takesEdges 63 = .ok (.aload_n 1, 1) := by decide +kernel
theorem dX6_takesEdges_64 : decode cX6_takesEdges 64 = .ok (.iload_n 2, 1) := by decide +kernel
theorem dX6_takesEdges_65 : decode cX6_takesEdges 65 = .ok (.putfield 102, 3) := by decide +kernel
theorem dX6_takesEdges_68 : decode cX6_takesEdges 68 = .ok (.iload_n 2, 1) := by decide +kernel
theorem dX6_takesEdges_69 : decode cX6_takesEdges 69 = .ok (.ifCond .eq 7, 3) := by decide +kernel
theorem dX6_takesEdges_72 : decode cX6_takesEdges 72 = .ok (.iconst 1, 1) := by decide +kernel
theorem dX6_takesEdges_73 : decode cX6_takesEdges 73 = .ok (.goto 4, 3) := by decide +kernel
theorem dX6_takesEdges_76 : decode cX6_takesEdges 76 = .ok (.iconst 0, 1) := by decide +kernel
theorem dX6_takesEdges_77 : decode cX6_takesEdges 77 = .ok (.ireturn, 1) := by decide +kernel
theorem oX6_takesEdges_0 : OKI 37 0 (.iconst 0, 1, [], 0, 0, []) := And.intro dX6_takesEdges_0 (And.intro rfl (by decide +kernel))
theorem oX6_takesEdges_1 : OKI 37 1 (.istore_n 2, 2, [2], 0, 0, []) := And.intro dX6_takesEdges_1 (And.intro rfl (And.intro rfl (by decide)))
theorem oX6_takesEdges_2 : OKI 37 2 (.iconst 0, 3, [], 0, 0, []) := And.intro dX6_takesEdges_2 (And.intro rfl (by decide +kernel))
theorem oX6_takesEdges_3 : OKI 37 3 (.istore_n 3, 4, [3], 0, 0, []) := And.intro dX6_takesEdges_3 (And.intro rfl (And.intro rfl (by decide)))
theorem oX6_takesEdges_4 : OKI 37 4 (.iload_n 3, 5, [3], 0, 0, []) := And.intro dX6_takesEdges_4 (And.intro rfl (rfl))
theorem oX6_takesEdges_5 : OKI 37 5 (.iconst 4, 6, [], 4, 0, []) := And.intro dX6_takesEdges_5 (And.intro rfl (by decide +kernel))
theorem oX6_takesEdges_6 : OKI 37 6 (.if_icmp .ge 57, 9, [63], 0, 0, []) := And.intro dX6_takesEdges_6 (And.intro rfl (by decide))
theorem oX6_takesEdges_9 : OKI 37 9 (.aload_n 0, 10, [0], 0, 0, []) := And.intro dX6_takesEdges_9 (And.intro rfl (rfl))
theorem oX6_takesEdges_10 : OKI 37 10 (.invokevirtual 38, 13, [32, 1, 8, 0, 0, 1], 0, 0, []) := And.intro dX6_takesEdges_10 (And.intro rfl (And.intro (by decide) (And.intro (by decide) (And.intro mo_X6_next (And.intro (tm_4 _ (List.mem_of_getElem? (i := 18) rfl) rfl) (And.intro (tm_4 _ (List.mem_of_getElem? (i := 20) rfl) rfl) (And.intro (pm_1 _ (List.mem_of_getElem? (i := 14) rfl)) (Or.inl ⟨(RX6, TX6, 3), rfl, rfl⟩))))))))
theorem oX6_takesEdges_13 : OKI 37 13 (.bipush 48, 15, [], 48, 0, []) := And.intro dX6_takesEdges_13 (And.intro rfl (by decide +kernel))
theorem oX6_takesEdges_15 : OKI 37 15 (.isub, 16, [], 0, 0, []) := And.intro dX6_takesEdges_15 rfl
theorem oX6_takesEdges_16 : OKI 37 16 (.invokestatic 98, 19, [116, 1, 0, 0, 0, 1], 0, 0, []) := And.intro dX6_takesEdges_16 (And.intro rfl (And.intro rfl (And.intro mo_X10_isEdgeNumber (And.intro (Or.inr (nm_A _ (List.mem_of_getElem? (i := 8) rfl))) (tm_3 _ (List.mem_of_getElem? (i := 36) rfl) rfl)))))
theorem oX6_takesEdges_19 : OKI 37 19 (.ifCond .eq 44, 22, [63], 0, 0, []) := And.intro dX6_takesEdges_19 (And.intro rfl (by decide))
theorem oX6_takesEdges_22 : OKI 37 22 (.iconst 1, 23, [], 1, 0, []) := And.intro dX6_takesEdges_22 (And.intro rfl (by decide +kernel))
theorem oX6_takesEdges_23 : OKI 37 23 (.aload_n 0, 24, [0], 0, 0, []) := And.intro dX6_takesEdges_23 (And.intro rfl (rfl))
theorem oX6_takesEdges_24 : OKI 37 24 (.invokevirtual 38, 27, [32, 1, 8, 0, 0, 1], 0, 0, []) := And.intro dX6_takesEdges_24 (And.intro rfl (And.intro (by decide) (And.intro (by decide) (And.intro mo_X6_next (And.intro (tm_4 _ (List.mem_of_getElem? (i := 18) rfl) rfl) (And.intro (tm_4 _ (List.mem_of_getElem? (i := 20) rfl) rfl) (And.intro (pm_1 _ (List.mem_of_getElem? (i := 14) rfl)) (Or.inl ⟨(RX6, TX6, 3), rfl, rfl⟩))))))))
theorem oX6_takesEdges_27 : OKI 37 27 (.bipush 48, 29, [], 48, 0, []) := And.intro dX6_takesEdges_27 (And.intro rfl (by decide +kernel))
theorem oX6_takesEdges_29 : OKI 37 29 (.isub, 30, [], 0, 0, []) := And.intro dX6_takesEdges_29 rfl
theorem oX6_takesEdges_30 : OKI 37 30 (.ishl, 31, [], 0, 0, []) := And.intro dX6_takesEdges_30 rfl
theorem oX6_takesEdges_31 : OKI 37 31 (.istore 4, 33, [4], 0, 0, []) := And.intro dX6_takesEdges_31 (And.intro rfl (And.intro rfl (by decide)))
theorem oX6_takesEdges_33 : OKI 37 33 (.iload_n 2, 34, [2], 0, 0, []) := And.intro dX6_takesEdges_33 (And.intro rfl (rfl))
theorem oX6_takesEdges_34 : OKI 37 34 (.iload 4, 36, [4], 0, 0, []) := And.intro dX6_takesEdges_34 (And.intro rfl (rfl))
theorem oX6_takesEdges_36 : OKI 37 36 (.iand, 37, [], 0, 0, []) := And.intro dX6_takesEdges_36 rfl
theorem oX6_takesEdges_37 : OKI 37 37 (.ifCond .eq 5, 40, [42], 0, 0, []) := And.intro dX6_takesEdges_37 (And.intro rfl (by decide))
theorem oX6_takesEdges_40 : OKI 37 40 (.iconst 0, 41, [], 0, 0, []) := And.intro dX6_takesEdges_40 (And.intro rfl (by decide +kernel))
theorem oX6_takesEdges_41 : OKI 37 41 (.ireturn, 42, [3], 0, 0, []) := And.intro dX6_takesEdges_41 (Or.inr (Or.inl (And.intro rfl rfl)))
theorem oX6_takesEdges_42 : OKI 37 42 (.iload_n 2, 43, [2], 0, 0, []) := And.intro dX6_takesEdges_42 (And.intro rfl (rfl))
theorem oX6_takesEdges_43 : OKI 37 43 (.iload 4, 45, [4], 0, 0, []) := And.intro dX6_takesEdges_43 (And.intro rfl (rfl))
theorem oX6_takesEdges_45 : OKI 37 45 (.ior, 46, [], 0, 0, []) := And.intro dX6_takesEdges_45 rfl
theorem oX6_takesEdges_46 : OKI 37 46 (.istore_n 2, 47, [2], 0, 0, []) := And.intro dX6_takesEdges_46 (And.intro rfl (And.intro rfl (by decide)))
theorem oX6_takesEdges_47 : OKI 37 47 (.aload_n 0, 48, [0], 0, 0, []) := And.intro dX6_takesEdges_47 (And.intro rfl (rfl))
theorem oX6_takesEdges_48 : OKI 37 48 (.dup, 49, [], 0, 0, []) := And.intro dX6_takesEdges_48 rfl
theorem oX6_takesEdges_49 : OKI 37 49 (.getfield 19, 52, [7, 2, 0], 0, 0, []) := And.intro dX6_takesEdges_49 (And.intro rfl (⟨(RX6, TX6, 3), "SpotTimers$RuleReader", rfl, by decide, tm_1 _ (List.mem_of_getElem? (i := 71) rfl) rfl, Or.inl rfl, Or.inr (Or.inr (And.intro rfl (Or.inl rfl)))⟩))
theorem oX6_takesEdges_52 : OKI 37 52 (.iconst 1, 53, [], 1, 0, []) := And.intro dX6_takesEdges_52 (And.intro rfl (by decide +kernel))
theorem oX6_takesEdges_53 : OKI 37 53 (.iadd, 54, [], 0, 0, []) := And.intro dX6_takesEdges_53 rfl
theorem oX6_takesEdges_54 : OKI 37 54 (.putfield 19, 57, [7, 2, 0], 0, 0, []) := And.intro dX6_takesEdges_54 (And.intro rfl (⟨(RX6, TX6, 3), "SpotTimers$RuleReader", rfl, by decide, tm_1 _ (List.mem_of_getElem? (i := 71) rfl) rfl, Or.inl rfl, Or.inl rfl, rfl⟩))
theorem oX6_takesEdges_57 : OKI 37 57 (.iinc 3 1, 60, [3], 1, 0, []) := And.intro dX6_takesEdges_57 (And.intro rfl (And.intro rfl (And.intro (by decide +kernel) (by decide))))
theorem oX6_takesEdges_60 : OKI 37 60 (.goto (-56), 63, [4], 0, 0, []) := And.intro dX6_takesEdges_60 (And.intro rfl (by decide))
theorem oX6_takesEdges_63 : OKI 37 63 (.aload_n 1, 64, [1], 0, 0, []) := And.intro dX6_takesEdges_63 (And.intro rfl (rfl))
theorem oX6_takesEdges_64 : OKI 37 64 (.iload_n 2, 65, [2], 0, 0, []) := And.intro dX6_takesEdges_64 (And.intro rfl (rfl))
theorem oX6_takesEdges_65 : OKI 37 65 (.putfield 102, 68, [6, 7, 0], 0, 0, []) := And.intro dX6_takesEdges_65 (And.intro rfl (⟨(RX5, TX5, 13), "SpotTimers$Rule", rfl, by decide, tm_1 _ (List.mem_of_getElem? (i := 103) rfl) rfl, Or.inl rfl, Or.inl rfl, rfl⟩))
theorem oX6_takesEdges_68 : OKI 37 68 (.iload_n 2, 69, [2], 0, 0, []) := And.intro dX6_takesEdges_68 (And.intro rfl (rfl))
theorem oX6_takesEdges_69 : OKI 37 69 (.ifCond .eq 7, 72, [76], 0, 0, []) := And.intro dX6_takesEdges_69 (And.intro rfl (by decide))
theorem oX6_takesEdges_72 : OKI 37 72 (.iconst 1, 73, [], 1, 0, []) := And.intro dX6_takesEdges_72 (And.intro rfl (by decide +kernel))
theorem oX6_takesEdges_73 : OKI 37 73 (.goto 4, 76, [77], 0, 0, []) := And.intro dX6_takesEdges_73 (And.intro rfl (by decide))
theorem oX6_takesEdges_76 : OKI 37 76 (.iconst 0, 77, [], 0, 0, []) := And.intro dX6_takesEdges_76 (And.intro rfl (by decide +kernel))
theorem oX6_takesEdges_77 : OKI 37 77 (.ireturn, 78, [3], 0, 0, []) := And.intro dX6_takesEdges_77 (Or.inr (Or.inl (And.intro rfl rfl)))
def pfX6_takesEdges (pc : Nat) : Option XE := (bif Nat.blt pc 37 then (bif Nat.blt pc 16 then (bif Nat.blt pc 5 then (bif Nat.blt pc 2 then (bif Nat.blt pc 1 then (bif Nat.beq pc 0 then some (.iconst 0, 1, [], 0, 0, []) else none) else (bif Nat.beq pc 1 then some (.istore_n 2, 2, [2], 0, 0, []) else none)) else (bif Nat.blt pc 3 then (bif Nat.beq pc 2 then some (.iconst 0, 3, [], 0, 0, []) else none) else (bif Nat.blt pc 4 then (bif Nat.beq pc 3 then some (.istore_n 3, 4, [3], 0, 0, []) else none) else (bif Nat.beq pc 4 then some (.iload_n 3, 5, [3], 0, 0, []) else none)))) else (bif Nat.blt pc 10 then (bif Nat.blt pc 6 then (bif Nat.beq pc 5 then some (.iconst 4, 6, [], 4, 0, []) else none) else (bif Nat.blt pc 9 then (bif Nat.beq pc 6 then some (.if_icmp .ge 57, 9, [63], 0, 0, []) else none) else (bif Nat.beq pc 9 then some (.aload_n 0, 10, [0], 0, 0, []) else none))) else (bif Nat.blt pc 13 then (bif Nat.beq pc 10 then some (.invokevirtual 38, 13, [32, 1, 8, 0, 0, 1], 0, 0, []) else none) else (bif Nat.blt pc 15 then (bif Nat.beq pc 13 then some (.bipush 48, 15, [], 48, 0, []) else none) else (bif Nat.beq pc 15 then some (.isub, 16, [], 0, 0, []) else none))))) else (bif Nat.blt pc 29 then (bif Nat.blt pc 23 then (bif Nat.blt pc 19 then (bif Nat.beq pc 16 then some (.invokestatic 98, 19, [116, 1, 0, 0, 0, 1], 0, 0, []) else none) else (bif Nat.blt pc 22 then (bif Nat.beq pc 19 then some (.ifCond .eq 44, 22, [63], 0, 0, []) else none) else (bif Nat.beq pc 22 then some (.iconst 1, 23, [], 1, 0, []) else none))) else (bif Nat.blt pc 24 then (bif Nat.beq pc 23 then some (.aload_n 0, 24, [0], 0, 0, []) else none) else (bif Nat.blt pc 27 then (bif Nat.beq pc 24 then some (.invokevirtual 38, 27, [32, 1, 8, 0, 0, 1], 0, 0, []) else none) else (bif Nat.beq pc 27 then some (.bipush 48, 29, [], 48, 0, []) else none)))) else (bif Nat.blt pc 33 then (bif Nat.blt pc 30 then (bif Nat.beq pc 29 then some (.isub, 30, [], 0, 0, []) else none) else (bif Nat.blt pc 31 then (bif Nat.beq pc 30 then some (.ishl, 31, [], 0, 0, []) else none) else (bif Nat.beq pc 31 then some (.istore 4, 33, [4], 0, 0, []) else none))) else (bif Nat.blt pc 34 then (bif Nat.beq pc 33 then some (.iload_n 2, 34, [2], 0, 0, []) else none) else (bif Nat.blt pc 36 then (bif Nat.beq pc 34 then some (.iload 4, 36, [4], 0, 0, []) else none) else (bif Nat.beq pc 36 then some (.iand, 37, [], 0, 0, []) else none)))))) else (bif Nat.blt pc 54 then (bif Nat.blt pc 46 then (bif Nat.blt pc 42 then (bif Nat.blt pc 40 then (bif Nat.beq pc 37 then some (.ifCond .eq 5, 40, [42], 0, 0, []) else none) else (bif Nat.blt pc 41 then (bif Nat.beq pc 40 then some (.iconst 0, 41, [], 0, 0, []) else none) else (bif Nat.beq pc 41 then some (.ireturn, 42, [3], 0, 0, []) else none))) else (bif Nat.blt pc 43 then (bif Nat.beq pc 42 then some (.iload_n 2, 43, [2], 0, 0, []) else none) else (bif Nat.blt pc 45 then (bif Nat.beq pc 43 then some (.iload 4, 45, [4], 0, 0, []) else none) else (bif Nat.beq pc 45 then some (.ior, 46, [], 0, 0, []) else none)))) else (bif Nat.blt pc 49 then (bif Nat.blt pc 47 then (bif Nat.beq pc 46 then some (.istore_n 2, 47, [2], 0, 0, []) else none) else (bif Nat.blt pc 48 then (bif Nat.beq pc 47 then some (.aload_n 0, 48, [0], 0, 0, []) else none) else (bif Nat.beq pc 48 then some (.dup, 49, [], 0, 0, []) else none))) else (bif Nat.blt pc 52 then (bif Nat.beq pc 49 then some (.getfield 19, 52, [7, 2, 0], 0, 0, []) else none) else (bif Nat.blt pc 53 then (bif Nat.beq pc 52 then some (.iconst 1, 53, [], 1, 0, []) else none) else (bif Nat.beq pc 53 then some (.iadd, 54, [], 0, 0, []) else none))))) else (bif Nat.blt pc 68 then (bif Nat.blt pc 63 then (bif Nat.blt pc 57 then (bif Nat.beq pc 54 then some (.putfield 19, 57, [7, 2, 0], 0, 0, []) else none) else (bif Nat.blt pc 60 then (bif Nat.beq pc 57 then some (.iinc 3 1, 60, [3], 1, 0, []) else none) else (bif Nat.beq pc 60 then some (.goto (-56), 63, [4], 0, 0, []) else none))) else (bif Nat.blt pc 64 then (bif Nat.beq pc 63 then some (.aload_n 1, 64, [1], 0, 0, []) else none) else (bif Nat.blt pc 65 then (bif Nat.beq pc 64 then some (.iload_n 2, 65, [2], 0, 0, []) else none) else (bif Nat.beq pc 65 then some (.putfield 102, 68, [6, 7, 0], 0, 0, []) else none)))) else (bif Nat.blt pc 73 then (bif Nat.blt pc 69 then (bif Nat.beq pc 68 then some (.iload_n 2, 69, [2], 0, 0, []) else none) else (bif Nat.blt pc 72 then (bif Nat.beq pc 69 then some (.ifCond .eq 7, 72, [76], 0, 0, []) else none) else (bif Nat.beq pc 72 then some (.iconst 1, 73, [], 1, 0, []) else none))) else (bif Nat.blt pc 76 then (bif Nat.beq pc 73 then some (.goto 4, 76, [77], 0, 0, []) else none) else (bif Nat.blt pc 77 then (bif Nat.beq pc 76 then some (.iconst 0, 77, [], 0, 0, []) else none) else (bif Nat.beq pc 77 then some (.ireturn, 78, [3], 0, 0, []) else none)))))))
theorem okX6_takesEdges : ∀ pc Y, pfX6_takesEdges pc = some Y → OKI m_X6_takesEdges pc Y := fun pc Y => ((bt_node (bt_node (bt_node (bt_node (bt_node (bt_leaf (P := OKI m_X6_takesEdges) oX6_takesEdges_0) (bt_leaf (P := OKI m_X6_takesEdges) oX6_takesEdges_1)) (bt_node (bt_leaf (P := OKI m_X6_takesEdges) oX6_takesEdges_2) (bt_node (bt_leaf (P := OKI m_X6_takesEdges) oX6_takesEdges_3) (bt_leaf (P := OKI m_X6_takesEdges) oX6_takesEdges_4)))) (bt_node (bt_node (bt_leaf (P := OKI m_X6_takesEdges) oX6_takesEdges_5) (bt_node (bt_leaf (P := OKI m_X6_takesEdges) oX6_takesEdges_6) (bt_leaf (P := OKI m_X6_takesEdges) oX6_takesEdges_9))) (bt_node (bt_leaf (P := OKI m_X6_takesEdges) oX6_takesEdges_10) (bt_node (bt_leaf (P := OKI m_X6_takesEdges) oX6_takesEdges_13) (bt_leaf (P := OKI m_X6_takesEdges) oX6_takesEdges_15))))) (bt_node (bt_node (bt_node (bt_leaf (P := OKI m_X6_takesEdges) oX6_takesEdges_16) (bt_node (bt_leaf (P := OKI m_X6_takesEdges) oX6_takesEdges_19) (bt_leaf (P := OKI m_X6_takesEdges) oX6_takesEdges_22))) (bt_node (bt_leaf (P := OKI m_X6_takesEdges) oX6_takesEdges_23) (bt_node (bt_leaf (P := OKI m_X6_takesEdges) oX6_takesEdges_24) (bt_leaf (P := OKI m_X6_takesEdges) oX6_takesEdges_27)))) (bt_node (bt_node (bt_leaf (P := OKI m_X6_takesEdges) oX6_takesEdges_29) (bt_node (bt_leaf (P := OKI m_X6_takesEdges) oX6_takesEdges_30) (bt_leaf (P := OKI m_X6_takesEdges) oX6_takesEdges_31))) (bt_node (bt_leaf (P := OKI m_X6_takesEdges) oX6_takesEdges_33) (bt_node (bt_leaf (P := OKI m_X6_takesEdges) oX6_takesEdges_34) (bt_leaf (P := OKI m_X6_takesEdges) oX6_takesEdges_36)))))) (bt_node (bt_node (bt_node (bt_node (bt_leaf (P := OKI m_X6_takesEdges) oX6_takesEdges_37) (bt_node (bt_leaf (P := OKI m_X6_takesEdges) oX6_takesEdges_40) (bt_leaf (P := OKI m_X6_takesEdges) oX6_takesEdges_41))) (bt_node (bt_leaf (P := OKI m_X6_takesEdges) oX6_takesEdges_42) (bt_node (bt_leaf (P := OKI m_X6_takesEdges) oX6_takesEdges_43) (bt_leaf (P := OKI m_X6_takesEdges) oX6_takesEdges_45)))) (bt_node (bt_node (bt_leaf (P := OKI m_X6_takesEdges) oX6_takesEdges_46) (bt_node (bt_leaf (P := OKI m_X6_takesEdges) oX6_takesEdges_47) (bt_leaf (P := OKI m_X6_takesEdges) oX6_takesEdges_48))) (bt_node (bt_leaf (P := OKI m_X6_takesEdges) oX6_takesEdges_49) (bt_node (bt_leaf (P := OKI m_X6_takesEdges) oX6_takesEdges_52) (bt_leaf (P := OKI m_X6_takesEdges) oX6_takesEdges_53))))) (bt_node (bt_node (bt_node (bt_leaf (P := OKI m_X6_takesEdges) oX6_takesEdges_54) (bt_node (bt_leaf (P := OKI m_X6_takesEdges) oX6_takesEdges_57) (bt_leaf (P := OKI m_X6_takesEdges) oX6_takesEdges_60))) (bt_node (bt_leaf (P := OKI m_X6_takesEdges) oX6_takesEdges_63) (bt_node (bt_leaf (P := OKI m_X6_takesEdges) oX6_takesEdges_64) (bt_leaf (P := OKI m_X6_takesEdges) oX6_takesEdges_65)))) (bt_node (bt_node (bt_leaf (P := OKI m_X6_takesEdges) oX6_takesEdges_68) (bt_node (bt_leaf (P := OKI m_X6_takesEdges) oX6_takesEdges_69) (bt_leaf (P := OKI m_X6_takesEdges) oX6_takesEdges_72))) (bt_node (bt_leaf (P := OKI m_X6_takesEdges) oX6_takesEdges_73) (bt_node (bt_leaf (P := OKI m_X6_takesEdges) oX6_takesEdges_76) (bt_leaf (P := OKI m_X6_takesEdges) oX6_takesEdges_77))))))) : pfX6_takesEdges pc = some Y → OKI m_X6_takesEdges pc Y)
def stpX6_takesEdges (pc : Nat) : Option (List Bool) := (bif Nat.blt pc 63 then (bif Nat.beq pc 4 then some [true, true, true, true, false] else none) else (bif Nat.blt pc 77 then (bif Nat.beq pc 63 then some [false, true, true, false, false] else none) else (bif Nat.beq pc 77 then some [false, false, false, false, false] else none)))
def bX6_takesEdges_0 (d rc rs : Nat) (t : Nat) (a1 : Option XO) (σ : XH) (Q : XV → XH → Prop) : Prop :=
  Ex d rc rs m_X6_takesEdges 4 [vR (some (7, t)), vR a1, vI 0, vI 0, vU] [] σ Q
theorem sX6_takesEdges_0 {d rc rs : Nat} {t : Nat} {a1 : Option XO} {σ : XH} {Q : XV → XH → Prop} (h : bX6_takesEdges_0 d rc rs t a1 σ Q) : Ex d rc rs m_X6_takesEdges 0 [vR (some (7, t)), vR a1, vU, vU, vU] [] σ Q :=
  xtree_sound (stop := stpX6_takesEdges) okX6_takesEdges 6 _ _ _ _ _ _ h
def bX6_takesEdges_4 (d rc rs : Nat) (t : Nat) (l1 : Option XO) (l2 : Int32) (l3 : Int32) (σ : XH) (Q : XV → XH → Prop) : Prop :=
  ((l3 < 4 → ((1 ≤ d ∧ Ec (d - 1) 0 0 m_X6_next [vR (some (7, t))] σ (kI fun x2 h1 => (1 ≤ d ∧ Ec (d - 1) 0 0 m_X10_isEdgeNumber [vI (x2 - 48)] h1 (kI fun x4 h3 => ((x4 = 0 → Ex d rc rs m_X6_takesEdges 63 [vU, vR l1, vI l2, vU, vU] [] h3 Q) ∧ (¬ x4 = 0 → ((1 ≤ d ∧ Ec (d - 1) 0 0 m_X6_next [vR (some (7, t))] h3 (kI fun x6 h5 => (((l2 &&& (1 <<< ((x6 - 48) &&& 31))) = 0 → (((∀ h7, h7 = wI h5 7 t 2 ((hi h5 7 t 2) + 1) → Ex d rc rs m_X6_takesEdges 4 [vR (some (7, t)), vR l1, vI (l2 ||| (1 <<< ((x6 - 48) &&& 31))), vI (l3 + 1), vU] [] h7 Q)))) ∧ (¬ (l2 &&& (1 <<< ((x6 - 48) &&& 31))) = 0 → (((0 : Int32) = 0 ∨ (0 : Int32) = 1) ∧ Q (vI 0) h5)))))))))))))) ∧ (¬ l3 < 4 → Ex d rc rs m_X6_takesEdges 63 [vU, vR l1, vI l2, vU, vU] [] σ Q))
theorem sX6_takesEdges_4 {d rc rs : Nat} {t : Nat} {l1 : Option XO} {l2 : Int32} {l3 : Int32} {σ : XH} {Q : XV → XH → Prop} (h : bX6_takesEdges_4 d rc rs t l1 l2 l3 σ Q) : Ex d rc rs m_X6_takesEdges 4 [vR (some (7, t)), vR l1, vI l2, vI l3, vU] [] σ Q :=
  xtree_sound (stop := stpX6_takesEdges) okX6_takesEdges 34 _ _ _ _ _ _ h
def bX6_takesEdges_63 (d rc rs : Nat) (l1 : Option XO) (l2 : Int32) (σ : XH) (Q : XV → XH → Prop) : Prop :=
  (drf l1 6 fun i1 => (∀ h2, h2 = wI σ 6 i1 7 l2 → ((l2 = 0 → Ex d rc rs m_X6_takesEdges 77 [vU, vU, vU, vU, vU] [vI 0] h2 Q) ∧ (¬ l2 = 0 → Ex d rc rs m_X6_takesEdges 77 [vU, vU, vU, vU, vU] [vI 1] h2 Q))))
theorem sX6_takesEdges_63 {d rc rs : Nat} {l1 : Option XO} {l2 : Int32} {σ : XH} {Q : XV → XH → Prop} (h : bX6_takesEdges_63 d rc rs l1 l2 σ Q) : Ex d rc rs m_X6_takesEdges 63 [vU, vR l1, vI l2, vU, vU] [] σ Q :=
  xtree_sound (stop := stpX6_takesEdges) okX6_takesEdges 9 _ _ _ _ _ _ h
def bX6_takesEdges_77 (d rc rs : Nat) (q0 : Int32) (σ : XH) (Q : XV → XH → Prop) : Prop :=
  ((q0 = 0 ∨ q0 = 1) ∧ Q (vI q0) σ)
theorem sX6_takesEdges_77 {d rc rs : Nat} {q0 : Int32} {σ : XH} {Q : XV → XH → Prop} (h : bX6_takesEdges_77 d rc rs q0 σ Q) : Ex d rc rs m_X6_takesEdges 77 [vU, vU, vU, vU, vU] [vI q0] σ Q :=
  xtree_sound (stop := stpX6_takesEdges) okX6_takesEdges 3 _ _ _ _ _ _ h
/-! SpotTimers$RuleReader.takesBlur(LSpotTimers$Rule;)Z -/
theorem dX6_takesBlur_0 : decode cX6_takesBlur 0 = .ok (.aload_n 0, 1) := by decide +kernel
theorem dX6_takesBlur_1 : decode cX6_takesBlur 1 = .ok (.invokevirtual 38, 3) := by decide +kernel
theorem dX6_takesBlur_4 : decode cX6_takesBlur 4 = .ok (.lookupswitch 60 #[(102, 36), (108, 52), (109, 44)], 36) := by decide +kernel
theorem dX6_takesBlur_40 : decode cX6_takesBlur 40 = .ok (.aload_n 1, 1) := by decide +kernel
theorem dX6_takesBlur_41 : decode cX6_takesBlur 41 = .ok (.iconst 0, 1) := by decide +kernel
theorem dX6_takesBlur_42 : decode cX6_takesBlur 42 = .ok (.putfield 105, 3) := by decide +kernel
theorem dX6_takesBlur_45 : decode cX6_takesBlur 45 = .ok (.goto 21, 3) := by decide +kernel
theorem dX6_takesBlur_48 : decode cX6_takesBlur 48 = .ok (.aload_n 1, 1) := by decide +kernel
theorem dX6_takesBlur_49 : decode cX6_takesBlur 49 = .ok (.iconst 1, 1) := by decide +kernel
theorem dX6_takesBlur_50 : decode cX6_takesBlur 50 = .ok (.putfield 105, 3) := by decide +kernel
theorem dX6_takesBlur_53 : decode cX6_takesBlur 53 = .ok (.goto 13, 3) := by decide +kernel
theorem dX6_takesBlur_56 : decode cX6_takesBlur 56 = .ok (.aload_n 1, 1) := by decide +kernel
theorem dX6_takesBlur_57 : decode cX6_takesBlur 57 = .ok (.iconst 2, 1) := by decide +kernel
theorem dX6_takesBlur_58 : decode cX6_takesBlur 58 = .ok (.putfield 105, 3) := by decide +kernel
theorem dX6_takesBlur_61 : decode cX6_takesBlur 61 = .ok (.goto 5, 3) := by decide +kernel
theorem dX6_takesBlur_64 : decode cX6_takesBlur 64 = .ok (.iconst 0, 1) := by decide +kernel
theorem dX6_takesBlur_65 : decode cX6_takesBlur 65 = .ok (.ireturn, 1) := by decide +kernel
theorem dX6_takesBlur_66 : decode cX6_takesBlur 66 = .ok (.aload_n 0, 1) := by decide +kernel
theorem dX6_takesBlur_67 : decode cX6_takesBlur 67 = .ok (.dup, 1) := by decide +kernel
theorem dX6_takesBlur_68 : decode cX6_takesBlur 68 = .ok (.getfield 19, 3) := by decide +kernel
theorem dX6_takesBlur_71 : decode cX6_takesBlur 71 = .ok (.iconst 1, 1) := by decide +kernel
theorem dX6_takesBlur_72 : decode cX6_takesBlur 72 = .ok (.iadd, 1) := by decide +kernel
theorem dX6_takesBlur_73 : decode cX6_takesBlur 73 = .ok (.putfield 19, 3) := by decide +kernel
theorem dX6_takesBlur_76 : decode cX6_takesBlur 76 = .ok (.iconst 1, 1) := by decide +kernel
theorem dX6_takesBlur_77 : decode cX6_takesBlur 77 = .ok (.ireturn, 1) := by decide +kernel
theorem oX6_takesBlur_0 : OKI 38 0 (.aload_n 0, 1, [0], 0, 0, []) := And.intro dX6_takesBlur_0 (And.intro rfl (rfl))
theorem oX6_takesBlur_1 : OKI 38 1 (.invokevirtual 38, 4, [32, 1, 8, 0, 0, 1], 0, 0, []) := And.intro dX6_takesBlur_1 (And.intro rfl (And.intro (by decide) (And.intro (by decide) (And.intro mo_X6_next (And.intro (tm_4 _ (List.mem_of_getElem? (i := 18) rfl) rfl) (And.intro (tm_4 _ (List.mem_of_getElem? (i := 20) rfl) rfl) (And.intro (pm_1 _ (List.mem_of_getElem? (i := 14) rfl)) (Or.inl ⟨(RX6, TX6, 3), rfl, rfl⟩))))))))
theorem oX6_takesBlur_4 : OKI 38 4 (.lookupswitch 60 #[(102, 36), (108, 52), (109, 44)], 40, [64], 0, 0, [(102, 40), (108, 56), (109, 48)]) := And.intro ⟨_, dX6_takesBlur_4⟩ (by decide +kernel)
theorem oX6_takesBlur_40 : OKI 38 40 (.aload_n 1, 41, [1], 0, 0, []) := And.intro dX6_takesBlur_40 (And.intro rfl (rfl))
theorem oX6_takesBlur_41 : OKI 38 41 (.iconst 0, 42, [], 0, 0, []) := And.intro dX6_takesBlur_41 (And.intro rfl (by decide +kernel))
theorem oX6_takesBlur_42 : OKI 38 42 (.putfield 105, 45, [6, 8, 0], 0, 0, []) := And.intro dX6_takesBlur_42 (And.intro rfl (⟨(RX5, TX5, 13), "SpotTimers$Rule", rfl, by decide, tm_1 _ (List.mem_of_getElem? (i := 106) rfl) rfl, Or.inl rfl, Or.inl rfl, rfl⟩))
theorem oX6_takesBlur_45 : OKI 38 45 (.goto 21, 48, [66], 0, 0, []) := And.intro dX6_takesBlur_45 (And.intro rfl (by decide))
theorem oX6_takesBlur_48 : OKI 38 48 (.aload_n 1, 49, [1], 0, 0, []) := And.intro dX6_takesBlur_48 (And.intro rfl (rfl))
theorem oX6_takesBlur_49 : OKI 38 49 (.iconst 1, 50, [], 1, 0, []) := And.intro dX6_takesBlur_49 (And.intro rfl (by decide +kernel))
theorem oX6_takesBlur_50 : OKI 38 50 (.putfield 105, 53, [6, 8, 0], 0, 0, []) := And.intro dX6_takesBlur_50 (And.intro rfl (⟨(RX5, TX5, 13), "SpotTimers$Rule", rfl, by decide, tm_1 _ (List.mem_of_getElem? (i := 106) rfl) rfl, Or.inl rfl, Or.inl rfl, rfl⟩))
theorem oX6_takesBlur_53 : OKI 38 53 (.goto 13, 56, [66], 0, 0, []) := And.intro dX6_takesBlur_53 (And.intro rfl (by decide))
theorem oX6_takesBlur_56 : OKI 38 56 (.aload_n 1, 57, [1], 0, 0, []) := And.intro dX6_takesBlur_56 (And.intro rfl (rfl))
theorem oX6_takesBlur_57 : OKI 38 57 (.iconst 2, 58, [], 2, 0, []) := And.intro dX6_takesBlur_57 (And.intro rfl (by decide +kernel))
theorem oX6_takesBlur_58 : OKI 38 58 (.putfield 105, 61, [6, 8, 0], 0, 0, []) := And.intro dX6_takesBlur_58 (And.intro rfl (⟨(RX5, TX5, 13), "SpotTimers$Rule", rfl, by decide, tm_1 _ (List.mem_of_getElem? (i := 106) rfl) rfl, Or.inl rfl, Or.inl rfl, rfl⟩))
theorem oX6_takesBlur_61 : OKI 38 61 (.goto 5, 64, [66], 0, 0, []) := And.intro dX6_takesBlur_61 (And.intro rfl (by decide))
theorem oX6_takesBlur_64 : OKI 38 64 (.iconst 0, 65, [], 0, 0, []) := And.intro dX6_takesBlur_64 (And.intro rfl (by decide +kernel))
theorem oX6_takesBlur_65 : OKI 38 65 (.ireturn, 66, [3], 0, 0, []) := And.intro dX6_takesBlur_65 (Or.inr (Or.inl (And.intro rfl rfl)))
theorem oX6_takesBlur_66 : OKI 38 66 (.aload_n 0, 67, [0], 0, 0, []) := And.intro dX6_takesBlur_66 (And.intro rfl (rfl))
theorem oX6_takesBlur_67 : OKI 38 67 (.dup, 68, [], 0, 0, []) := And.intro dX6_takesBlur_67 rfl
theorem oX6_takesBlur_68 : OKI 38 68 (.getfield 19, 71, [7, 2, 0], 0, 0, []) := And.intro dX6_takesBlur_68 (And.intro rfl (⟨(RX6, TX6, 3), "SpotTimers$RuleReader", rfl, by decide, tm_1 _ (List.mem_of_getElem? (i := 71) rfl) rfl, Or.inl rfl, Or.inr (Or.inr (And.intro rfl (Or.inl rfl)))⟩))
theorem oX6_takesBlur_71 : OKI 38 71 (.iconst 1, 72, [], 1, 0, []) := And.intro dX6_takesBlur_71 (And.intro rfl (by decide +kernel))
theorem oX6_takesBlur_72 : OKI 38 72 (.iadd, 73, [], 0, 0, []) := And.intro dX6_takesBlur_72 rfl
theorem oX6_takesBlur_73 : OKI 38 73 (.putfield 19, 76, [7, 2, 0], 0, 0, []) := And.intro dX6_takesBlur_73 (And.intro rfl (⟨(RX6, TX6, 3), "SpotTimers$RuleReader", rfl, by decide, tm_1 _ (List.mem_of_getElem? (i := 71) rfl) rfl, Or.inl rfl, Or.inl rfl, rfl⟩))
theorem oX6_takesBlur_76 : OKI 38 76 (.iconst 1, 77, [], 1, 0, []) := And.intro dX6_takesBlur_76 (And.intro rfl (by decide +kernel))
theorem oX6_takesBlur_77 : OKI 38 77 (.ireturn, 78, [3], 0, 0, []) := And.intro dX6_takesBlur_77 (Or.inr (Or.inl (And.intro rfl rfl)))
def pfX6_takesBlur (pc : Nat) : Option XE := (bif Nat.blt pc 57 then (bif Nat.blt pc 45 then (bif Nat.blt pc 40 then (bif Nat.blt pc 1 then (bif Nat.beq pc 0 then some (.aload_n 0, 1, [0], 0, 0, []) else none) else (bif Nat.blt pc 4 then (bif Nat.beq pc 1 then some (.invokevirtual 38, 4, [32, 1, 8, 0, 0, 1], 0, 0, []) else none) else (bif Nat.beq pc 4 then some (.lookupswitch 60 #[(102, 36), (108, 52), (109, 44)], 40, [64], 0, 0, [(102, 40), (108, 56), (109, 48)]) else none))) else (bif Nat.blt pc 41 then (bif Nat.beq pc 40 then some (.aload_n 1, 41, [1], 0, 0, []) else none) else (bif Nat.blt pc 42 then (bif Nat.beq pc 41 then some (.iconst 0, 42, [], 0, 0, []) else none) else (bif Nat.beq pc 42 then some (.putfield 105, 45, [6, 8, 0], 0, 0, []) else none)))) else (bif Nat.blt pc 50 then (bif Nat.blt pc 48 then (bif Nat.beq pc 45 then some (.goto 21, 48, [66], 0, 0, []) else none) else (bif Nat.blt pc 49 then (bif Nat.beq pc 48 then some (.aload_n 1, 49, [1], 0, 0, []) else none) else (bif Nat.beq pc 49 then some (.iconst 1, 50, [], 1, 0, []) else none))) else (bif Nat.blt pc 53 then (bif Nat.beq pc 50 then some (.putfield 105, 53, [6, 8, 0], 0, 0, []) else none) else (bif Nat.blt pc 56 then (bif Nat.beq pc 53 then some (.goto 13, 56, [66], 0, 0, []) else none) else (bif Nat.beq pc 56 then some (.aload_n 1, 57, [1], 0, 0, []) else none))))) else (bif Nat.blt pc 67 then (bif Nat.blt pc 64 then (bif Nat.blt pc 58 then (bif Nat.beq pc 57 then some (.iconst 2, 58, [], 2, 0, []) else none) else (bif Nat.blt pc 61 then (bif Nat.beq pc 58 then some (.putfield 105, 61, [6, 8, 0], 0, 0, []) else none) else (bif Nat.beq pc 61 then some (.goto 5, 64, [66], 0, 0, []) else none))) else (bif Nat.blt pc 65 then (bif Nat.beq pc 64 then some (.iconst 0, 65, [], 0, 0, []) else none) else (bif Nat.blt pc 66 then (bif Nat.beq pc 65 then some (.ireturn, 66, [3], 0, 0, []) else none) else (bif Nat.beq pc 66 then some (.aload_n 0, 67, [0], 0, 0, []) else none)))) else (bif Nat.blt pc 72 then (bif Nat.blt pc 68 then (bif Nat.beq pc 67 then some (.dup, 68, [], 0, 0, []) else none) else (bif Nat.blt pc 71 then (bif Nat.beq pc 68 then some (.getfield 19, 71, [7, 2, 0], 0, 0, []) else none) else (bif Nat.beq pc 71 then some (.iconst 1, 72, [], 1, 0, []) else none))) else (bif Nat.blt pc 76 then (bif Nat.blt pc 73 then (bif Nat.beq pc 72 then some (.iadd, 73, [], 0, 0, []) else none) else (bif Nat.beq pc 73 then some (.putfield 19, 76, [7, 2, 0], 0, 0, []) else none)) else (bif Nat.blt pc 77 then (bif Nat.beq pc 76 then some (.iconst 1, 77, [], 1, 0, []) else none) else (bif Nat.beq pc 77 then some (.ireturn, 78, [3], 0, 0, []) else none))))))
theorem okX6_takesBlur : ∀ pc Y, pfX6_takesBlur pc = some Y → OKI m_X6_takesBlur pc Y := fun pc Y => ((bt_node (bt_node (bt_node (bt_node (bt_leaf (P := OKI m_X6_takesBlur) oX6_takesBlur_0) (bt_node (bt_leaf (P := OKI m_X6_takesBlur) oX6_takesBlur_1) (bt_leaf (P := OKI m_X6_takesBlur) oX6_takesBlur_4))) (bt_node (bt_leaf (P := OKI m_X6_takesBlur) oX6_takesBlur_40) (bt_node (bt_leaf (P := OKI m_X6_takesBlur) oX6_takesBlur_41) (bt_leaf (P := OKI m_X6_takesBlur) oX6_takesBlur_42)))) (bt_node (bt_node (bt_leaf (P := OKI m_X6_takesBlur) oX6_takesBlur_45) (bt_node (bt_leaf (P := OKI m_X6_takesBlur) oX6_takesBlur_48) (bt_leaf (P := OKI m_X6_takesBlur) oX6_takesBlur_49))) (bt_node (bt_leaf (P := OKI m_X6_takesBlur) oX6_takesBlur_50) (bt_node (bt_leaf (P := OKI m_X6_takesBlur) oX6_takesBlur_53) (bt_leaf (P := OKI m_X6_takesBlur) oX6_takesBlur_56))))) (bt_node (bt_node (bt_node (bt_leaf (P := OKI m_X6_takesBlur) oX6_takesBlur_57) (bt_node (bt_leaf (P := OKI m_X6_takesBlur) oX6_takesBlur_58) (bt_leaf (P := OKI m_X6_takesBlur) oX6_takesBlur_61))) (bt_node (bt_leaf (P := OKI m_X6_takesBlur) oX6_takesBlur_64) (bt_node (bt_leaf (P := OKI m_X6_takesBlur) oX6_takesBlur_65) (bt_leaf (P := OKI m_X6_takesBlur) oX6_takesBlur_66)))) (bt_node (bt_node (bt_leaf (P := OKI m_X6_takesBlur) oX6_takesBlur_67) (bt_node (bt_leaf (P := OKI m_X6_takesBlur) oX6_takesBlur_68) (bt_leaf (P := OKI m_X6_takesBlur) oX6_takesBlur_71))) (bt_node (bt_node (bt_leaf (P := OKI m_X6_takesBlur) oX6_takesBlur_72) (bt_leaf (P := OKI m_X6_takesBlur) oX6_takesBlur_73)) (bt_node (bt_leaf (P := OKI m_X6_takesBlur) oX6_takesBlur_76) (bt_leaf (P := OKI m_X6_takesBlur) oX6_takesBlur_77)))))) : pfX6_takesBlur pc = some Y → OKI m_X6_takesBlur pc Y)
def stpX6_takesBlur (pc : Nat) : Option (List Bool) := (bif Nat.beq pc 66 then some [true, false] else none)
def bX6_takesBlur_0 (d rc rs : Nat) (t : Nat) (a1 : Option XO) (σ : XH) (Q : XV → XH → Prop) : Prop :=
  ((1 ≤ d ∧ Ec (d - 1) 0 0 m_X6_next [vR (some (7, t))] σ (kI fun x2 h1 => ((x2 = 102 → (drf a1 6 fun i7 => (∀ h8, h8 = wI h1 6 i7 8 0 → Ex d rc rs m_X6_takesBlur 66 [vR (some (7, t)), vU] [] h8 Q))) ∧ (¬ x2 = 102 → ((x2 = 108 → (drf a1 6 fun i5 => (∀ h6, h6 = wI h1 6 i5 8 2 → Ex d rc rs m_X6_takesBlur 66 [vR (some (7, t)), vU] [] h6 Q))) ∧ (¬ x2 = 108 → ((x2 = 109 → (drf a1 6 fun i3 => (∀ h4, h4 = wI h1 6 i3 8 1 → Ex d rc rs m_X6_takesBlur 66 [vR (some (7, t)), vU] [] h4 Q))) ∧ (¬ x2 = 109 → (((0 : Int32) = 0 ∨ (0 : Int32) = 1) ∧ Q (vI 0) h1))))))))))
theorem sX6_takesBlur_0 {d rc rs : Nat} {t : Nat} {a1 : Option XO} {σ : XH} {Q : XV → XH → Prop} (h : bX6_takesBlur_0 d rc rs t a1 σ Q) : Ex d rc rs m_X6_takesBlur 0 [vR (some (7, t)), vR a1] [] σ Q :=
  xtree_sound (stop := stpX6_takesBlur) okX6_takesBlur 9 _ _ _ _ _ _ h
def bX6_takesBlur_66 (d rc rs : Nat) (t : Nat)  (σ : XH) (Q : XV → XH → Prop) : Prop :=
  (((∀ h1, h1 = wI σ 7 t 2 ((hi σ 7 t 2) + 1) → (((1 : Int32) = 0 ∨ (1 : Int32) = 1) ∧ Q (vI 1) h1))))
theorem sX6_takesBlur_66 {d rc rs : Nat} {t : Nat}  {σ : XH} {Q : XV → XH → Prop} (h : bX6_takesBlur_66 d rc rs t  σ Q) : Ex d rc rs m_X6_takesBlur 66 [vR (some (7, t)), vU] [] σ Q :=
  xtree_sound (stop := stpX6_takesBlur) okX6_takesBlur 10 _ _ _ _ _ _ h
/-! SpotTimers$RuleReader.takesWeight(LSpotTimers$Rule;)Z -/
theorem dX6_takesWeight_0 : decode cX6_takesWeight 0 = .ok (.aload_n 0, 1) := by decide +kernel
theorem dX6_takesWeight_1 : decode cX6_takesWeight 1 = .ok (.invokevirtual 38, 3) := by decide +kernel
theorem dX6_takesWeight_4 : decode cX6_takesWeight 4 = .ok (.bipush 48, 2) := by decide +kernel
theorem dX6_takesWeight_6 : decode cX6_takesWeight 6 = .ok (.isub, 1) := by decide +kernel
theorem dX6_takesWeight_7 : decode cX6_takesWeight 7 = .ok (.istore_n 2, 1) := by decide +kernel
theorem dX6_takesWeight_8 : decode cX6_takesWeight 8 = .ok (.iload_n 2, 1) := by decide +kernel
theorem dX6_takesWeight_9 : decode cX6_takesWeight 9 = .ok (.invokestatic 108, 3) := by decide +kernel
theorem dX6_takesWeight_12 : decode cX6_takesWeight 12 = .ok (.ifCond .eq 12, 3) := by decide +kernel
theorem dX6_takesWeight_15 : decode cX6_takesWeight 15 = .ok (.iload_n 2, 1) := by decide +kernel
theorem dX6_takesWeight_16 : decode cX6_takesWeight 16 = .ok (.aload_n 1, 1) := by decide +kernel
theorem dX6_takesWeight_17 : decode cX6_takesWeight 17 = .ok (.getfield 111, 3) := by decide +kernel
theorem dX6_takesWeight_20 : decode cX6_takesWeight 20 = .ok (.arraylength, 1) := by decide +kernel
theorem dX6_takesWeight_21 : decode cX6_takesWeight 21 = .ok (.if_icmp .lt 5, 3) := by decide +kernel
theorem dX6_takesWeight_24 : decode cX6_takesWeight 24 = .ok (.iconst 0, 1) := by decide +kernel
theorem dX6_takesWeight_25 : decode cX6_takesWeight 25 = .ok (.ireturn, 1) := by decide +kernel
theorem dX6_takesWeight_26 : decode cX6_takesWeight 26 = .ok (.aload_n 0, 1) := by decide +kernel
theorem dX6_takesWeight_27 : decode cX6_takesWeight 27 = .ok (.dup, 1) := by decide +kernel
theorem dX6_takesWeight_28 : decode cX6_takesWeight 28 = .ok (.getfield 19, 3) := by decide +kernel
theorem dX6_takesWeight_31 : decode cX6_takesWeight 31 = .ok (.iconst 1, 1) := by decide +kernel
theorem dX6_takesWeight_32 : decode cX6_takesWeight 32 = .ok (.iadd, 1) := by decide +kernel
theorem dX6_takesWeight_33 : decode cX6_takesWeight 33 = .ok (.putfield 19, 3) := by decide +kernel
theorem dX6_takesWeight_36 : decode cX6_takesWeight 36 = .ok (.aload_n 0, 1) := by decide +kernel
theorem dX6_takesWeight_37 : decode cX6_takesWeight 37 = .ok (.ldc 115, 2) := by decide +kernel
theorem dX6_takesWeight_39 : decode cX6_takesWeight 39 = .ok (.invokevirtual 28, 3) := by decide +kernel
theorem dX6_takesWeight_42 : decode cX6_takesWeight 42 = .ok (.ifCond .eq 11, 3) := by decide +kernel
theorem dX6_takesWeight_45 : decode cX6_takesWeight 45 = .ok (.aload_n 0, 1) := by decide +kernel
theorem dX6_takesWeight_46 : decode cX6_takesWeight 46 = .ok (.iconst 2, 1) := by decide +kernel
theorem dX6_takesWeight_47 : decode cX6_takesWeight 47 = .ok (.invokevirtual 117, 3) := by decide +kernel
theorem dX6_takesWeight_50 : decode cX6_takesWeight 50 = .ok (.goto 4, 3) := by decide +kernel
theorem dX6_takesWeight_53 : decode cX6_takesWeight 53 = .ok (.iconst (-1), 1) := by decide +kernel
theorem dX6_takesWeight_54 : decode cX6_takesWeight 54 = .ok (.istore_n 3, 1) := by decide +kernel
theorem dX6_takesWeight_55 : decode cX6_takesWeight 55 = .ok (.iload_n 3, 1) := by decide +kernel
theorem dX6_takesWeight_56 : decode cX6_takesWeight 56 = .ok (.ifCond .ge 5, 3) := by decide +kernel
theorem dX6_takesWeight_59 : decode cX6_takesWeight 59 = .ok (.iconst 0, 1) := by decide +kernel
theorem dX6_takesWeight_60 : decode cX6_takesWeight 60 = .ok (.ireturn, 1) := by decide +kernel
theorem dX6_takesWeight_61 : decode cX6_takesWeight 61 = .ok (.aload_n 1, 1) := by decide +kernel
theorem dX6_takesWeight_62 : decode cX6_takesWeight 62 = .ok (.getfield 111, 3) := by decide +kernel
theorem dX6_takesWeight_65 : decode cX6_takesWeight 65 = .ok (.iload_n 2, 1) := by decide +kernel
theorem dX6_takesWeight_66 : decode cX6_takesWeight 66 = .ok (.iload_n 3, 1) := by decide +kernel
theorem dX6_takesWeight_67 : decode cX6_takesWeight 67 = .ok (.iastore, 1) := by decide +kernel
theorem dX6_takesWeight_68 : decode cX6_takesWeight 68 = .ok (.iconst 1, 1) := by decide +kernel
theorem dX6_takesWeight_69 : decode cX6_takesWeight 69 = .ok (.ireturn, 1) := by decide +kernel
theorem oX6_takesWeight_0 : OKI 39 0 (.aload_n 0, 1, [0], 0, 0, []) := And.intro dX6_takesWeight_0 (And.intro rfl (rfl))
theorem oX6_takesWeight_1 : OKI 39 1 (.invokevirtual 38, 4, [32, 1, 8, 0, 0, 1], 0, 0, []) := And.intro dX6_takesWeight_1 (And.intro rfl (And.intro (by decide) (And.intro (by decide) (And.intro mo_X6_next (And.intro (tm_4 _ (List.mem_of_getElem? (i := 18) rfl) rfl) (And.intro (tm_4 _ (List.mem_of_getElem? (i := 20) rfl) rfl) (And.intro (pm_1 _ (List.mem_of_getElem? (i := 14) rfl)) (Or.inl ⟨(RX6, TX6, 3), rfl, rfl⟩))))))))
theorem oX6_takesWeight_4 : OKI 39 4 (.bipush 48, 6, [], 48, 0, []) := And.intro dX6_takesWeight_4 (And.intro rfl (by decide +kernel))
theorem oX6_takesWeight_6 : OKI 39 6 (.isub, 7, [], 0, 0, []) := And.intro dX6_takesWeight_6 rfl
theorem oX6_takesWeight_7 : OKI 39 7 (.istore_n 2, 8, [2], 0, 0, []) := And.intro dX6_takesWeight_7 (And.intro rfl (And.intro rfl (by decide)))
theorem oX6_takesWeight_8 : OKI 39 8 (.iload_n 2, 9, [2], 0, 0, []) := And.intro dX6_takesWeight_8 (And.intro rfl (rfl))
theorem oX6_takesWeight_9 : OKI 39 9 (.invokestatic 108, 12, [114, 1, 0, 0, 0, 1], 0, 0, []) := And.intro dX6_takesWeight_9 (And.intro rfl (And.intro rfl (And.intro mo_X10_isHand (And.intro (Or.inr (nm_A _ (List.mem_of_getElem? (i := 9) rfl))) (tm_3 _ (List.mem_of_getElem? (i := 30) rfl) rfl)))))
theorem oX6_takesWeight_12 : OKI 39 12 (.ifCond .eq 12, 15, [24], 0, 0, []) := And.intro dX6_takesWeight_12 (And.intro rfl (by decide))
theorem oX6_takesWeight_15 : OKI 39 15 (.iload_n 2, 16, [2], 0, 0, []) := And.intro dX6_takesWeight_15 (And.intro rfl (rfl))
theorem oX6_takesWeight_16 : OKI 39 16 (.aload_n 1, 17, [1], 0, 0, []) := And.intro dX6_takesWeight_16 (And.intro rfl (rfl))
theorem oX6_takesWeight_17 : OKI 39 17 (.getfield 111, 20, [6, 3, 2, 103, 0], 0, 0, []) := And.intro dX6_takesWeight_17 (And.intro rfl (⟨(RX5, TX5, 13), "SpotTimers$Rule", rfl, by decide, tm_1 _ (List.mem_of_getElem? (i := 98) rfl) rfl, Or.inl rfl, rfl, rfl⟩))
theorem oX6_takesWeight_20 : OKI 39 20 (.arraylength, 21, [], 0, 0, []) := And.intro dX6_takesWeight_20 rfl
theorem oX6_takesWeight_21 : OKI 39 21 (.if_icmp .lt 5, 24, [26], 0, 0, []) := And.intro dX6_takesWeight_21 (And.intro rfl (by decide))
theorem oX6_takesWeight_24 : OKI 39 24 (.iconst 0, 25, [], 0, 0, []) := And.intro dX6_takesWeight_24 (And.intro rfl (by decide +kernel))
theorem oX6_takesWeight_25 : OKI 39 25 (.ireturn, 26, [3], 0, 0, []) := And.intro dX6_takesWeight_25 (Or.inr (Or.inl (And.intro rfl rfl)))
theorem oX6_takesWeight_26 : OKI 39 26 (.aload_n 0, 27, [0], 0, 0, []) := And.intro dX6_takesWeight_26 (And.intro rfl (rfl))
theorem oX6_takesWeight_27 : OKI 39 27 (.dup, 28, [], 0, 0, []) := And.intro dX6_takesWeight_27 rfl
theorem oX6_takesWeight_28 : OKI 39 28 (.getfield 19, 31, [7, 2, 0], 0, 0, []) := And.intro dX6_takesWeight_28 (And.intro rfl (⟨(RX6, TX6, 3), "SpotTimers$RuleReader", rfl, by decide, tm_1 _ (List.mem_of_getElem? (i := 71) rfl) rfl, Or.inl rfl, Or.inr (Or.inr (And.intro rfl (Or.inl rfl)))⟩))
theorem oX6_takesWeight_31 : OKI 39 31 (.iconst 1, 32, [], 1, 0, []) := And.intro dX6_takesWeight_31 (And.intro rfl (by decide +kernel))
theorem oX6_takesWeight_32 : OKI 39 32 (.iadd, 33, [], 0, 0, []) := And.intro dX6_takesWeight_32 rfl
theorem oX6_takesWeight_33 : OKI 39 33 (.putfield 19, 36, [7, 2, 0], 0, 0, []) := And.intro dX6_takesWeight_33 (And.intro rfl (⟨(RX6, TX6, 3), "SpotTimers$RuleReader", rfl, by decide, tm_1 _ (List.mem_of_getElem? (i := 71) rfl) rfl, Or.inl rfl, Or.inl rfl, rfl⟩))
theorem oX6_takesWeight_36 : OKI 39 36 (.aload_n 0, 37, [0], 0, 0, []) := And.intro dX6_takesWeight_36 (And.intro rfl (rfl))
theorem oX6_takesWeight_37 : OKI 39 37 (.ldc 115, 39, [0, 10], 0, 0, []) := And.intro dX6_takesWeight_37 (And.intro rfl (And.intro ⟨_, rfl⟩ rfl))
theorem oX6_takesWeight_39 : OKI 39 39 (.invokevirtual 28, 42, [33, 2, 8, 0, 0, 1], 0, 0, []) := And.intro dX6_takesWeight_39 (And.intro rfl (And.intro (by decide) (And.intro (by decide) (And.intro mo_X6_takes (And.intro (tm_4 _ (List.mem_of_getElem? (i := 23) rfl) rfl) (And.intro (tm_4 _ (List.mem_of_getElem? (i := 25) rfl) rfl) (And.intro (pm_1 _ (List.mem_of_getElem? (i := 15) rfl)) (Or.inl ⟨(RX6, TX6, 3), rfl, rfl⟩))))))))
theorem oX6_takesWeight_42 : OKI 39 42 (.ifCond .eq 11, 45, [53], 0, 0, []) := And.intro dX6_takesWeight_42 (And.intro rfl (by decide))
theorem oX6_takesWeight_45 : OKI 39 45 (.aload_n 0, 46, [0], 0, 0, []) := And.intro dX6_takesWeight_45 (And.intro rfl (rfl))
theorem oX6_takesWeight_46 : OKI 39 46 (.iconst 2, 47, [], 2, 0, []) := And.intro dX6_takesWeight_46 (And.intro rfl (by decide +kernel))
theorem oX6_takesWeight_47 : OKI 39 47 (.invokevirtual 117, 50, [34, 2, 8, 0, 0, 1], 0, 0, []) := And.intro dX6_takesWeight_47 (And.intro rfl (And.intro (by decide) (And.intro (by decide) (And.intro mo_X6_takesDigits (And.intro (tm_4 _ (List.mem_of_getElem? (i := 88) rfl) rfl) (And.intro (tm_4 _ (List.mem_of_getElem? (i := 90) rfl) rfl) (And.intro (pm_2 _ (List.mem_of_getElem? (i := 3) rfl)) (Or.inl ⟨(RX6, TX6, 3), rfl, rfl⟩))))))))
theorem oX6_takesWeight_50 : OKI 39 50 (.goto 4, 53, [54], 0, 0, []) := And.intro dX6_takesWeight_50 (And.intro rfl (by decide))
theorem oX6_takesWeight_53 : OKI 39 53 (.iconst (-1), 54, [], (-1), 0, []) := And.intro dX6_takesWeight_53 (And.intro rfl (by decide +kernel))
theorem oX6_takesWeight_54 : OKI 39 54 (.istore_n 3, 55, [3], 0, 0, []) := And.intro dX6_takesWeight_54 (And.intro rfl (And.intro rfl (by decide)))
theorem oX6_takesWeight_55 : OKI 39 55 (.iload_n 3, 56, [3], 0, 0, []) := And.intro dX6_takesWeight_55 (And.intro rfl (rfl))
theorem oX6_takesWeight_56 : OKI 39 56 (.ifCond .ge 5, 59, [61], 0, 0, []) := And.intro dX6_takesWeight_56 (And.intro rfl (by decide))
theorem oX6_takesWeight_59 : OKI 39 59 (.iconst 0, 60, [], 0, 0, []) := And.intro dX6_takesWeight_59 (And.intro rfl (by decide +kernel))
theorem oX6_takesWeight_60 : OKI 39 60 (.ireturn, 61, [3], 0, 0, []) := And.intro dX6_takesWeight_60 (Or.inr (Or.inl (And.intro rfl rfl)))
theorem oX6_takesWeight_61 : OKI 39 61 (.aload_n 1, 62, [1], 0, 0, []) := And.intro dX6_takesWeight_61 (And.intro rfl (rfl))
theorem oX6_takesWeight_62 : OKI 39 62 (.getfield 111, 65, [6, 3, 2, 103, 0], 0, 0, []) := And.intro dX6_takesWeight_62 (And.intro rfl (⟨(RX5, TX5, 13), "SpotTimers$Rule", rfl, by decide, tm_1 _ (List.mem_of_getElem? (i := 98) rfl) rfl, Or.inl rfl, rfl, rfl⟩))
theorem oX6_takesWeight_65 : OKI 39 65 (.iload_n 2, 66, [2], 0, 0, []) := And.intro dX6_takesWeight_65 (And.intro rfl (rfl))
theorem oX6_takesWeight_66 : OKI 39 66 (.iload_n 3, 67, [3], 0, 0, []) := And.intro dX6_takesWeight_66 (And.intro rfl (rfl))
theorem oX6_takesWeight_67 : OKI 39 67 (.iastore, 68, [], 0, 0, []) := And.intro dX6_takesWeight_67 rfl
theorem oX6_takesWeight_68 : OKI 39 68 (.iconst 1, 69, [], 1, 0, []) := And.intro dX6_takesWeight_68 (And.intro rfl (by decide +kernel))
theorem oX6_takesWeight_69 : OKI 39 69 (.ireturn, 70, [3], 0, 0, []) := And.intro dX6_takesWeight_69 (Or.inr (Or.inl (And.intro rfl rfl)))
def pfX6_takesWeight (pc : Nat) : Option XE := (bif Nat.blt pc 36 then (bif Nat.blt pc 17 then (bif Nat.blt pc 8 then (bif Nat.blt pc 4 then (bif Nat.blt pc 1 then (bif Nat.beq pc 0 then some (.aload_n 0, 1, [0], 0, 0, []) else none) else (bif Nat.beq pc 1 then some (.invokevirtual 38, 4, [32, 1, 8, 0, 0, 1], 0, 0, []) else none)) else (bif Nat.blt pc 6 then (bif Nat.beq pc 4 then some (.bipush 48, 6, [], 48, 0, []) else none) else (bif Nat.blt pc 7 then (bif Nat.beq pc 6 then some (.isub, 7, [], 0, 0, []) else none) else (bif Nat.beq pc 7 then some (.istore_n 2, 8, [2], 0, 0, []) else none)))) else (bif Nat.blt pc 12 then (bif Nat.blt pc 9 then (bif Nat.beq pc 8 then some (.iload_n 2, 9, [2], 0, 0, []) else none) else (bif Nat.beq pc 9 then some (.invokestatic 108, 12, [114, 1, 0, 0, 0, 1], 0, 0, []) else none)) else (bif Nat.blt pc 15 then (bif Nat.beq pc 12 then some (.ifCond .eq 12, 15, [24], 0, 0, []) else none) else (bif Nat.blt pc 16 then (bif Nat.beq pc 15 then some (.iload_n 2, 16, [2], 0, 0, []) else none) else (bif Nat.beq pc 16 then some (.aload_n 1, 17, [1], 0, 0, []) else none))))) else (bif Nat.blt pc 26 then (bif Nat.blt pc 21 then (bif Nat.blt pc 20 then (bif Nat.beq pc 17 then some (.getfield 111, 20, [6, 3, 2, 103, 0], 0, 0, []) else none) else (bif Nat.beq pc 20 then some (.arraylength, 21, [], 0, 0, []) else none)) else (bif Nat.blt pc 24 then (bif Nat.beq pc 21 then some (.if_icmp .lt 5, 24, [26], 0, 0, []) else none) else (bif Nat.blt pc 25 then (bif Nat.beq pc 24 then some (.iconst 0, 25, [], 0, 0, []) else none) else (bif Nat.beq pc 25 then some (.ireturn, 26, [3], 0, 0, []) else none)))) else (bif Nat.blt pc 31 then (bif Nat.blt pc 27 then (bif Nat.beq pc 26 then some (.aload_n 0, 27, [0], 0, 0, []) else none) else (bif Nat.blt pc 28 then (bif Nat.beq pc 27 then some (.dup, 28, [], 0, 0, []) else none) else (bif Nat.beq pc 28 then some (.getfield 19, 31, [7, 2, 0], 0, 0, []) else none))) else (bif Nat.blt pc 32 then (bif Nat.beq pc 31 then some (.iconst 1, 32, [], 1, 0, []) else none) else (bif Nat.blt pc 33 then (bif Nat.beq pc 32 then some (.iadd, 33, [], 0, 0, []) else none) else (bif Nat.beq pc 33 then some (.putfield 19, 36, [7, 2, 0], 0, 0, []) else none)))))) else (bif Nat.blt pc 55 then (bif Nat.blt pc 46 then (bif Nat.blt pc 39 then (bif Nat.blt pc 37 then (bif Nat.beq pc 36 then some (.aload_n 0, 37, [0], 0, 0, []) else none) else (bif Nat.beq pc 37 then some (.ldc 115, 39, [0, 10], 0, 0, []) else none)) else (bif Nat.blt pc 42 then (bif Nat.beq pc 39 then some (.invokevirtual 28, 42, [33, 2, 8, 0, 0, 1], 0, 0, []) else none) else (bif Nat.blt pc 45 then (bif Nat.beq pc 42 then some (.ifCond .eq 11, 45, [53], 0, 0, []) else none) else (bif Nat.beq pc 45 then some (.aload_n 0, 46, [0], 0, 0, []) else none)))) else (bif Nat.blt pc 50 then (bif Nat.blt pc 47 then (bif Nat.beq pc 46 then some (.iconst 2, 47, [], 2, 0, []) else none) else (bif Nat.beq pc 47 then some (.invokevirtual 117, 50, [34, 2, 8, 0, 0, 1], 0, 0, []) else none)) else (bif Nat.blt pc 53 then (bif Nat.beq pc 50 then some (.goto 4, 53, [54], 0, 0, []) else none) else (bif Nat.blt pc 54 then (bif Nat.beq pc 53 then some (.iconst (-1), 54, [], (-1), 0, []) else none) else (bif Nat.beq pc 54 then some (.istore_n 3, 55, [3], 0, 0, []) else none))))) else (bif Nat.blt pc 62 then (bif Nat.blt pc 59 then (bif Nat.blt pc 56 then (bif Nat.beq pc 55 then some (.iload_n 3, 56, [3], 0, 0, []) else none) else (bif Nat.beq pc 56 then some (.ifCond .ge 5, 59, [61], 0, 0, []) else none)) else (bif Nat.blt pc 60 then (bif Nat.beq pc 59 then some (.iconst 0, 60, [], 0, 0, []) else none) else (bif Nat.blt pc 61 then (bif Nat.beq pc 60 then some (.ireturn, 61, [3], 0, 0, []) else none) else (bif Nat.beq pc 61 then some (.aload_n 1, 62, [1], 0, 0, []) else none)))) else (bif Nat.blt pc 67 then (bif Nat.blt pc 65 then (bif Nat.beq pc 62 then some (.getfield 111, 65, [6, 3, 2, 103, 0], 0, 0, []) else none) else (bif Nat.blt pc 66 then (bif Nat.beq pc 65 then some (.iload_n 2, 66, [2], 0, 0, []) else none) else (bif Nat.beq pc 66 then some (.iload_n 3, 67, [3], 0, 0, []) else none))) else (bif Nat.blt pc 68 then (bif Nat.beq pc 67 then some (.iastore, 68, [], 0, 0, []) else none) else (bif Nat.blt pc 69 then (bif Nat.beq pc 68 then some (.iconst 1, 69, [], 1, 0, []) else none) else (bif Nat.beq pc 69 then some (.ireturn, 70, [3], 0, 0, []) else none)))))))
theorem okX6_takesWeight : ∀ pc Y, pfX6_takesWeight pc = some Y → OKI m_X6_takesWeight pc Y := fun pc Y => ((bt_node (bt_node (bt_node (bt_node (bt_node (bt_leaf (P := OKI m_X6_takesWeight) oX6_takesWeight_0) (bt_leaf (P := OKI m_X6_takesWeight) oX6_takesWeight_1)) (bt_node (bt_leaf (P := OKI m_X6_takesWeight) oX6_takesWeight_4) (bt_node (bt_leaf (P := OKI m_X6_takesWeight) oX6_takesWeight_6) (bt_leaf (P := OKI m_X6_takesWeight) oX6_takesWeight_7)))) (bt_node (bt_node (bt_leaf (P := OKI m_X6_takesWeight) oX6_takesWeight_8) (bt_leaf (P := OKI m_X6_takesWeight) oX6_takesWeight_9)) (bt_node (bt_leaf (P := OKI m_X6_takesWeight) oX6_takesWeight_12) (bt_node (bt_leaf (P := OKI m_X6_takesWeight) oX6_takesWeight_15) (bt_leaf (P := OKI m_X6_takesWeight) oX6_takesWeight_16))))) (bt_node (bt_node (bt_node (bt_leaf (P := OKI m_X6_takesWeight) oX6_takesWeight_17) (bt_leaf (P := OKI m_X6_takesWeight) oX6_takesWeight_20)) (bt_node (bt_leaf (P := OKI m_X6_takesWeight) oX6_takesWeight_21) (bt_node (bt_leaf (P := OKI m_X6_takesWeight) oX6_takesWeight_24) (bt_leaf (P := OKI m_X6_takesWeight) oX6_takesWeight_25)))) (bt_node (bt_node (bt_leaf (P := OKI m_X6_takesWeight) oX6_takesWeight_26) (bt_node (bt_leaf (P := OKI m_X6_takesWeight) oX6_takesWeight_27) (bt_leaf (P := OKI m_X6_takesWeight) oX6_takesWeight_28))) (bt_node (bt_leaf (P := OKI m_X6_takesWeight) oX6_takesWeight_31) (bt_node (bt_leaf (P := OKI m_X6_takesWeight) oX6_takesWeight_32) (bt_leaf (P := OKI m_X6_takesWeight) oX6_takesWeight_33)))))) (bt_node (bt_node (bt_node (bt_node (bt_leaf (P := OKI m_X6_takesWeight) oX6_takesWeight_36) (bt_leaf (P := OKI m_X6_takesWeight) oX6_takesWeight_37)) (bt_node (bt_leaf (P := OKI m_X6_takesWeight) oX6_takesWeight_39) (bt_node (bt_leaf (P := OKI m_X6_takesWeight) oX6_takesWeight_42) (bt_leaf (P := OKI m_X6_takesWeight) oX6_takesWeight_45)))) (bt_node (bt_node (bt_leaf (P := OKI m_X6_takesWeight) oX6_takesWeight_46) (bt_leaf (P := OKI m_X6_takesWeight) oX6_takesWeight_47)) (bt_node (bt_leaf (P := OKI m_X6_takesWeight) oX6_takesWeight_50) (bt_node (bt_leaf (P := OKI m_X6_takesWeight) oX6_takesWeight_53) (bt_leaf (P := OKI m_X6_takesWeight) oX6_takesWeight_54))))) (bt_node (bt_node (bt_node (bt_leaf (P := OKI m_X6_takesWeight) oX6_takesWeight_55) (bt_leaf (P := OKI m_X6_takesWeight) oX6_takesWeight_56)) (bt_node (bt_leaf (P := OKI m_X6_takesWeight) oX6_takesWeight_59) (bt_node (bt_leaf (P := OKI m_X6_takesWeight) oX6_takesWeight_60) (bt_leaf (P := OKI m_X6_takesWeight) oX6_takesWeight_61)))) (bt_node (bt_node (bt_leaf (P := OKI m_X6_takesWeight) oX6_takesWeight_62) (bt_node (bt_leaf (P := OKI m_X6_takesWeight) oX6_takesWeight_65) (bt_leaf (P := OKI m_X6_takesWeight) oX6_takesWeight_66))) (bt_node (bt_leaf (P := OKI m_X6_takesWeight) oX6_takesWeight_67) (bt_node (bt_leaf (P := OKI m_X6_takesWeight) oX6_takesWeight_68) (bt_leaf (P := OKI m_X6_takesWeight) oX6_takesWeight_69))))))) : pfX6_takesWeight pc = some Y → OKI m_X6_takesWeight pc Y)
def stpX6_takesWeight (pc : Nat) : Option (List Bool) := (bif Nat.blt pc 54 then (bif Nat.beq pc 24 then some [false, false, false, false] else none) else (bif Nat.beq pc 54 then some [false, true, true, false] else none))
def bX6_takesWeight_0 (d rc rs : Nat) (t : Nat) (a1 : Option XO) (σ : XH) (Q : XV → XH → Prop) : Prop :=
  ((1 ≤ d ∧ Ec (d - 1) 0 0 m_X6_next [vR (some (7, t))] σ (kI fun x2 h1 => (1 ≤ d ∧ Ec (d - 1) 0 0 m_X10_isHand [vI (x2 - 48)] h1 (kI fun x4 h3 => ((x4 = 0 → Ex d rc rs m_X6_takesWeight 24 [vU, vU, vU, vU] [] h3 Q) ∧ (¬ x4 = 0 → (drf a1 6 fun i5 => (hr h3 6 i5 3 = some (103, i5) ∧ ((((x2 - 48) < (Int32.ofNat (hn h3 103 i5)) → (((∀ h6, h6 = wI h3 7 t 2 ((hi h3 7 t 2) + 1) → ((1 ≤ d ∧ Ec (d - 1) 0 0 m_X6_takes [vR (some (7, t)), vR (some (512, 10))] h6 (kI fun x8 h7 => ((x8 = 0 → Ex d rc rs m_X6_takesWeight 54 [vU, vR a1, vI (x2 - 48), vU] [vI (-1)] h7 Q) ∧ (¬ x8 = 0 → ((1 ≤ d ∧ Ec (d - 1) 0 0 m_X6_takesDigits [vR (some (7, t)), vI 2] h7 (kI fun x10 h9 => Ex d rc rs m_X6_takesWeight 54 [vU, vR a1, vI (x2 - 48), vU] [vI x10] h9 Q)))))))))))) ∧ (¬ (x2 - 48) < (Int32.ofNat (hn h3 103 i5)) → Ex d rc rs m_X6_takesWeight 24 [vU, vU, vU, vU] [] h3 Q))))))))))))
theorem sX6_takesWeight_0 {d rc rs : Nat} {t : Nat} {a1 : Option XO} {σ : XH} {Q : XV → XH → Prop} (h : bX6_takesWeight_0 d rc rs t a1 σ Q) : Ex d rc rs m_X6_takesWeight 0 [vR (some (7, t)), vR a1, vU, vU] [] σ Q :=
  xtree_sound (stop := stpX6_takesWeight) okX6_takesWeight 29 _ _ _ _ _ _ h
def bX6_takesWeight_24 (d rc rs : Nat)  (σ : XH) (Q : XV → XH → Prop) : Prop :=
  (((0 : Int32) = 0 ∨ (0 : Int32) = 1) ∧ Q (vI 0) σ)
theorem sX6_takesWeight_24 {d rc rs : Nat}  {σ : XH} {Q : XV → XH → Prop} (h : bX6_takesWeight_24 d rc rs  σ Q) : Ex d rc rs m_X6_takesWeight 24 [vU, vU, vU, vU] [] σ Q :=
  xtree_sound (stop := stpX6_takesWeight) okX6_takesWeight 4 _ _ _ _ _ _ h
def bX6_takesWeight_54 (d rc rs : Nat) (l1 : Option XO) (l2 : Int32) (q0 : Int32) (σ : XH) (Q : XV → XH → Prop) : Prop :=
  ((q0 < 0 → (((0 : Int32) = 0 ∨ (0 : Int32) = 1) ∧ Q (vI 0) σ)) ∧ (¬ q0 < 0 → (drf l1 6 fun i1 => (hr σ 6 i1 3 = some (103, i1) ∧ ((vp_in l2 (hn σ 103 i1) ∧ (∀ h2, h2 = wI σ 103 i1 l2.toNatClampNeg q0 → (((1 : Int32) = 0 ∨ (1 : Int32) = 1) ∧ Q (vI 1) h2))))))))
theorem sX6_takesWeight_54 {d rc rs : Nat} {l1 : Option XO} {l2 : Int32} {q0 : Int32} {σ : XH} {Q : XV → XH → Prop} (h : bX6_takesWeight_54 d rc rs l1 l2 q0 σ Q) : Ex d rc rs m_X6_takesWeight 54 [vU, vR l1, vI l2, vU] [vI q0] σ Q :=
  xtree_sound (stop := stpX6_takesWeight) okX6_takesWeight 12 _ _ _ _ _ _ h
/-! SpotTimers$RuleReader.takesRest(LSpotTimers$Rule;)Z -/
theorem dX6_takesRest_0 : decode cX6_takesRest 0 = .ok (.aload_n 1, 1) := by decide +kernel
theorem dX6_takesRest_1 : decode cX6_takesRest 1 = .ok (.aload_n 0, 1) := by decide +kernel
theorem dX6_takesRest_2 : decode cX6_takesRest 2 = .ok (.iconst 4, 1) := by decide +kernel
theorem dX6_takesRest_3 : decode cX6_takesRest 3 = .ok (.invokevirtual 117, 3) := by decide +kernel
theorem dX6_takesRest_6 : decode cX6_takesRest 6 = .ok (.putfield 121, 3) := by decide +kernel
theorem dX6_takesRest_9 : decode cX6_takesRest 9 = .ok (.aload_n 1, 1) := by decide +kernel
theorem dX6_takesRest_10 : decode cX6_takesRest 10 = .ok (.getfield 121, 3) := by decide +kernel
theorem dX6_takesRest_13 : decode cX6_takesRest 13 = .ok (.ifCond .lt 7, 3) := by decide +kernel
theorem dX6_takesRest_16 : decode cX6_takesRest 16 = .ok (.iconst 1, 1) := by decide +kernel
theorem dX6_takesRest_17 : decode cX6_takesRest 17 = .ok (.goto 4, 3) := by decide +kernel
theorem dX6_takesRest_20 : decode cX6_takesRest 20 = .ok (.iconst 0, 1) := by decide +kernel
theorem dX6_takesRest_21 : decode cX6_takesRest 21 = .ok (.ireturn, 1) := by decide +kernel
theorem oX6_takesRest_0 : OKI 40 0 (.aload_n 1, 1, [1], 0, 0, []) := And.intro dX6_takesRest_0 (And.intro rfl (rfl))
theorem oX6_takesRest_1 : OKI 40 1 (.aload_n 0, 2, [0], 0, 0, []) := And.intro dX6_takesRest_1 (And.intro rfl (rfl))
theorem oX6_takesRest_2 : OKI 40 2 (.iconst 4, 3, [], 4, 0, []) := And.intro dX6_takesRest_2 (And.intro rfl (by decide +kernel))
theorem oX6_takesRest_3 : OKI 40 3 (.invokevirtual 117, 6, [34, 2, 8, 0, 0, 1], 0, 0, []) := And.intro dX6_takesRest_3 (And.intro rfl (And.intro (by decide) (And.intro (by decide) (And.intro mo_X6_takesDigits (And.intro (tm_4 _ (List.mem_of_getElem? (i := 88) rfl) rfl) (And.intro (tm_4 _ (List.mem_of_getElem? (i := 90) rfl) rfl) (And.intro (pm_2 _ (List.mem_of_getElem? (i := 3) rfl)) (Or.inl ⟨(RX6, TX6, 3), rfl, rfl⟩))))))))
theorem oX6_takesRest_6 : OKI 40 6 (.putfield 121, 9, [6, 9, 0], 0, 0, []) := And.intro dX6_takesRest_6 (And.intro rfl (⟨(RX5, TX5, 13), "SpotTimers$Rule", rfl, by decide, tm_1 _ (List.mem_of_getElem? (i := 109) rfl) rfl, Or.inl rfl, Or.inl rfl, rfl⟩))
theorem oX6_takesRest_9 : OKI 40 9 (.aload_n 1, 10, [1], 0, 0, []) := And.intro dX6_takesRest_9 (And.intro rfl (rfl))
theorem oX6_takesRest_10 : OKI 40 10 (.getfield 121, 13, [6, 9, 0], 0, 0, []) := And.intro dX6_takesRest_10 (And.intro rfl (⟨(RX5, TX5, 13), "SpotTimers$Rule", rfl, by decide, tm_1 _ (List.mem_of_getElem? (i := 109) rfl) rfl, Or.inl rfl, Or.inr (Or.inr (And.intro rfl (Or.inl rfl)))⟩))
theorem oX6_takesRest_13 : OKI 40 13 (.ifCond .lt 7, 16, [20], 0, 0, []) := And.intro dX6_takesRest_13 (And.intro rfl (by decide))
theorem oX6_takesRest_16 : OKI 40 16 (.iconst 1, 17, [], 1, 0, []) := And.intro dX6_takesRest_16 (And.intro rfl (by decide +kernel))
theorem oX6_takesRest_17 : OKI 40 17 (.goto 4, 20, [21], 0, 0, []) := And.intro dX6_takesRest_17 (And.intro rfl (by decide))
theorem oX6_takesRest_20 : OKI 40 20 (.iconst 0, 21, [], 0, 0, []) := And.intro dX6_takesRest_20 (And.intro rfl (by decide +kernel))
theorem oX6_takesRest_21 : OKI 40 21 (.ireturn, 22, [3], 0, 0, []) := And.intro dX6_takesRest_21 (Or.inr (Or.inl (And.intro rfl rfl)))
def pfX6_takesRest (pc : Nat) : Option XE := (bif Nat.blt pc 10 then (bif Nat.blt pc 3 then (bif Nat.blt pc 1 then (bif Nat.beq pc 0 then some (.aload_n 1, 1, [1], 0, 0, []) else none) else (bif Nat.blt pc 2 then (bif Nat.beq pc 1 then some (.aload_n 0, 2, [0], 0, 0, []) else none) else (bif Nat.beq pc 2 then some (.iconst 4, 3, [], 4, 0, []) else none))) else (bif Nat.blt pc 6 then (bif Nat.beq pc 3 then some (.invokevirtual 117, 6, [34, 2, 8, 0, 0, 1], 0, 0, []) else none) else (bif Nat.blt pc 9 then (bif Nat.beq pc 6 then some (.putfield 121, 9, [6, 9, 0], 0, 0, []) else none) else (bif Nat.beq pc 9 then some (.aload_n 1, 10, [1], 0, 0, []) else none)))) else (bif Nat.blt pc 17 then (bif Nat.blt pc 13 then (bif Nat.beq pc 10 then some (.getfield 121, 13, [6, 9, 0], 0, 0, []) else none) else (bif Nat.blt pc 16 then (bif Nat.beq pc 13 then some (.ifCond .lt 7, 16, [20], 0, 0, []) else none) else (bif Nat.beq pc 16 then some (.iconst 1, 17, [], 1, 0, []) else none))) else (bif Nat.blt pc 20 then (bif Nat.beq pc 17 then some (.goto 4, 20, [21], 0, 0, []) else none) else (bif Nat.blt pc 21 then (bif Nat.beq pc 20 then some (.iconst 0, 21, [], 0, 0, []) else none) else (bif Nat.beq pc 21 then some (.ireturn, 22, [3], 0, 0, []) else none)))))
theorem okX6_takesRest : ∀ pc Y, pfX6_takesRest pc = some Y → OKI m_X6_takesRest pc Y := fun pc Y => ((bt_node (bt_node (bt_node (bt_leaf (P := OKI m_X6_takesRest) oX6_takesRest_0) (bt_node (bt_leaf (P := OKI m_X6_takesRest) oX6_takesRest_1) (bt_leaf (P := OKI m_X6_takesRest) oX6_takesRest_2))) (bt_node (bt_leaf (P := OKI m_X6_takesRest) oX6_takesRest_3) (bt_node (bt_leaf (P := OKI m_X6_takesRest) oX6_takesRest_6) (bt_leaf (P := OKI m_X6_takesRest) oX6_takesRest_9)))) (bt_node (bt_node (bt_leaf (P := OKI m_X6_takesRest) oX6_takesRest_10) (bt_node (bt_leaf (P := OKI m_X6_takesRest) oX6_takesRest_13) (bt_leaf (P := OKI m_X6_takesRest) oX6_takesRest_16))) (bt_node (bt_leaf (P := OKI m_X6_takesRest) oX6_takesRest_17) (bt_node (bt_leaf (P := OKI m_X6_takesRest) oX6_takesRest_20) (bt_leaf (P := OKI m_X6_takesRest) oX6_takesRest_21))))) : pfX6_takesRest pc = some Y → OKI m_X6_takesRest pc Y)
def stpX6_takesRest (pc : Nat) : Option (List Bool) := (bif Nat.beq pc 21 then some [false, false] else none)
def bX6_takesRest_0 (d rc rs : Nat) (t : Nat) (a1 : Option XO) (σ : XH) (Q : XV → XH → Prop) : Prop :=
  ((1 ≤ d ∧ Ec (d - 1) 0 0 m_X6_takesDigits [vR (some (7, t)), vI 4] σ (kI fun x2 h1 => (drf a1 6 fun i3 => (∀ h4, h4 = wI h1 6 i3 9 x2 → (drf a1 6 fun i5 => (((hi h4 6 i5 9) < 0 → Ex d rc rs m_X6_takesRest 21 [vU, vU] [vI 0] h4 Q) ∧ (¬ (hi h4 6 i5 9) < 0 → Ex d rc rs m_X6_takesRest 21 [vU, vU] [vI 1] h4 Q))))))))
theorem sX6_takesRest_0 {d rc rs : Nat} {t : Nat} {a1 : Option XO} {σ : XH} {Q : XV → XH → Prop} (h : bX6_takesRest_0 d rc rs t a1 σ Q) : Ex d rc rs m_X6_takesRest 0 [vR (some (7, t)), vR a1] [] σ Q :=
  xtree_sound (stop := stpX6_takesRest) okX6_takesRest 12 _ _ _ _ _ _ h
def bX6_takesRest_21 (d rc rs : Nat) (q0 : Int32) (σ : XH) (Q : XV → XH → Prop) : Prop :=
  ((q0 = 0 ∨ q0 = 1) ∧ Q (vI q0) σ)
theorem sX6_takesRest_21 {d rc rs : Nat} {q0 : Int32} {σ : XH} {Q : XV → XH → Prop} (h : bX6_takesRest_21 d rc rs q0 σ Q) : Ex d rc rs m_X6_takesRest 21 [vU, vU] [vI q0] σ Q :=
  xtree_sound (stop := stpX6_takesRest) okX6_takesRest 3 _ _ _ _ _ _ h
/-! SpotTimers$RuleReader.takesEither(LSpotTimers$Rule;I)Z -/
theorem dX6_takesEither_0 : decode cX6_takesEither 0 = .ok (.iconst 0, 1) := by decide +kernel
theorem dX6_takesEither_1 : decode cX6_takesEither 1 = .ok (.istore_n 3, 1) := by decide +kernel
theorem dX6_takesEither_2 : decode cX6_takesEither 2 = .ok (.iload_n 3, 1) := by decide +kernel
theorem dX6_takesEither_3 : decode cX6_takesEither 3 = .ok (.sipush 140, 3) := by decide +kernel
theorem dX6_takesEither_6 : decode cX6_takesEither 6 = .ok (.if_icmp .ge 106, 3) := by decide +kernel
theorem dX6_takesEither_9 : decode cX6_takesEither 9 = .ok (.aload_n 0, 1) := by decide +kernel
theorem dX6_takesEither_10 : decode cX6_takesEither 10 = .ok (.aload_n 1, 1) := by decide +kernel
theorem dX6_takesEither_11 : decode cX6_takesEither 11 = .ok (.iload_n 2, 1) := by decide +kernel
theorem dX6_takesEither_12 : decode cX6_takesEither 12 = .ok (.invokevirtual 124, 3) := by decide +kernel
theorem dX6_takesEither_15 : decode cX6_takesEither 15 = .ok (.ifCond .ne 5, 3) := by decide +kernel
theorem dX6_takesEither_18 : decode cX6_takesEither 18 = .ok (.iconst 0, 1) := by decide +kernel
theorem dX6_takesEither_19 : decode cX6_takesEither 19 = .ok (.ireturn, 1) := by decide +kernel
theorem dX6_takesEither_20 : decode cX6_takesEither 20 = .ok (.iconst 0, 1) := by decide +kernel
theorem dX6_takesEither_21 : decode cX6_takesEither 21 = .ok (.istore 4, 2) := by decide +kernel
theorem dX6_takesEither_23 : decode cX6_takesEither 23 = .ok (.iload 4, 2) := by decide +kernel
theorem dX6_takesEither_25 : decode cX6_takesEither 25 = .ok (.sipush 140, 3) := by decide +kernel
theorem dX6_takesEither_28 : decode cX6_takesEither 28 = .ok (.if_icmp .ge 46, 3) := by decide +kernel
theorem dX6_takesEither_31 : decode cX6_takesEither 31 = .ok (.aload_n 0, 1) := by decide +kernel
theorem dX6_takesEither_32 : decode cX6_takesEither 32 = .ok (.invokevirtual 38, 3) := by decide +kernel
theorem dX6_takesEither_35 : decode cX6_takesEither 35 = .ok (.bipush 38, 2) := by decide +kernel
theorem dX6_takesEither_37 : decode cX6_takesEither 37 = .ok (.if_icmp .ne 37, 3) := by decide +kernel
theorem dX6_takesEither_40 : decode cX6_takesEither 40 = .ok (.aload_n 0, 1) := by decide +kernel
theorem dX6_takesEither_41 : decode cX6_takesEither 41 = .ok (.dup, 1) := by decide +kernel
theorem dX6_takesEither_42 : decode cX6_takesEither 42 = .ok (.getfield 19, 3) := by decide +kernel
theorem dX6_takesEither_45 : decode cX6_takesEither 45 = .ok (.iconst 1, 1) := by decide +kernel
theorem dX6_takesEither_46 : decode cX6_takesEither 46 = .ok (.iadd, 1) := by decide +kernel
theorem dX6_takesEither_47 : decode cX6_takesEither 47 = .ok (.putfield 19, 3) := by decide +kernel
theorem dX6_takesEither_50 : decode cX6_takesEither 50 = .ok (.aload_n 0, 1) := by decide +kernel
theorem dX6_takesEither_51 : decode cX6_takesEither 51 = .ok (.aload_n 1, 1) := by decide +kernel
theorem dX6_takesEither_52 : decode cX6_takesEither 52 = .ok (.iload_n 2, 1) := by decide +kernel
theorem dX6_takesEither_53 : decode cX6_takesEither 53 = .ok (.invokevirtual 124, 3) := by decide +kernel
theorem dX6_takesEither_56 : decode cX6_takesEither 56 = .ok (.ifCond .ne 5, 3) := by decide +kernel
theorem dX6_takesEither_59 : decode cX6_takesEither 59 = .ok (.iconst 0, 1) := by decide +kernel
theorem dX6_takesEither_60 : decode cX6_takesEither 60 = .ok (.ireturn, 1) := by decide +kernel
theorem dX6_takesEither_61 : decode cX6_takesEither 61 = .ok (.aload_n 1, 1) := by decide +kernel
theorem dX6_takesEither_62 : decode cX6_takesEither 62 = .ok (.bipush 38, 2) := by decide +kernel
theorem dX6_takesEither_64 : decode cX6_takesEither 64 = .ok (.iconst 0, 1) := by decide +kernel
theorem dX6_takesEither_65 : decode cX6_takesEither 65 = .ok (.invokevirtual 127, 3) := by decide +kernel
theorem dX6_takesEither_68 : decode cX6_takesEither 68 = .ok (.iinc 4 1, 3) := by decide +kernel
theorem dX6_takesEither_71 : decode cX6_takesEither 71 = .ok (.goto (-48), 3) := by decide +kernel
theorem dX6_takesEither_74 : decode cX6_takesEither 74 = .ok (.iload_n 3, 1) := by decide +kernel
theorem dX6_takesEither_75 : decode cX6_takesEither 75 = .ok (.ifCond .le 10, 3) := by decide +kernel
theorem dX6_takesEither_78 : decode cX6_takesEither 78 = .ok (.aload_n 1, 1) := by decide +kernel
theorem dX6_takesEither_79 : decode cX6_takesEither 79 = .ok (.bipush 124, 2) := by decide +kernel
theorem dX6_takesEither_81 : decode cX6_takesEither 81 = .ok (.iconst 0, 1) := by decide +kernel
theorem dX6_takesEither_82 : decode cX6_takesEither 82 = .ok (.invokevirtual 127, 3) := by decide +kernel
theorem dX6_takesEither_85 : decode cX6_takesEither 85 = .ok (.aload_n 0, 1) := by decide +kernel
theorem dX6_takesEither_86 : decode cX6_takesEither 86 = .ok (.invokevirtual 38, 3) := by decide +kernel
theorem dX6_takesEither_89 : decode cX6_takesEither 89 = .ok (.bipush 124, 2) := by decide +kernel
theorem dX6_takesEither_91 : decode cX6_takesEither 91 = .ok (.if_icmp .eq 5, 3) := by decide +kernel
theorem dX6_takesEither_94 : decode cX6_takesEither 94 = .ok (.iconst 1, 1) := by decide +kernel
theorem dX6_takesEither_95 : decode cX6_takesEither 95 = .ok (.ireturn, 1) := by decide +kernel
theorem dX6_takesEither_96 : decode cX6_takesEither 96 = .ok (.aload_n 0, 1) := by decide +kernel
theorem dX6_takesEither_97 : decode cX6_takesEither 97 = .ok (.dup, 1) := by decide +kernel
theorem dX6_takesEither_98 : decode cX6_takesEither 98 = .ok (.getfield 19, 3) := by decide +kernel
theorem dX6_takesEither_101 : decode cX6_takesEither 101 = .ok (.iconst 1, 1) := by decide +kernel
theorem dX6_takesEither_102 : decode cX6_takesEither 102 = .ok (.iadd, 1) := by decide +kernel
theorem dX6_takesEither_103 : decode cX6_takesEither 103 = .ok (.putfield 19, 3) := by decide +kernel
theorem dX6_takesEither_106 : decode cX6_takesEither 106 = .ok (.iinc 3 1, 3) := by decide +kernel
theorem dX6_takesEither_109 : decode cX6_takesEither 109 = .ok (.goto (-107), 3) := by decide +kernel
theorem dX6_takesEither_112 : decode cX6_takesEither 112 = .ok (.iconst 0, 1) := by decide +kernel
theorem dX6_takesEither_113 : decode cX6_takesEither 113 = .ok (.ireturn, 1) := by decide +kernel
theorem oX6_takesEither_0 : OKI 41 0 (.iconst 0, 1, [], 0, 0, []) := And.intro dX6_takesEither_0 (And.intro rfl (by decide +kernel))
theorem oX6_takesEither_1 : OKI 41 1 (.istore_n 3, 2, [3], 0, 0, []) := And.intro dX6_takesEither_1 (And.intro rfl (And.intro rfl (by decide)))
theorem oX6_takesEither_2 : OKI 41 2 (.iload_n 3, 3, [3], 0, 0, []) := And.intro dX6_takesEither_2 (And.intro rfl (rfl))
theorem oX6_takesEither_3 : OKI 41 3 (.sipush 140, 6, [], 140, 0, []) := And.intro dX6_takesEither_3 (And.intro rfl (by decide +kernel))
theorem oX6_takesEither_6 : OKI 41 6 (.if_icmp .ge 106, 9, [112], 0, 0, []) := And.intro dX6_takesEither_6 (And.intro rfl (by decide))
theorem oX6_takesEither_9 : OKI 41 9 (.aload_n 0, 10, [0], 0, 0, []) := And.intro dX6_takesEither_9 (And.intro rfl (rfl))
theorem oX6_takesEither_10 : OKI 41 10 (.aload_n 1, 11, [1], 0, 0, []) := And.intro dX6_takesEither_10 (And.intro rfl (rfl))
theorem oX6_takesEither_11 : OKI 41 11 (.iload_n 2, 12, [2], 0, 0, []) := And.intro dX6_takesEither_11 (And.intro rfl (rfl))
theorem oX6_takesEither_12 : OKI 41 12 (.invokevirtual 124, 15, [42, 3, 8, 0, 0, 1], 0, 0, []) := And.intro dX6_takesEither_12 (And.intro rfl (And.intro (by decide) (And.intro (by decide) (And.intro mo_X6_takesFactor (And.intro (tm_4 _ (List.mem_of_getElem? (i := 98) rfl) rfl) (And.intro (tm_4 _ (List.mem_of_getElem? (i := 100) rfl) rfl) (And.intro (pm_2 _ (List.mem_of_getElem? (i := 5) rfl)) (Or.inl ⟨(RX6, TX6, 3), rfl, rfl⟩))))))))
theorem oX6_takesEither_15 : OKI 41 15 (.ifCond .ne 5, 18, [20], 0, 0, []) := And.intro dX6_takesEither_15 (And.intro rfl (by decide))
theorem oX6_takesEither_18 : OKI 41 18 (.iconst 0, 19, [], 0, 0, []) := And.intro dX6_takesEither_18 (And.intro rfl (by decide +kernel))
theorem oX6_takesEither_19 : OKI 41 19 (.ireturn, 20, [3], 0, 0, []) := And.intro dX6_takesEither_19 (Or.inr (Or.inl (And.intro rfl rfl)))
theorem oX6_takesEither_20 : OKI 41 20 (.iconst 0, 21, [], 0, 0, []) := And.intro dX6_takesEither_20 (And.intro rfl (by decide +kernel))
theorem oX6_takesEither_21 : OKI 41 21 (.istore 4, 23, [4], 0, 0, []) := And.intro dX6_takesEither_21 (And.intro rfl (And.intro rfl (by decide)))
theorem oX6_takesEither_23 : OKI 41 23 (.iload 4, 25, [4], 0, 0, []) := And.intro dX6_takesEither_23 (And.intro rfl (rfl))
theorem oX6_takesEither_25 : OKI 41 25 (.sipush 140, 28, [], 140, 0, []) := And.intro dX6_takesEither_25 (And.intro rfl (by decide +kernel))
theorem oX6_takesEither_28 : OKI 41 28 (.if_icmp .ge 46, 31, [74], 0, 0, []) := And.intro dX6_takesEither_28 (And.intro rfl (by decide))
theorem oX6_takesEither_31 : OKI 41 31 (.aload_n 0, 32, [0], 0, 0, []) := And.intro dX6_takesEither_31 (And.intro rfl (rfl))
theorem oX6_takesEither_32 : OKI 41 32 (.invokevirtual 38, 35, [32, 1, 8, 0, 0, 1], 0, 0, []) := And.intro dX6_takesEither_32 (And.intro rfl (And.intro (by decide) (And.intro (by decide) (And.intro mo_X6_next (And.intro (tm_4 _ (List.mem_of_getElem? (i := 18) rfl) rfl) (And.intro (tm_4 _ (List.mem_of_getElem? (i := 20) rfl) rfl) (And.intro (pm_1 _ (List.mem_of_getElem? (i := 14) rfl)) (Or.inl ⟨(RX6, TX6, 3), rfl, rfl⟩))))))))
theorem oX6_takesEither_35 : OKI 41 35 (.bipush 38, 37, [], 38, 0, []) := And.intro dX6_takesEither_35 (And.intro rfl (by decide +kernel))
theorem oX6_takesEither_37 : OKI 41 37 (.if_icmp .ne 37, 40, [74], 0, 0, []) := And.intro dX6_takesEither_37 (And.intro rfl (by decide))
theorem oX6_takesEither_40 : OKI 41 40 (.aload_n 0, 41, [0], 0, 0, []) := And.intro dX6_takesEither_40 (And.intro rfl (rfl))
theorem oX6_takesEither_41 : OKI 41 41 (.dup, 42, [], 0, 0, []) := And.intro dX6_takesEither_41 rfl
theorem oX6_takesEither_42 : OKI 41 42 (.getfield 19, 45, [7, 2, 0], 0, 0, []) := And.intro dX6_takesEither_42 (And.intro rfl (⟨(RX6, TX6, 3), "SpotTimers$RuleReader", rfl, by decide, tm_1 _ (List.mem_of_getElem? (i := 71) rfl) rfl, Or.inl rfl, Or.inr (Or.inr (And.intro rfl (Or.inl rfl)))⟩))
theorem oX6_takesEither_45 : OKI 41 45 (.iconst 1, 46, [], 1, 0, []) := And.intro dX6_takesEither_45 (And.intro rfl (by decide +kernel))
theorem oX6_takesEither_46 : OKI 41 46 (.iadd, 47, [], 0, 0, []) := And.intro dX6_takesEither_46 rfl
theorem oX6_takesEither_47 : OKI 41 47 (.putfield 19, 50, [7, 2, 0], 0, 0, []) := And.intro dX6_takesEither_47 (And.intro rfl (⟨(RX6, TX6, 3), "SpotTimers$RuleReader", rfl, by decide, tm_1 _ (List.mem_of_getElem? (i := 71) rfl) rfl, Or.inl rfl, Or.inl rfl, rfl⟩))
theorem oX6_takesEither_50 : OKI 41 50 (.aload_n 0, 51, [0], 0, 0, []) := And.intro dX6_takesEither_50 (And.intro rfl (rfl))
theorem oX6_takesEither_51 : OKI 41 51 (.aload_n 1, 52, [1], 0, 0, []) := And.intro dX6_takesEither_51 (And.intro rfl (rfl))
theorem oX6_takesEither_52 : OKI 41 52 (.iload_n 2, 53, [2], 0, 0, []) := And.intro dX6_takesEither_52 (And.intro rfl (rfl))
theorem oX6_takesEither_53 : OKI 41 53 (.invokevirtual 124, 56, [42, 3, 8, 0, 0, 1], 0, 0, []) := And.intro dX6_takesEither_53 (And.intro rfl (And.intro (by decide) (And.intro (by decide) (And.intro mo_X6_takesFactor (And.intro (tm_4 _ (List.mem_of_getElem? (i := 98) rfl) rfl) (And.intro (tm_4 _ (List.mem_of_getElem? (i := 100) rfl) rfl) (And.intro (pm_2 _ (List.mem_of_getElem? (i := 5) rfl)) (Or.inl ⟨(RX6, TX6, 3), rfl, rfl⟩))))))))
theorem oX6_takesEither_56 : OKI 41 56 (.ifCond .ne 5, 59, [61], 0, 0, []) := And.intro dX6_takesEither_56 (And.intro rfl (by decide))
theorem oX6_takesEither_59 : OKI 41 59 (.iconst 0, 60, [], 0, 0, []) := And.intro dX6_takesEither_59 (And.intro rfl (by decide +kernel))
theorem oX6_takesEither_60 : OKI 41 60 (.ireturn, 61, [3], 0, 0, []) := And.intro dX6_takesEither_60 (Or.inr (Or.inl (And.intro rfl rfl)))
theorem oX6_takesEither_61 : OKI 41 61 (.aload_n 1, 62, [1], 0, 0, []) := And.intro dX6_takesEither_61 (And.intro rfl (rfl))
theorem oX6_takesEither_62 : OKI 41 62 (.bipush 38, 64, [], 38, 0, []) := And.intro dX6_takesEither_62 (And.intro rfl (by decide +kernel))
theorem oX6_takesEither_64 : OKI 41 64 (.iconst 0, 65, [], 0, 0, []) := And.intro dX6_takesEither_64 (And.intro rfl (by decide +kernel))
theorem oX6_takesEither_65 : OKI 41 65 (.invokevirtual 127, 68, [26, 3, 7, 0, 0, 0], 0, 0, []) := And.intro dX6_takesEither_65 (And.intro rfl (And.intro (by decide) (And.intro (by decide) (And.intro mo_X5_addStep (And.intro (tm_4 _ (List.mem_of_getElem? (i := 107) rfl) rfl) (And.intro (tm_4 _ (List.mem_of_getElem? (i := 108) rfl) rfl) (And.intro (tm_4 _ (List.mem_of_getElem? (i := 109) rfl) rfl) (Or.inl ⟨(RX5, TX5, 13), rfl, rfl⟩))))))))
theorem oX6_takesEither_68 : OKI 41 68 (.iinc 4 1, 71, [4], 1, 0, []) := And.intro dX6_takesEither_68 (And.intro rfl (And.intro rfl (And.intro (by decide +kernel) (by decide))))
theorem oX6_takesEither_71 : OKI 41 71 (.goto (-48), 74, [23], 0, 0, []) := And.intro dX6_takesEither_71 (And.intro rfl (by decide))
theorem oX6_takesEither_74 : OKI 41 74 (.iload_n 3, 75, [3], 0, 0, []) := And.intro dX6_takesEither_74 (And.intro rfl (rfl))
theorem oX6_takesEither_75 : OKI 41 75 (.ifCond .le 10, 78, [85], 0, 0, []) := And.intro dX6_takesEither_75 (And.intro rfl (by decide))
theorem oX6_takesEither_78 : OKI 41 78 (.aload_n 1, 79, [1], 0, 0, []) := And.intro dX6_takesEither_78 (And.intro rfl (rfl))
theorem oX6_takesEither_79 : OKI 41 79 (.bipush 124, 81, [], 124, 0, []) := And.intro dX6_takesEither_79 (And.intro rfl (by decide +kernel))
theorem oX6_takesEither_81 : OKI 41 81 (.iconst 0, 82, [], 0, 0, []) := And.intro dX6_takesEither_81 (And.intro rfl (by decide +kernel))
theorem oX6_takesEither_82 : OKI 41 82 (.invokevirtual 127, 85, [26, 3, 7, 0, 0, 0], 0, 0, []) := And.intro dX6_takesEither_82 (And.intro rfl (And.intro (by decide) (And.intro (by decide) (And.intro mo_X5_addStep (And.intro (tm_4 _ (List.mem_of_getElem? (i := 107) rfl) rfl) (And.intro (tm_4 _ (List.mem_of_getElem? (i := 108) rfl) rfl) (And.intro (tm_4 _ (List.mem_of_getElem? (i := 109) rfl) rfl) (Or.inl ⟨(RX5, TX5, 13), rfl, rfl⟩))))))))
theorem oX6_takesEither_85 : OKI 41 85 (.aload_n 0, 86, [0], 0, 0, []) := And.intro dX6_takesEither_85 (And.intro rfl (rfl))
theorem oX6_takesEither_86 : OKI 41 86 (.invokevirtual 38, 89, [32, 1, 8, 0, 0, 1], 0, 0, []) := And.intro dX6_takesEither_86 (And.intro rfl (And.intro (by decide) (And.intro (by decide) (And.intro mo_X6_next (And.intro (tm_4 _ (List.mem_of_getElem? (i := 18) rfl) rfl) (And.intro (tm_4 _ (List.mem_of_getElem? (i := 20) rfl) rfl) (And.intro (pm_1 _ (List.mem_of_getElem? (i := 14) rfl)) (Or.inl ⟨(RX6, TX6, 3), rfl, rfl⟩))))))))
theorem oX6_takesEither_89 : OKI 41 89 (.bipush 124, 91, [], 124, 0, []) := And.intro dX6_takesEither_89 (And.intro rfl (by decide +kernel))
theorem oX6_takesEither_91 : OKI 41 91 (.if_icmp .eq 5, 94, [96], 0, 0, []) := And.intro dX6_takesEither_91 (And.intro rfl (by decide))
theorem oX6_takesEither_94 : OKI 41 94 (.iconst 1, 95, [], 1, 0, []) := And.intro dX6_takesEither_94 (And.intro rfl (by decide +kernel))
theorem oX6_takesEither_95 : OKI 41 95 (.ireturn, 96, [3], 0, 0, []) := And.intro dX6_takesEither_95 (Or.inr (Or.inl (And.intro rfl rfl)))
theorem oX6_takesEither_96 : OKI 41 96 (.aload_n 0, 97, [0], 0, 0, []) := And.intro dX6_takesEither_96 (And.intro rfl (rfl))
theorem oX6_takesEither_97 : OKI 41 97 (.dup, 98, [], 0, 0, []) := And.intro dX6_takesEither_97 rfl
theorem oX6_takesEither_98 : OKI 41 98 (.getfield 19, 101, [7, 2, 0], 0, 0, []) := And.intro dX6_takesEither_98 (And.intro rfl (⟨(RX6, TX6, 3), "SpotTimers$RuleReader", rfl, by decide, tm_1 _ (List.mem_of_getElem? (i := 71) rfl) rfl, Or.inl rfl, Or.inr (Or.inr (And.intro rfl (Or.inl rfl)))⟩))
theorem oX6_takesEither_101 : OKI 41 101 (.iconst 1, 102, [], 1, 0, []) := And.intro dX6_takesEither_101 (And.intro rfl (by decide +kernel))
theorem oX6_takesEither_102 : OKI 41 102 (.iadd, 103, [], 0, 0, []) := And.intro dX6_takesEither_102 rfl
theorem oX6_takesEither_103 : OKI 41 103 (.putfield 19, 106, [7, 2, 0], 0, 0, []) := And.intro dX6_takesEither_103 (And.intro rfl (⟨(RX6, TX6, 3), "SpotTimers$RuleReader", rfl, by decide, tm_1 _ (List.mem_of_getElem? (i := 71) rfl) rfl, Or.inl rfl, Or.inl rfl, rfl⟩))
theorem oX6_takesEither_106 : OKI 41 106 (.iinc 3 1, 109, [3], 1, 0, []) := And.intro dX6_takesEither_106 (And.intro rfl (And.intro rfl (And.intro (by decide +kernel) (by decide))))
theorem oX6_takesEither_109 : OKI 41 109 (.goto (-107), 112, [2], 0, 0, []) := And.intro dX6_takesEither_109 (And.intro rfl (by decide))
theorem oX6_takesEither_112 : OKI 41 112 (.iconst 0, 113, [], 0, 0, []) := And.intro dX6_takesEither_112 (And.intro rfl (by decide +kernel))
theorem oX6_takesEither_113 : OKI 41 113 (.ireturn, 114, [3], 0, 0, []) := And.intro dX6_takesEither_113 (Or.inr (Or.inl (And.intro rfl rfl)))
def pfX6_takesEither (pc : Nat) : Option XE := (bif Nat.blt pc 56 then (bif Nat.blt pc 25 then (bif Nat.blt pc 11 then (bif Nat.blt pc 3 then (bif Nat.blt pc 1 then (bif Nat.beq pc 0 then some (.iconst 0, 1, [], 0, 0, []) else none) else (bif Nat.blt pc 2 then (bif Nat.beq pc 1 then some (.istore_n 3, 2, [3], 0, 0, []) else none) else (bif Nat.beq pc 2 then some (.iload_n 3, 3, [3], 0, 0, []) else none))) else (bif Nat.blt pc 9 then (bif Nat.blt pc 6 then (bif Nat.beq pc 3 then some (.sipush 140, 6, [], 140, 0, []) else none) else (bif Nat.beq pc 6 then some (.if_icmp .ge 106, 9, [112], 0, 0, []) else none)) else (bif Nat.blt pc 10 then (bif Nat.beq pc 9 then some (.aload_n 0, 10, [0], 0, 0, []) else none) else (bif Nat.beq pc 10 then some (.aload_n 1, 11, [1], 0, 0, []) else none)))) else (bif Nat.blt pc 19 then (bif Nat.blt pc 15 then (bif Nat.blt pc 12 then (bif Nat.beq pc 11 then some (.iload_n 2, 12, [2], 0, 0, []) else none) else (bif Nat.beq pc 12 then some (.invokevirtual 124, 15, [42, 3, 8, 0, 0, 1], 0, 0, []) else none)) else (bif Nat.blt pc 18 then (bif Nat.beq pc 15 then some (.ifCond .ne 5, 18, [20], 0, 0, []) else none) else (bif Nat.beq pc 18 then some (.iconst 0, 19, [], 0, 0, []) else none))) else (bif Nat.blt pc 21 then (bif Nat.blt pc 20 then (bif Nat.beq pc 19 then some (.ireturn, 20, [3], 0, 0, []) else none) else (bif Nat.beq pc 20 then some (.iconst 0, 21, [], 0, 0, []) else none)) else (bif Nat.blt pc 23 then (bif Nat.beq pc 21 then some (.istore 4, 23, [4], 0, 0, []) else none) else (bif Nat.beq pc 23 then some (.iload 4, 25, [4], 0, 0, []) else none))))) else (bif Nat.blt pc 42 then (bif Nat.blt pc 35 then (bif Nat.blt pc 31 then (bif Nat.blt pc 28 then (bif Nat.beq pc 25 then some (.sipush 140, 28, [], 140, 0, []) else none) else (bif Nat.beq pc 28 then some (.if_icmp .ge 46, 31, [74], 0, 0, []) else none)) else (bif Nat.blt pc 32 then (bif Nat.beq pc 31 then some (.aload_n 0, 32, [0], 0, 0, []) else none) else (bif Nat.beq pc 32 then some (.invokevirtual 38, 35, [32, 1, 8, 0, 0, 1], 0, 0, []) else none))) else (bif Nat.blt pc 40 then (bif Nat.blt pc 37 then (bif Nat.beq pc 35 then some (.bipush 38, 37, [], 38, 0, []) else none) else (bif Nat.beq pc 37 then some (.if_icmp .ne 37, 40, [74], 0, 0, []) else none)) else (bif Nat.blt pc 41 then (bif Nat.beq pc 40 then some (.aload_n 0, 41, [0], 0, 0, []) else none) else (bif Nat.beq pc 41 then some (.dup, 42, [], 0, 0, []) else none)))) else (bif Nat.blt pc 50 then (bif Nat.blt pc 46 then (bif Nat.blt pc 45 then (bif Nat.beq pc 42 then some (.getfield 19, 45, [7, 2, 0], 0, 0, []) else none) else (bif Nat.beq pc 45 then some (.iconst 1, 46, [], 1, 0, []) else none)) else (bif Nat.blt pc 47 then (bif Nat.beq pc 46 then some (.iadd, 47, [], 0, 0, []) else none) else (bif Nat.beq pc 47 then some (.putfield 19, 50, [7, 2, 0], 0, 0, []) else none))) else (bif Nat.blt pc 52 then (bif Nat.blt pc 51 then (bif Nat.beq pc 50 then some (.aload_n 0, 51, [0], 0, 0, []) else none) else (bif Nat.beq pc 51 then some (.aload_n 1, 52, [1], 0, 0, []) else none)) else (bif Nat.blt pc 53 then (bif Nat.beq pc 52 then some (.iload_n 2, 53, [2], 0, 0, []) else none) else (bif Nat.beq pc 53 then some (.invokevirtual 124, 56, [42, 3, 8, 0, 0, 1], 0, 0, []) else none)))))) else (bif Nat.blt pc 85 then (bif Nat.blt pc 68 then (bif Nat.blt pc 61 then (bif Nat.blt pc 59 then (bif Nat.beq pc 56 then some (.ifCond .ne 5, 59, [61], 0, 0, []) else none) else (bif Nat.blt pc 60 then (bif Nat.beq pc 59 then some (.iconst 0, 60, [], 0, 0, []) else none) else (bif Nat.beq pc 60 then some (.ireturn, 61, [3], 0, 0, []) else none))) else (bif Nat.blt pc 64 then (bif Nat.blt pc 62 then (bif Nat.beq pc 61 then some (.aload_n 1, 62, [1], 0, 0, []) else none) else (bif Nat.beq pc 62 then some (.bipush 38, 64, [], 38, 0, []) else none)) else (bif Nat.blt pc 65 then (bif Nat.beq pc 64 then some (.iconst 0, 65, [], 0, 0, []) else none) else (bif Nat.beq pc 65 then some (.invokevirtual 127, 68, [26, 3, 7, 0, 0, 0], 0, 0, []) else none)))) else (bif Nat.blt pc 78 then (bif Nat.blt pc 74 then (bif Nat.blt pc 71 then (bif Nat.beq pc 68 then some (.iinc 4 1, 71, [4], 1, 0, []) else none) else (bif Nat.beq pc 71 then some (.goto (-48), 74, [23], 0, 0, []) else none)) else (bif Nat.blt pc 75 then (bif Nat.beq pc 74 then some (.iload_n 3, 75, [3], 0, 0, []) else none) else (bif Nat.beq pc 75 then some (.ifCond .le 10, 78, [85], 0, 0, []) else none))) else (bif Nat.blt pc 81 then (bif Nat.blt pc 79 then (bif Nat.beq pc 78 then some (.aload_n 1, 79, [1], 0, 0, []) else none) else (bif Nat.beq pc 79 then some (.bipush 124, 81, [], 124, 0, []) else none)) else (bif Nat.blt pc 82 then (bif Nat.beq pc 81 then some (.iconst 0, 82, [], 0, 0, []) else none) else (bif Nat.beq pc 82 then some (.invokevirtual 127, 85, [26, 3, 7, 0, 0, 0], 0, 0, []) else none))))) else (bif Nat.blt pc 98 then (bif Nat.blt pc 94 then (bif Nat.blt pc 89 then (bif Nat.blt pc 86 then (bif Nat.beq pc 85 then some (.aload_n 0, 86, [0], 0, 0, []) else none) else (bif Nat.beq pc 86 then some (.invokevirtual 38, 89, [32, 1, 8, 0, 0, 1], 0, 0, []) else none)) else (bif Nat.blt pc 91 then (bif Nat.beq pc 89 then some (.bipush 124, 91, [], 124, 0, []) else none) else (bif Nat.beq pc 91 then some (.if_icmp .eq 5, 94, [96], 0, 0, []) else none))) else (bif Nat.blt pc 96 then (bif Nat.blt pc 95 then (bif Nat.beq pc 94 then some (.iconst 1, 95, [], 1, 0, []) else none) else (bif Nat.beq pc 95 then some (.ireturn, 96, [3], 0, 0, []) else none)) else (bif Nat.blt pc 97 then (bif Nat.beq pc 96 then some (.aload_n 0, 97, [0], 0, 0, []) else none) else (bif Nat.beq pc 97 then some (.dup, 98, [], 0, 0, []) else none)))) else (bif Nat.blt pc 106 then (bif Nat.blt pc 102 then (bif Nat.blt pc 101 then (bif Nat.beq pc 98 then some (.getfield 19, 101, [7, 2, 0], 0, 0, []) else none) else (bif Nat.beq pc 101 then some (.iconst 1, 102, [], 1, 0, []) else none)) else (bif Nat.blt pc 103 then (bif Nat.beq pc 102 then some (.iadd, 103, [], 0, 0, []) else none) else (bif Nat.beq pc 103 then some (.putfield 19, 106, [7, 2, 0], 0, 0, []) else none))) else (bif Nat.blt pc 112 then (bif Nat.blt pc 109 then (bif Nat.beq pc 106 then some (.iinc 3 1, 109, [3], 1, 0, []) else none) else (bif Nat.beq pc 109 then some (.goto (-107), 112, [2], 0, 0, []) else none)) else (bif Nat.blt pc 113 then (bif Nat.beq pc 112 then some (.iconst 0, 113, [], 0, 0, []) else none) else (bif Nat.beq pc 113 then some (.ireturn, 114, [3], 0, 0, []) else none)))))))
theorem okX6_takesEither : ∀ pc Y, pfX6_takesEither pc = some Y → OKI m_X6_takesEither pc Y := fun pc Y => ((bt_node (bt_node (bt_node (bt_node (bt_node (bt_leaf (P := OKI m_X6_takesEither) oX6_takesEither_0) (bt_node (bt_leaf (P := OKI m_X6_takesEither) oX6_takesEither_1) (bt_leaf (P := OKI m_X6_takesEither) oX6_takesEither_2))) (bt_node (bt_node (bt_leaf (P := OKI m_X6_takesEither) oX6_takesEither_3) (bt_leaf (P := OKI m_X6_takesEither) oX6_takesEither_6)) (bt_node (bt_leaf (P := OKI m_X6_takesEither) oX6_takesEither_9) (bt_leaf (P := OKI m_X6_takesEither) oX6_takesEither_10)))) (bt_node (bt_node (bt_node (bt_leaf (P := OKI m_X6_takesEither) oX6_takesEither_11) (bt_leaf (P := OKI m_X6_takesEither) oX6_takesEither_12)) (bt_node (bt_leaf (P := OKI m_X6_takesEither) oX6_takesEither_15) (bt_leaf (P := OKI m_X6_takesEither) oX6_takesEither_18))) (bt_node (bt_node (bt_leaf (P := OKI m_X6_takesEither) oX6_takesEither_19) (bt_leaf (P := OKI m_X6_takesEither) oX6_takesEither_20)) (bt_node (bt_leaf (P := OKI m_X6_takesEither) oX6_takesEither_21) (bt_leaf (P := OKI m_X6_takesEither) oX6_takesEither_23))))) (bt_node (bt_node (bt_node (bt_node (bt_leaf (P := OKI m_X6_takesEither) oX6_takesEither_25) (bt_leaf (P := OKI m_X6_takesEither) oX6_takesEither_28)) (bt_node (bt_leaf (P := OKI m_X6_takesEither) oX6_takesEither_31) (bt_leaf (P := OKI m_X6_takesEither) oX6_takesEither_32))) (bt_node (bt_node (bt_leaf (P := OKI m_X6_takesEither) oX6_takesEither_35) (bt_leaf (P := OKI m_X6_takesEither) oX6_takesEither_37)) (bt_node (bt_leaf (P := OKI m_X6_takesEither) oX6_takesEither_40) (bt_leaf (P := OKI m_X6_takesEither) oX6_takesEither_41)))) (bt_node (bt_node (bt_node (bt_leaf (P := OKI m_X6_takesEither) oX6_takesEither_42) (bt_leaf (P := OKI m_X6_takesEither) oX6_takesEither_45)) (bt_node (bt_leaf (P := OKI m_X6_takesEither) oX6_takesEither_46) (bt_leaf (P := OKI m_X6_takesEither) oX6_takesEither_47))) (bt_node (bt_node (bt_leaf (P := OKI m_X6_takesEither) oX6_takesEither_50) (bt_leaf (P := OKI m_X6_takesEither) oX6_takesEither_51)) (bt_node (bt_leaf (P := OKI m_X6_takesEither) oX6_takesEither_52) (bt_leaf (P := OKI m_X6_takesEither) oX6_takesEither_53)))))) (bt_node (bt_node (bt_node (bt_node (bt_leaf (P := OKI m_X6_takesEither) oX6_takesEither_56) (bt_node (bt_leaf (P := OKI m_X6_takesEither) oX6_takesEither_59) (bt_leaf (P := OKI m_X6_takesEither) oX6_takesEither_60))) (bt_node (bt_node (bt_leaf (P := OKI m_X6_takesEither) oX6_takesEither_61) (bt_leaf (P := OKI m_X6_takesEither) oX6_takesEither_62)) (bt_node (bt_leaf (P := OKI m_X6_takesEither) oX6_takesEither_64) (bt_leaf (P := OKI m_X6_takesEither) oX6_takesEither_65)))) (bt_node (bt_node (bt_node (bt_leaf (P := OKI m_X6_takesEither) oX6_takesEither_68) (bt_leaf (P := OKI m_X6_takesEither) oX6_takesEither_71)) (bt_node (bt_leaf (P := OKI m_X6_takesEither) oX6_takesEither_74) (bt_leaf (P := OKI m_X6_takesEither) oX6_takesEither_75))) (bt_node (bt_node (bt_leaf (P := OKI m_X6_takesEither) oX6_takesEither_78) (bt_leaf (P := OKI m_X6_takesEither) oX6_takesEither_79)) (bt_node (bt_leaf (P := OKI m_X6_takesEither) oX6_takesEither_81) (bt_leaf (P := OKI m_X6_takesEither) oX6_takesEither_82))))) (bt_node (bt_node (bt_node (bt_node (bt_leaf (P := OKI m_X6_takesEither) oX6_takesEither_85) (bt_leaf (P := OKI m_X6_takesEither) oX6_takesEither_86)) (bt_node (bt_leaf (P := OKI m_X6_takesEither) oX6_takesEither_89) (bt_leaf (P := OKI m_X6_takesEither) oX6_takesEither_91))) (bt_node (bt_node (bt_leaf (P := OKI m_X6_takesEither) oX6_takesEither_94) (bt_leaf (P := OKI m_X6_takesEither) oX6_takesEither_95)) (bt_node (bt_leaf (P := OKI m_X6_takesEither) oX6_takesEither_96) (bt_leaf (P := OKI m_X6_takesEither) oX6_takesEither_97)))) (bt_node (bt_node (bt_node (bt_leaf (P := OKI m_X6_takesEither) oX6_takesEither_98) (bt_leaf (P := OKI m_X6_takesEither) oX6_takesEither_101)) (bt_node (bt_leaf (P := OKI m_X6_takesEither) oX6_takesEither_102) (bt_leaf (P := OKI m_X6_takesEither) oX6_takesEither_103))) (bt_node (bt_node (bt_leaf (P := OKI m_X6_takesEither) oX6_takesEither_106) (bt_leaf (P := OKI m_X6_takesEither) oX6_takesEither_109)) (bt_node (bt_leaf (P := OKI m_X6_takesEither) oX6_takesEither_112) (bt_leaf (P := OKI m_X6_takesEither) oX6_takesEither_113))))))) : pfX6_takesEither pc = some Y → OKI m_X6_takesEither pc Y)
def stpX6_takesEither (pc : Nat) : Option (List Bool) := (bif Nat.blt pc 74 then (bif Nat.blt pc 23 then (bif Nat.beq pc 2 then some [true, true, true, true, false] else none) else (bif Nat.beq pc 23 then some [true, true, true, true, true] else none)) else (bif Nat.blt pc 85 then (bif Nat.beq pc 74 then some [true, true, true, true, false] else none) else (bif Nat.beq pc 85 then some [true, true, true, true, false] else none)))
def bX6_takesEither_0 (d rc rs : Nat) (t : Nat) (a1 : Option XO) (a2 : Int32) (σ : XH) (Q : XV → XH → Prop) : Prop :=
  Ex d rc rs m_X6_takesEither 2 [vR (some (7, t)), vR a1, vI a2, vI 0, vU] [] σ Q
theorem sX6_takesEither_0 {d rc rs : Nat} {t : Nat} {a1 : Option XO} {a2 : Int32} {σ : XH} {Q : XV → XH → Prop} (h : bX6_takesEither_0 d rc rs t a1 a2 σ Q) : Ex d rc rs m_X6_takesEither 0 [vR (some (7, t)), vR a1, vI a2, vU, vU] [] σ Q :=
  xtree_sound (stop := stpX6_takesEither) okX6_takesEither 4 _ _ _ _ _ _ h
def bX6_takesEither_2 (d rc rs : Nat) (t : Nat) (l1 : Option XO) (l2 : Int32) (l3 : Int32) (σ : XH) (Q : XV → XH → Prop) : Prop :=
  ((l3 < 140 → ((1 ≤ d ∧ Ec (d - 1) 0 0 m_X6_takesFactor [vR (some (7, t)), vR l1, vI l2] σ (kI fun x2 h1 => ((x2 = 0 → (((0 : Int32) = 0 ∨ (0 : Int32) = 1) ∧ Q (vI 0) h1)) ∧ (¬ x2 = 0 → Ex d rc rs m_X6_takesEither 23 [vR (some (7, t)), vR l1, vI l2, vI l3, vI 0] [] h1 Q)))))) ∧ (¬ l3 < 140 → (((0 : Int32) = 0 ∨ (0 : Int32) = 1) ∧ Q (vI 0) σ)))
theorem sX6_takesEither_2 {d rc rs : Nat} {t : Nat} {l1 : Option XO} {l2 : Int32} {l3 : Int32} {σ : XH} {Q : XV → XH → Prop} (h : bX6_takesEither_2 d rc rs t l1 l2 l3 σ Q) : Ex d rc rs m_X6_takesEither 2 [vR (some (7, t)), vR l1, vI l2, vI l3, vU] [] σ Q :=
  xtree_sound (stop := stpX6_takesEither) okX6_takesEither 12 _ _ _ _ _ _ h
def bX6_takesEither_23 (d rc rs : Nat) (t : Nat) (l1 : Option XO) (l2 : Int32) (l3 : Int32) (l4 : Int32) (σ : XH) (Q : XV → XH → Prop) : Prop :=
  ((l4 < 140 → ((1 ≤ d ∧ Ec (d - 1) 0 0 m_X6_next [vR (some (7, t))] σ (kI fun x2 h1 => ((x2 = 38 → (((∀ h3, h3 = wI h1 7 t 2 ((hi h1 7 t 2) + 1) → ((1 ≤ d ∧ Ec (d - 1) 0 0 m_X6_takesFactor [vR (some (7, t)), vR l1, vI l2] h3 (kI fun x5 h4 => ((x5 = 0 → (((0 : Int32) = 0 ∨ (0 : Int32) = 1) ∧ Q (vI 0) h4)) ∧ (¬ x5 = 0 → (drf l1 6 fun i7 => (1 ≤ d ∧ Ec (d - 1) 0 0 m_X5_addStep [vR (some (6, i7)), vI 38, vI 0] h4 (kU fun h6 => Ex d rc rs m_X6_takesEither 23 [vR (some (7, t)), vR l1, vI l2, vI l3, vI (l4 + 1)] [] h6 Q)))))))))))) ∧ (¬ x2 = 38 → Ex d rc rs m_X6_takesEither 74 [vR (some (7, t)), vR l1, vI l2, vI l3, vU] [] h1 Q)))))) ∧ (¬ l4 < 140 → Ex d rc rs m_X6_takesEither 74 [vR (some (7, t)), vR l1, vI l2, vI l3, vU] [] σ Q))
theorem sX6_takesEither_23 {d rc rs : Nat} {t : Nat} {l1 : Option XO} {l2 : Int32} {l3 : Int32} {l4 : Int32} {σ : XH} {Q : XV → XH → Prop} (h : bX6_takesEither_23 d rc rs t l1 l2 l3 l4 σ Q) : Ex d rc rs m_X6_takesEither 23 [vR (some (7, t)), vR l1, vI l2, vI l3, vI l4] [] σ Q :=
  xtree_sound (stop := stpX6_takesEither) okX6_takesEither 26 _ _ _ _ _ _ h
def bX6_takesEither_74 (d rc rs : Nat) (t : Nat) (l1 : Option XO) (l2 : Int32) (l3 : Int32) (σ : XH) (Q : XV → XH → Prop) : Prop :=
  ((0 < l3 → (drf l1 6 fun i2 => (1 ≤ d ∧ Ec (d - 1) 0 0 m_X5_addStep [vR (some (6, i2)), vI 124, vI 0] σ (kU fun h1 => Ex d rc rs m_X6_takesEither 85 [vR (some (7, t)), vR l1, vI l2, vI l3, vU] [] h1 Q)))) ∧ (¬ 0 < l3 → Ex d rc rs m_X6_takesEither 85 [vR (some (7, t)), vR l1, vI l2, vI l3, vU] [] σ Q))
theorem sX6_takesEither_74 {d rc rs : Nat} {t : Nat} {l1 : Option XO} {l2 : Int32} {l3 : Int32} {σ : XH} {Q : XV → XH → Prop} (h : bX6_takesEither_74 d rc rs t l1 l2 l3 σ Q) : Ex d rc rs m_X6_takesEither 74 [vR (some (7, t)), vR l1, vI l2, vI l3, vU] [] σ Q :=
  xtree_sound (stop := stpX6_takesEither) okX6_takesEither 8 _ _ _ _ _ _ h
def bX6_takesEither_85 (d rc rs : Nat) (t : Nat) (l1 : Option XO) (l2 : Int32) (l3 : Int32) (σ : XH) (Q : XV → XH → Prop) : Prop :=
  ((1 ≤ d ∧ Ec (d - 1) 0 0 m_X6_next [vR (some (7, t))] σ (kI fun x2 h1 => ((x2 = 124 → (((∀ h3, h3 = wI h1 7 t 2 ((hi h1 7 t 2) + 1) → Ex d rc rs m_X6_takesEither 2 [vR (some (7, t)), vR l1, vI l2, vI (l3 + 1), vU] [] h3 Q)))) ∧ (¬ x2 = 124 → (((1 : Int32) = 0 ∨ (1 : Int32) = 1) ∧ Q (vI 1) h1))))))
theorem sX6_takesEither_85 {d rc rs : Nat} {t : Nat} {l1 : Option XO} {l2 : Int32} {l3 : Int32} {σ : XH} {Q : XV → XH → Prop} (h : bX6_takesEither_85 d rc rs t l1 l2 l3 σ Q) : Ex d rc rs m_X6_takesEither 85 [vR (some (7, t)), vR l1, vI l2, vI l3, vU] [] σ Q :=
  xtree_sound (stop := stpX6_takesEither) okX6_takesEither 14 _ _ _ _ _ _ h
/-! SpotTimers$RuleReader.takesFactor(LSpotTimers$Rule;I)Z -/
theorem dX6_takesFactor_0 : decode cX6_takesFactor 0 = .ok (.aload_n 0, 1) := by decide +kernel
theorem dX6_takesFactor_1 : decode cX6_takesFactor 1 = .ok (.invokevirtual 38, 3) := by decide +kernel
theorem dX6_takesFactor_4 : decode cX6_takesFactor 4 = .ok (.istore_n 3, 1) := by decide +kernel
theorem dX6_takesFactor_5 : decode cX6_takesFactor 5 = .ok (.iload_n 3, 1) := by decide +kernel
theorem dX6_takesFactor_6 : decode cX6_takesFactor 6 = .ok (.bipush 33, 2) := by decide +kernel
theorem dX6_takesFactor_8 : decode cX6_takesFactor 8 = .ok (.if_icmp .eq 15, 3) := by decide +kernel
theorem dX6_takesFactor_11 : decode cX6_takesFactor 11 = .ok (.iload_n 3, 1) := by decide +kernel
theorem dX6_takesFactor_12 : decode cX6_takesFactor 12 = .ok (.bipush 40, 2) := by decide +kernel
theorem dX6_takesFactor_14 : decode cX6_takesFactor 14 = .ok (.if_icmp .eq 9, 3) := by decide +kernel
theorem dX6_takesFactor_17 : decode cX6_takesFactor 17 = .ok (.aload_n 0, 1) := by decide +kernel
theorem dX6_takesFactor_18 : decode cX6_takesFactor 18 = .ok (.aload_n 1, 1) := by decide +kernel
theorem dX6_takesFactor_19 : decode cX6_takesFactor 19 = .ok (.invokevirtual 131, 3) := by decide +kernel
theorem dX6_takesFactor_22 : decode cX6_takesFactor 22 = .ok (.ireturn, 1) := by decide +kernel
theorem dX6_takesFactor_23 : decode cX6_takesFactor 23 = .ok (.iload_n 2, 1) := by decide +kernel
theorem dX6_takesFactor_24 : decode cX6_takesFactor 24 = .ok (.iconst 5, 1) := by decide +kernel
theorem dX6_takesFactor_25 : decode cX6_takesFactor 25 = .ok (.if_icmp .lt 5, 3) := by decide +kernel
theorem dX6_takesFactor_28 : decode cX6_takesFactor 28 = .ok (.iconst 0, 1) := by decide +kernel
theorem dX6_takesFactor_29 : decode cX6_takesFactor 29 = .ok (.ireturn, 1) := by decide +kernel
theorem dX6_takesFactor_30 : decode cX6_takesFactor 30 = .ok (.aload_n 0, 1) := by decide +kernel
theorem dX6_takesFactor_31 : decode cX6_takesFactor 31 = .ok (.dup, 1) := by decide +kernel
theorem dX6_takesFactor_32 : decode cX6_takesFactor 32 = .ok (.getfield 19, 3) := by decide +kernel
theorem dX6_takesFactor_35 : decode cX6_takesFactor 35 = .ok (.iconst 1, 1) := by decide +kernel
theorem dX6_takesFactor_36 : decode cX6_takesFactor 36 = .ok (.iadd, 1) := by decide +kernel
theorem dX6_takesFactor_37 : decode cX6_takesFactor 37 = .ok (.putfield 19, 3) := by decide +kernel
theorem dX6_takesFactor_40 : decode cX6_takesFactor 40 = .ok (.iload_n 3, 1) := by decide +kernel
theorem dX6_takesFactor_41 : decode cX6_takesFactor 41 = .ok (.bipush 40, 2) := by decide +kernel
theorem dX6_takesFactor_43 : decode cX6_takesFactor 43 = .ok (.if_icmp .ne 29, 3) := by decide +kernel
theorem dX6_takesFactor_46 : decode cX6_takesFactor 46 = .ok (.aload_n 0, 1) := by decide +kernel
theorem dX6_takesFactor_47 : decode cX6_takesFactor 47 = .ok (.aload_n 1, 1) := by decide +kernel
theorem dX6_takesFactor_48 : decode cX6_takesFactor 48 = .ok (.iload_n 2, 1) := by decide +kernel
theorem dX6_takesFactor_49 : decode cX6_takesFactor 49 = .ok (.iconst 1, 1) := by decide +kernel
theorem dX6_takesFactor_50 : decode cX6_takesFactor 50 = .ok (.iadd, 1) := by decide +kernel
theorem dX6_takesFactor_51 : decode cX6_takesFactor 51 = .ok (.invokevirtual 68, 3) := by decide +kernel
theorem dX6_takesFactor_54 : decode cX6_takesFactor 54 = .ok (.ifCond .eq 16, 3) := by decide +kernel
theorem dX6_takesFactor_57 : decode cX6_takesFactor 57 = .ok (.aload_n 0, 1) := by decide +kernel
theorem dX6_takesFactor_58 : decode cX6_takesFactor 58 = .ok (.ldc 134, 2) := by decide +kernel
theorem dX6_takesFactor_60 : decode cX6_takesFactor 60 = .ok (.invokevirtual 28, 3) := by decide +kernel
theorem dX6_takesFactor_63 : decode cX6_takesFactor 63 = .ok (.ifCond .eq 7, 3) := by decide +kernel
theorem dX6_takesFactor_66 : decode cX6_takesFactor 66 = .ok (.iconst 1, 1) := by decide +kernel
theorem dX6_takesFactor_67 : decode cX6_takesFactor 67 = .ok (.goto 4, 3) := by decide +kernel
theorem dX6_takesFactor_70 : decode cX6_takesFactor 70 = .ok (.iconst 0, 1) := by decide +kernel
theorem dX6_takesFactor_71 : decode cX6_takesFactor 71 = .ok (.ireturn, 1) := by decide +kernel
theorem dX6_takesFactor_72 : decode cX6_takesFactor 72 = .ok (.aload_n 0, 1) := by decide +kernel
theorem dX6_takesFactor_73 : decode cX6_takesFactor 73 = .ok (.aload_n 1, 1) := by decide +kernel
theorem dX6_takesFactor_74 : decode cX6_takesFactor 74 = .ok (.iload_n 2, 1) := by decide +kernel
theorem dX6_takesFactor_75 : decode cX6_takesFactor 75 = .ok (.iconst 1, 1) := by decide +kernel
theorem dX6_takesFactor_76 : decode cX6_takesFactor 76 = .ok (.iadd, 1) := by decide +kernel
theorem dX6_takesFactor_77 : decode cX6_takesFactor 77 = .ok (.invokevirtual 124, 3) := by decide +kernel
theorem dX6_takesFactor_80 : decode cX6_takesFactor 80 = .ok (.istore 4, 2) := by decide +kernel
theorem dX6_takesFactor_82 : decode cX6_takesFactor 82 = .ok (.aload_n 1, 1) := by decide +kernel
theorem dX6_takesFactor_83 : decode cX6_takesFactor 83 = .ok (.bipush 33, 2) := by decide +kernel
theorem dX6_takesFactor_85 : decode cX6_takesFactor 85 = .ok (.iconst 0, 1) := by decide +kernel
theorem dX6_takesFactor_86 : decode cX6_takesFactor 86 = .ok (.invokevirtual 127, 3) := by decide +kernel
theorem dX6_takesFactor_89 : decode cX6_takesFactor 89 = .ok (.iload 4, 2) := by decide +kernel
theorem dX6_takesFactor_91 : decode cX6_takesFactor 91 = .ok (.ireturn, 1) := by decide +kernel
theorem oX6_takesFactor_0 : OKI 42 0 (.aload_n 0, 1, [0], 0, 0, []) := And.intro dX6_takesFactor_0 (And.intro rfl (rfl))
theorem oX6_takesFactor_1 : OKI 42 1 (.invokevirtual 38, 4, [32, 1, 8, 0, 0, 1], 0, 0, []) := And.intro dX6_takesFactor_1 (And.intro rfl (And.intro (by decide) (And.intro (by decide) (And.intro mo_X6_next (And.intro (tm_4 _ (List.mem_of_getElem? (i := 18) rfl) rfl) (And.intro (tm_4 _ (List.mem_of_getElem? (i := 20) rfl) rfl) (And.intro (pm_1 _ (List.mem_of_getElem? (i := 14) rfl)) (Or.inl ⟨(RX6, TX6, 3), rfl, rfl⟩))))))))
theorem oX6_takesFactor_4 : OKI 42 4 (.istore_n 3, 5, [3], 0, 0, []) := And.intro dX6_takesFactor_4 (And.intro rfl (And.intro rfl (by decide)))
theorem oX6_takesFactor_5 : OKI 42 5 (.iload_n 3, 6, [3], 0, 0, []) := And.intro dX6_takesFactor_5 (And.intro rfl (rfl))
theorem oX6_takesFactor_6 : OKI 42 6 (.bipush 33, 8, [], 33, 0, []) := And.intro dX6_takesFactor_6 (And.intro rfl (by decide +kernel))
theorem oX6_takesFactor_8 : OKI 42 8 (.if_icmp .eq 15, 11, [23], 0, 0, []) := And.intro dX6_takesFactor_8 (And.intro rfl (by decide))
theorem oX6_takesFactor_11 : OKI 42 11 (.iload_n 3, 12, [3], 0, 0, []) := And.intro dX6_takesFactor_11 (And.intro rfl (rfl))
theorem oX6_takesFactor_12 : OKI 42 12 (.bipush 40, 14, [], 40, 0, []) := And.intro dX6_takesFactor_12 (And.intro rfl (by decide +kernel))
theorem oX6_takesFactor_14 : OKI 42 14 (.if_icmp .eq 9, 17, [23], 0, 0, []) := And.intro dX6_takesFactor_14 (And.intro rfl (by decide))
theorem oX6_takesFactor_17 : OKI 42 17 (.aload_n 0, 18, [0], 0, 0, []) := And.intro dX6_takesFactor_17 (And.intro rfl (rfl))
theorem oX6_takesFactor_18 : OKI 42 18 (.aload_n 1, 19, [1], 0, 0, []) := And.intro dX6_takesFactor_18 (And.intro rfl (rfl))
theorem oX6_takesFactor_19 : OKI 42 19 (.invokevirtual 131, 22, [43, 2, 8, 0, 0, 1], 0, 0, []) := And.intro dX6_takesFactor_19 (And.intro rfl (And.intro (by decide) (And.intro (by decide) (And.intro mo_X6_takesTest (And.intro (tm_4 _ (List.mem_of_getElem? (i := 102) rfl) rfl) (And.intro (tm_4 _ (List.mem_of_getElem? (i := 104) rfl) rfl) (And.intro (pm_2 _ (List.mem_of_getElem? (i := 6) rfl)) (Or.inl ⟨(RX6, TX6, 3), rfl, rfl⟩))))))))
theorem oX6_takesFactor_22 : OKI 42 22 (.ireturn, 23, [3], 0, 0, []) := And.intro dX6_takesFactor_22 (Or.inr (Or.inl (And.intro rfl rfl)))
theorem oX6_takesFactor_23 : OKI 42 23 (.iload_n 2, 24, [2], 0, 0, []) := And.intro dX6_takesFactor_23 (And.intro rfl (rfl))
theorem oX6_takesFactor_24 : OKI 42 24 (.iconst 5, 25, [], 5, 0, []) := And.intro dX6_takesFactor_24 (And.intro rfl (by decide +kernel))
theorem oX6_takesFactor_25 : OKI 42 25 (.if_icmp .lt 5, 28, [30], 0, 0, []) := And.intro dX6_takesFactor_25 (And.intro rfl (by decide))
theorem oX6_takesFactor_28 : OKI 42 28 (.iconst 0, 29, [], 0, 0, []) := And.intro dX6_takesFactor_28 (And.intro rfl (by decide +kernel))
theorem oX6_takesFactor_29 : OKI 42 29 (.ireturn, 30, [3], 0, 0, []) := And.intro dX6_takesFactor_29 (Or.inr (Or.inl (And.intro rfl rfl)))
theorem oX6_takesFactor_30 : OKI 42 30 (.aload_n 0, 31, [0], 0, 0, []) := And.intro dX6_takesFactor_30 (And.intro rfl (rfl))
theorem oX6_takesFactor_31 : OKI 42 31 (.dup, 32, [], 0, 0, []) := And.intro dX6_takesFactor_31 rfl
theorem oX6_takesFactor_32 : OKI 42 32 (.getfield 19, 35, [7, 2, 0], 0, 0, []) := And.intro dX6_takesFactor_32 (And.intro rfl (⟨(RX6, TX6, 3), "SpotTimers$RuleReader", rfl, by decide, tm_1 _ (List.mem_of_getElem? (i := 71) rfl) rfl, Or.inl rfl, Or.inr (Or.inr (And.intro rfl (Or.inl rfl)))⟩))
theorem oX6_takesFactor_35 : OKI 42 35 (.iconst 1, 36, [], 1, 0, []) := And.intro dX6_takesFactor_35 (And.intro rfl (by decide +kernel))
theorem oX6_takesFactor_36 : OKI 42 36 (.iadd, 37, [], 0, 0, []) := And.intro dX6_takesFactor_36 rfl
theorem oX6_takesFactor_37 : OKI 42 37 (.putfield 19, 40, [7, 2, 0], 0, 0, []) := And.intro dX6_takesFactor_37 (And.intro rfl (⟨(RX6, TX6, 3), "SpotTimers$RuleReader", rfl, by decide, tm_1 _ (List.mem_of_getElem? (i := 71) rfl) rfl, Or.inl rfl, Or.inl rfl, rfl⟩))
theorem oX6_takesFactor_40 : OKI 42 40 (.iload_n 3, 41, [3], 0, 0, []) := And.intro dX6_takesFactor_40 (And.intro rfl (rfl))
theorem oX6_takesFactor_41 : OKI 42 41 (.bipush 40, 43, [], 40, 0, []) := And.intro dX6_takesFactor_41 (And.intro rfl (by decide +kernel))
theorem oX6_takesFactor_43 : OKI 42 43 (.if_icmp .ne 29, 46, [72], 0, 0, []) := And.intro dX6_takesFactor_43 (And.intro rfl (by decide))
theorem oX6_takesFactor_46 : OKI 42 46 (.aload_n 0, 47, [0], 0, 0, []) := And.intro dX6_takesFactor_46 (And.intro rfl (rfl))
theorem oX6_takesFactor_47 : OKI 42 47 (.aload_n 1, 48, [1], 0, 0, []) := And.intro dX6_takesFactor_47 (And.intro rfl (rfl))
theorem oX6_takesFactor_48 : OKI 42 48 (.iload_n 2, 49, [2], 0, 0, []) := And.intro dX6_takesFactor_48 (And.intro rfl (rfl))
theorem oX6_takesFactor_49 : OKI 42 49 (.iconst 1, 50, [], 1, 0, []) := And.intro dX6_takesFactor_49 (And.intro rfl (by decide +kernel))
theorem oX6_takesFactor_50 : OKI 42 50 (.iadd, 51, [], 0, 0, []) := And.intro dX6_takesFactor_50 rfl
theorem oX6_takesFactor_51 : OKI 42 51 (.invokevirtual 68, 54, [41, 3, 8, 0, 0, 1], 0, 0, []) := And.intro dX6_takesFactor_51 (And.intro rfl (And.intro (by decide) (And.intro (by decide) (And.intro mo_X6_takesEither (And.intro (tm_4 _ (List.mem_of_getElem? (i := 94) rfl) rfl) (And.intro (tm_4 _ (List.mem_of_getElem? (i := 96) rfl) rfl) (And.intro (pm_2 _ (List.mem_of_getElem? (i := 4) rfl)) (Or.inl ⟨(RX6, TX6, 3), rfl, rfl⟩))))))))
theorem oX6_takesFactor_54 : OKI 42 54 (.ifCond .eq 16, 57, [70], 0, 0, []) := And.intro dX6_takesFactor_54 (And.intro rfl (by decide))
theorem oX6_takesFactor_57 : OKI 42 57 (.aload_n 0, 58, [0], 0, 0, []) := And.intro dX6_takesFactor_57 (And.intro rfl (rfl))
theorem oX6_takesFactor_58 : OKI 42 58 (.ldc 134, 60, [0, 5], 0, 0, []) := And.intro dX6_takesFactor_58 (And.intro rfl (And.intro ⟨_, rfl⟩ rfl))
theorem oX6_takesFactor_60 : OKI 42 60 (.invokevirtual 28, 63, [33, 2, 8, 0, 0, 1], 0, 0, []) := And.intro dX6_takesFactor_60 (And.intro rfl (And.intro (by decide) (And.intro (by decide) (And.intro mo_X6_takes (And.intro (tm_4 _ (List.mem_of_getElem? (i := 23) rfl) rfl) (And.intro (tm_4 _ (List.mem_of_getElem? (i := 25) rfl) rfl) (And.intro (pm_1 _ (List.mem_of_getElem? (i := 15) rfl)) (Or.inl ⟨(RX6, TX6, 3), rfl, rfl⟩))))))))
theorem oX6_takesFactor_63 : OKI 42 63 (.ifCond .eq 7, 66, [70], 0, 0, []) := And.intro dX6_takesFactor_63 (And.intro rfl (by decide))
theorem oX6_takesFactor_66 : OKI 42 66 (.iconst 1, 67, [], 1, 0, []) := And.intro dX6_takesFactor_66 (And.intro rfl (by decide +kernel))
theorem oX6_takesFactor_67 : OKI 42 67 (.goto 4, 70, [71], 0, 0, []) := And.intro dX6_takesFactor_67 (And.intro rfl (by decide))
theorem oX6_takesFactor_70 : OKI 42 70 (.iconst 0, 71, [], 0, 0, []) := And.intro dX6_takesFactor_70 (And.intro rfl (by decide +kernel))
theorem oX6_takesFactor_71 : OKI 42 71 (.ireturn, 72, [3], 0, 0, []) := And.intro dX6_takesFactor_71 (Or.inr (Or.inl (And.intro rfl rfl)))
theorem oX6_takesFactor_72 : OKI 42 72 (.aload_n 0, 73, [0], 0, 0, []) := And.intro dX6_takesFactor_72 (And.intro rfl (rfl))
theorem oX6_takesFactor_73 : OKI 42 73 (.aload_n 1, 74, [1], 0, 0, []) := And.intro dX6_takesFactor_73 (And.intro rfl (rfl))
theorem oX6_takesFactor_74 : OKI 42 74 (.iload_n 2, 75, [2], 0, 0, []) := And.intro dX6_takesFactor_74 (And.intro rfl (rfl))
theorem oX6_takesFactor_75 : OKI 42 75 (.iconst 1, 76, [], 1, 0, []) := And.intro dX6_takesFactor_75 (And.intro rfl (by decide +kernel))
theorem oX6_takesFactor_76 : OKI 42 76 (.iadd, 77, [], 0, 0, []) := And.intro dX6_takesFactor_76 rfl
theorem oX6_takesFactor_77 : OKI 42 77 (.invokevirtual 124, 80, [42, 3, 8, 0, 0, 1], 0, 0, []) := And.intro dX6_takesFactor_77 (And.intro rfl (And.intro (by decide) (And.intro (by decide) (And.intro mo_X6_takesFactor (And.intro (tm_4 _ (List.mem_of_getElem? (i := 98) rfl) rfl) (And.intro (tm_4 _ (List.mem_of_getElem? (i := 100) rfl) rfl) (And.intro (pm_2 _ (List.mem_of_getElem? (i := 5) rfl)) (Or.inl ⟨(RX6, TX6, 3), rfl, rfl⟩))))))))
theorem oX6_takesFactor_80 : OKI 42 80 (.istore 4, 82, [4], 0, 0, []) := And.intro dX6_takesFactor_80 (And.intro rfl (And.intro rfl (by decide)))
theorem oX6_takesFactor_82 : OKI 42 82 (.aload_n 1, 83, [1], 0, 0, []) := And.intro dX6_takesFactor_82 (And.intro rfl (rfl))
theorem oX6_takesFactor_83 : OKI 42 83 (.bipush 33, 85, [], 33, 0, []) := And.intro dX6_takesFactor_83 (And.intro rfl (by decide +kernel))
theorem oX6_takesFactor_85 : OKI 42 85 (.iconst 0, 86, [], 0, 0, []) := And.intro dX6_takesFactor_85 (And.intro rfl (by decide +kernel))
theorem oX6_takesFactor_86 : OKI 42 86 (.invokevirtual 127, 89, [26, 3, 7, 0, 0, 0], 0, 0, []) := And.intro dX6_takesFactor_86 (And.intro rfl (And.intro (by decide) (And.intro (by decide) (And.intro mo_X5_addStep (And.intro (tm_4 _ (List.mem_of_getElem? (i := 107) rfl) rfl) (And.intro (tm_4 _ (List.mem_of_getElem? (i := 108) rfl) rfl) (And.intro (tm_4 _ (List.mem_of_getElem? (i := 109) rfl) rfl) (Or.inl ⟨(RX5, TX5, 13), rfl, rfl⟩))))))))
theorem oX6_takesFactor_89 : OKI 42 89 (.iload 4, 91, [4], 0, 0, []) := And.intro dX6_takesFactor_89 (And.intro rfl (rfl))
theorem oX6_takesFactor_91 : OKI 42 91 (.ireturn, 92, [3], 0, 0, []) := And.intro dX6_takesFactor_91 (Or.inr (Or.inl (And.intro rfl rfl)))
def pfX6_takesFactor (pc : Nat) : Option XE := (bif Nat.blt pc 46 then (bif Nat.blt pc 23 then (bif Nat.blt pc 11 then (bif Nat.blt pc 5 then (bif Nat.blt pc 1 then (bif Nat.beq pc 0 then some (.aload_n 0, 1, [0], 0, 0, []) else none) else (bif Nat.blt pc 4 then (bif Nat.beq pc 1 then some (.invokevirtual 38, 4, [32, 1, 8, 0, 0, 1], 0, 0, []) else none) else (bif Nat.beq pc 4 then some (.istore_n 3, 5, [3], 0, 0, []) else none))) else (bif Nat.blt pc 6 then (bif Nat.beq pc 5 then some (.iload_n 3, 6, [3], 0, 0, []) else none) else (bif Nat.blt pc 8 then (bif Nat.beq pc 6 then some (.bipush 33, 8, [], 33, 0, []) else none) else (bif Nat.beq pc 8 then some (.if_icmp .eq 15, 11, [23], 0, 0, []) else none)))) else (bif Nat.blt pc 17 then (bif Nat.blt pc 12 then (bif Nat.beq pc 11 then some (.iload_n 3, 12, [3], 0, 0, []) else none) else (bif Nat.blt pc 14 then (bif Nat.beq pc 12 then some (.bipush 40, 14, [], 40, 0, []) else none) else (bif Nat.beq pc 14 then some (.if_icmp .eq 9, 17, [23], 0, 0, []) else none))) else (bif Nat.blt pc 19 then (bif Nat.blt pc 18 then (bif Nat.beq pc 17 then some (.aload_n 0, 18, [0], 0, 0, []) else none) else (bif Nat.beq pc 18 then some (.aload_n 1, 19, [1], 0, 0, []) else none)) else (bif Nat.blt pc 22 then (bif Nat.beq pc 19 then some (.invokevirtual 131, 22, [43, 2, 8, 0, 0, 1], 0, 0, []) else none) else (bif Nat.beq pc 22 then some (.ireturn, 23, [3], 0, 0, []) else none))))) else (bif Nat.blt pc 32 then (bif Nat.blt pc 28 then (bif Nat.blt pc 24 then (bif Nat.beq pc 23 then some (.iload_n 2, 24, [2], 0, 0, []) else none) else (bif Nat.blt pc 25 then (bif Nat.beq pc 24 then some (.iconst 5, 25, [], 5, 0, []) else none) else (bif Nat.beq pc 25 then some (.if_icmp .lt 5, 28, [30], 0, 0, []) else none))) else (bif Nat.blt pc 30 then (bif Nat.blt pc 29 then (bif Nat.beq pc 28 then some (.iconst 0, 29, [], 0, 0, []) else none) else (bif Nat.beq pc 29 then some (.ireturn, 30, [3], 0, 0, []) else none)) else (bif Nat.blt pc 31 then (bif Nat.beq pc 30 then some (.aload_n 0, 31, [0], 0, 0, []) else none) else (bif Nat.beq pc 31 then some (.dup, 32, [], 0, 0, []) else none)))) else (bif Nat.blt pc 37 then (bif Nat.blt pc 35 then (bif Nat.beq pc 32 then some (.getfield 19, 35, [7, 2, 0], 0, 0, []) else none) else (bif Nat.blt pc 36 then (bif Nat.beq pc 35 then some (.iconst 1, 36, [], 1, 0, []) else none) else (bif Nat.beq pc 36 then some (.iadd, 37, [], 0, 0, []) else none))) else (bif Nat.blt pc 41 then (bif Nat.blt pc 40 then (bif Nat.beq pc 37 then some (.putfield 19, 40, [7, 2, 0], 0, 0, []) else none) else (bif Nat.beq pc 40 then some (.iload_n 3, 41, [3], 0, 0, []) else none)) else (bif Nat.blt pc 43 then (bif Nat.beq pc 41 then some (.bipush 40, 43, [], 40, 0, []) else none) else (bif Nat.beq pc 43 then some (.if_icmp .ne 29, 46, [72], 0, 0, []) else none)))))) else (bif Nat.blt pc 71 then (bif Nat.blt pc 57 then (bif Nat.blt pc 49 then (bif Nat.blt pc 47 then (bif Nat.beq pc 46 then some (.aload_n 0, 47, [0], 0, 0, []) else none) else (bif Nat.blt pc 48 then (bif Nat.beq pc 47 then some (.aload_n 1, 48, [1], 0, 0, []) else none) else (bif Nat.beq pc 48 then some (.iload_n 2, 49, [2], 0, 0, []) else none))) else (bif Nat.blt pc 51 then (bif Nat.blt pc 50 then (bif Nat.beq pc 49 then some (.iconst 1, 50, [], 1, 0, []) else none) else (bif Nat.beq pc 50 then some (.iadd, 51, [], 0, 0, []) else none)) else (bif Nat.blt pc 54 then (bif Nat.beq pc 51 then some (.invokevirtual 68, 54, [41, 3, 8, 0, 0, 1], 0, 0, []) else none) else (bif Nat.beq pc 54 then some (.ifCond .eq 16, 57, [70], 0, 0, []) else none)))) else (bif Nat.blt pc 63 then (bif Nat.blt pc 58 then (bif Nat.beq pc 57 then some (.aload_n 0, 58, [0], 0, 0, []) else none) else (bif Nat.blt pc 60 then (bif Nat.beq pc 58 then some (.ldc 134, 60, [0, 5], 0, 0, []) else none) else (bif Nat.beq pc 60 then some (.invokevirtual 28, 63, [33, 2, 8, 0, 0, 1], 0, 0, []) else none))) else (bif Nat.blt pc 67 then (bif Nat.blt pc 66 then (bif Nat.beq pc 63 then some (.ifCond .eq 7, 66, [70], 0, 0, []) else none) else (bif Nat.beq pc 66 then some (.iconst 1, 67, [], 1, 0, []) else none)) else (bif Nat.blt pc 70 then (bif Nat.beq pc 67 then some (.goto 4, 70, [71], 0, 0, []) else none) else (bif Nat.beq pc 70 then some (.iconst 0, 71, [], 0, 0, []) else none))))) else (bif Nat.blt pc 80 then (bif Nat.blt pc 74 then (bif Nat.blt pc 72 then (bif Nat.beq pc 71 then some (.ireturn, 72, [3], 0, 0, []) else none) else (bif Nat.blt pc 73 then (bif Nat.beq pc 72 then some (.aload_n 0, 73, [0], 0, 0, []) else none) else (bif Nat.beq pc 73 then some (.aload_n 1, 74, [1], 0, 0, []) else none))) else (bif Nat.blt pc 76 then (bif Nat.blt pc 75 then (bif Nat.beq pc 74 then some (.iload_n 2, 75, [2], 0, 0, []) else none) else (bif Nat.beq pc 75 then some (.iconst 1, 76, [], 1, 0, []) else none)) else (bif Nat.blt pc 77 then (bif Nat.beq pc 76 then some (.iadd, 77, [], 0, 0, []) else none) else (bif Nat.beq pc 77 then some (.invokevirtual 124, 80, [42, 3, 8, 0, 0, 1], 0, 0, []) else none)))) else (bif Nat.blt pc 85 then (bif Nat.blt pc 82 then (bif Nat.beq pc 80 then some (.istore 4, 82, [4], 0, 0, []) else none) else (bif Nat.blt pc 83 then (bif Nat.beq pc 82 then some (.aload_n 1, 83, [1], 0, 0, []) else none) else (bif Nat.beq pc 83 then some (.bipush 33, 85, [], 33, 0, []) else none))) else (bif Nat.blt pc 89 then (bif Nat.blt pc 86 then (bif Nat.beq pc 85 then some (.iconst 0, 86, [], 0, 0, []) else none) else (bif Nat.beq pc 86 then some (.invokevirtual 127, 89, [26, 3, 7, 0, 0, 0], 0, 0, []) else none)) else (bif Nat.blt pc 91 then (bif Nat.beq pc 89 then some (.iload 4, 91, [4], 0, 0, []) else none) else (bif Nat.beq pc 91 then some (.ireturn, 92, [3], 0, 0, []) else none)))))))
theorem okX6_takesFactor : ∀ pc Y, pfX6_takesFactor pc = some Y → OKI m_X6_takesFactor pc Y := fun pc Y => ((bt_node (bt_node (bt_node (bt_node (bt_node (bt_leaf (P := OKI m_X6_takesFactor) oX6_takesFactor_0) (bt_node (bt_leaf (P := OKI m_X6_takesFactor) oX6_takesFactor_1) (bt_leaf (P := OKI m_X6_takesFactor) oX6_takesFactor_4))) (bt_node (bt_leaf (P := OKI m_X6_takesFactor) oX6_takesFactor_5) (bt_node (bt_leaf (P := OKI m_X6_takesFactor) oX6_takesFactor_6) (bt_leaf (P := OKI m_X6_takesFactor) oX6_takesFactor_8)))) (bt_node (bt_node (bt_leaf (P := OKI m_X6_takesFactor) oX6_takesFactor_11) (bt_node (bt_leaf (P := OKI m_X6_takesFactor) oX6_takesFactor_12) (bt_leaf (P := OKI m_X6_takesFactor) oX6_takesFactor_14))) (bt_node (bt_node (bt_leaf (P := OKI m_X6_takesFactor) oX6_takesFactor_17) (bt_leaf (P := OKI m_X6_takesFactor) oX6_takesFactor_18)) (bt_node (bt_leaf (P := OKI m_X6_takesFactor) oX6_takesFactor_19) (bt_leaf (P := OKI m_X6_takesFactor) oX6_takesFactor_22))))) (bt_node (bt_node (bt_node (bt_leaf (P := OKI m_X6_takesFactor) oX6_takesFactor_23) (bt_node (bt_leaf (P := OKI m_X6_takesFactor) oX6_takesFactor_24) (bt_leaf (P := OKI m_X6_takesFactor) oX6_takesFactor_25))) (bt_node (bt_node (bt_leaf (P := OKI m_X6_takesFactor) oX6_takesFactor_28) (bt_leaf (P := OKI m_X6_takesFactor) oX6_takesFactor_29)) (bt_node (bt_leaf (P := OKI m_X6_takesFactor) oX6_takesFactor_30) (bt_leaf (P := OKI m_X6_takesFactor) oX6_takesFactor_31)))) (bt_node (bt_node (bt_leaf (P := OKI m_X6_takesFactor) oX6_takesFactor_32) (bt_node (bt_leaf (P := OKI m_X6_takesFactor) oX6_takesFactor_35) (bt_leaf (P := OKI m_X6_takesFactor) oX6_takesFactor_36))) (bt_node (bt_node (bt_leaf (P := OKI m_X6_takesFactor) oX6_takesFactor_37) (bt_leaf (P := OKI m_X6_takesFactor) oX6_takesFactor_40)) (bt_node (bt_leaf (P := OKI m_X6_takesFactor) oX6_takesFactor_41) (bt_leaf (P := OKI m_X6_takesFactor) oX6_takesFactor_43)))))) (bt_node (bt_node (bt_node (bt_node (bt_leaf (P := OKI m_X6_takesFactor) oX6_takesFactor_46) (bt_node (bt_leaf (P := OKI m_X6_takesFactor) oX6_takesFactor_47) (bt_leaf (P := OKI m_X6_takesFactor) oX6_takesFactor_48))) (bt_node (bt_node (bt_leaf (P := OKI m_X6_takesFactor) oX6_takesFactor_49) (bt_leaf (P := OKI m_X6_takesFactor) oX6_takesFactor_50)) (bt_node (bt_leaf (P := OKI m_X6_takesFactor) oX6_takesFactor_51) (bt_leaf (P := OKI m_X6_takesFactor) oX6_takesFactor_54)))) (bt_node (bt_node (bt_leaf (P := OKI m_X6_takesFactor) oX6_takesFactor_57) (bt_node (bt_leaf (P := OKI m_X6_takesFactor) oX6_takesFactor_58) (bt_leaf (P := OKI m_X6_takesFactor) oX6_takesFactor_60))) (bt_node (bt_node (bt_leaf (P := OKI m_X6_takesFactor) oX6_takesFactor_63) (bt_leaf (P := OKI m_X6_takesFactor) oX6_takesFactor_66)) (bt_node (bt_leaf (P := OKI m_X6_takesFactor) oX6_takesFactor_67) (bt_leaf (P := OKI m_X6_takesFactor) oX6_takesFactor_70))))) (bt_node (bt_node (bt_node (bt_leaf (P := OKI m_X6_takesFactor) oX6_takesFactor_71) (bt_node (bt_leaf (P := OKI m_X6_takesFactor) oX6_takesFactor_72) (bt_leaf (P := OKI m_X6_takesFactor) oX6_takesFactor_73))) (bt_node (bt_node (bt_leaf (P := OKI m_X6_takesFactor) oX6_takesFactor_74) (bt_leaf (P := OKI m_X6_takesFactor) oX6_takesFactor_75)) (bt_node (bt_leaf (P := OKI m_X6_takesFactor) oX6_takesFactor_76) (bt_leaf (P := OKI m_X6_takesFactor) oX6_takesFactor_77)))) (bt_node (bt_node (bt_leaf (P := OKI m_X6_takesFactor) oX6_takesFactor_80) (bt_node (bt_leaf (P := OKI m_X6_takesFactor) oX6_takesFactor_82) (bt_leaf (P := OKI m_X6_takesFactor) oX6_takesFactor_83))) (bt_node (bt_node (bt_leaf (P := OKI m_X6_takesFactor) oX6_takesFactor_85) (bt_leaf (P := OKI m_X6_takesFactor) oX6_takesFactor_86)) (bt_node (bt_leaf (P := OKI m_X6_takesFactor) oX6_takesFactor_89) (bt_leaf (P := OKI m_X6_takesFactor) oX6_takesFactor_91))))))) : pfX6_takesFactor pc = some Y → OKI m_X6_takesFactor pc Y)
def stpX6_takesFactor (pc : Nat) : Option (List Bool) := (bif Nat.blt pc 70 then (bif Nat.beq pc 23 then some [true, true, true, true, false] else none) else (bif Nat.blt pc 71 then (bif Nat.beq pc 70 then some [false, false, false, false, false] else none) else (bif Nat.beq pc 71 then some [false, false, false, false, false] else none)))
def bX6_takesFactor_0 (d rc rs : Nat) (t : Nat) (a1 : Option XO) (a2 : Int32) (σ : XH) (Q : XV → XH → Prop) : Prop :=
  ((1 ≤ d ∧ Ec (d - 1) 0 0 m_X6_next [vR (some (7, t))] σ (kI fun x2 h1 => ((x2 = 33 → Ex d rc rs m_X6_takesFactor 23 [vR (some (7, t)), vR a1, vI a2, vI x2, vU] [] h1 Q) ∧ (¬ x2 = 33 → ((x2 = 40 → Ex d rc rs m_X6_takesFactor 23 [vR (some (7, t)), vR a1, vI a2, vI x2, vU] [] h1 Q) ∧ (¬ x2 = 40 → ((1 ≤ d ∧ Ec (d - 1) 0 0 m_X6_takesTest [vR (some (7, t)), vR a1] h1 (kI fun x4 h3 => ((x4 = 0 ∨ x4 = 1) ∧ Q (vI x4) h3)))))))))))
theorem sX6_takesFactor_0 {d rc rs : Nat} {t : Nat} {a1 : Option XO} {a2 : Int32} {σ : XH} {Q : XV → XH → Prop} (h : bX6_takesFactor_0 d rc rs t a1 a2 σ Q) : Ex d rc rs m_X6_takesFactor 0 [vR (some (7, t)), vR a1, vI a2, vU, vU] [] σ Q :=
  xtree_sound (stop := stpX6_takesFactor) okX6_takesFactor 15 _ _ _ _ _ _ h
def bX6_takesFactor_23 (d rc rs : Nat) (t : Nat) (l1 : Option XO) (l2 : Int32) (l3 : Int32) (σ : XH) (Q : XV → XH → Prop) : Prop :=
  ((l2 < 5 → (((∀ h1, h1 = wI σ 7 t 2 ((hi σ 7 t 2) + 1) → ((l3 = 40 → ((1 ≤ d ∧ Ec (d - 1) 0 0 m_X6_takesEither [vR (some (7, t)), vR l1, vI (l2 + 1)] h1 (kI fun x7 h6 => ((x7 = 0 → Ex d rc rs m_X6_takesFactor 70 [vU, vU, vU, vU, vU] [] h6 Q) ∧ (¬ x7 = 0 → ((1 ≤ d ∧ Ec (d - 1) 0 0 m_X6_takes [vR (some (7, t)), vR (some (512, 5))] h6 (kI fun x9 h8 => ((x9 = 0 → Ex d rc rs m_X6_takesFactor 70 [vU, vU, vU, vU, vU] [] h8 Q) ∧ (¬ x9 = 0 → Ex d rc rs m_X6_takesFactor 71 [vU, vU, vU, vU, vU] [vI 1] h8 Q))))))))))) ∧ (¬ l3 = 40 → ((1 ≤ d ∧ Ec (d - 1) 0 0 m_X6_takesFactor [vR (some (7, t)), vR l1, vI (l2 + 1)] h1 (kI fun x3 h2 => (drf l1 6 fun i5 => (1 ≤ d ∧ Ec (d - 1) 0 0 m_X5_addStep [vR (some (6, i5)), vI 33, vI 0] h2 (kU fun h4 => ((x3 = 0 ∨ x3 = 1) ∧ Q (vI x3) h4))))))))))))) ∧ (¬ l2 < 5 → (((0 : Int32) = 0 ∨ (0 : Int32) = 1) ∧ Q (vI 0) σ)))
theorem sX6_takesFactor_23 {d rc rs : Nat} {t : Nat} {l1 : Option XO} {l2 : Int32} {l3 : Int32} {σ : XH} {Q : XV → XH → Prop} (h : bX6_takesFactor_23 d rc rs t l1 l2 l3 σ Q) : Ex d rc rs m_X6_takesFactor 23 [vR (some (7, t)), vR l1, vI l2, vI l3, vU] [] σ Q :=
  xtree_sound (stop := stpX6_takesFactor) okX6_takesFactor 27 _ _ _ _ _ _ h
def bX6_takesFactor_70 (d rc rs : Nat)  (σ : XH) (Q : XV → XH → Prop) : Prop :=
  Ex d rc rs m_X6_takesFactor 71 [vU, vU, vU, vU, vU] [vI 0] σ Q
theorem sX6_takesFactor_70 {d rc rs : Nat}  {σ : XH} {Q : XV → XH → Prop} (h : bX6_takesFactor_70 d rc rs  σ Q) : Ex d rc rs m_X6_takesFactor 70 [vU, vU, vU, vU, vU] [] σ Q :=
  xtree_sound (stop := stpX6_takesFactor) okX6_takesFactor 3 _ _ _ _ _ _ h
def bX6_takesFactor_71 (d rc rs : Nat) (q0 : Int32) (σ : XH) (Q : XV → XH → Prop) : Prop :=
  ((q0 = 0 ∨ q0 = 1) ∧ Q (vI q0) σ)
theorem sX6_takesFactor_71 {d rc rs : Nat} {q0 : Int32} {σ : XH} {Q : XV → XH → Prop} (h : bX6_takesFactor_71 d rc rs q0 σ Q) : Ex d rc rs m_X6_takesFactor 71 [vU, vU, vU, vU, vU] [vI q0] σ Q :=
  xtree_sound (stop := stpX6_takesFactor) okX6_takesFactor 3 _ _ _ _ _ _ h
/-! SpotTimers$RuleReader.takesTest(LSpotTimers$Rule;)Z -/
theorem dX6_takesTest_0 : decode cX6_takesTest 0 = .ok (.aload_n 0, 1) := by decide +kernel
theorem dX6_takesTest_1 : decode cX6_takesTest 1 = .ok (.invokevirtual 38, 3) := by decide +kernel
theorem dX6_takesTest_4 : decode cX6_takesTest 4 = .ok (.istore_n 2, 1) := by decide +kernel
theorem dX6_takesTest_5 : decode cX6_takesTest 5 = .ok (.iconst 4, 1) := by decide +kernel
theorem dX6_takesTest_6 : decode cX6_takesTest 6 = .ok (.istore_n 3, 1) := by decide +kernel
theorem dX6_takesTest_7 : decode cX6_takesTest 7 = .ok (.iload_n 2, 1) := by decide +kernel
theorem dX6_takesTest_8 : decode cX6_takesTest 8 = .ok (.lookupswitch 118 #[(101, 52), (104, 52), (107, 52), (115, 52), (116, 73)], 52) := by decide +kernel
theorem dX6_takesTest_60 : decode cX6_takesTest 60 = .ok (.aload_n 0, 1) := by decide +kernel
theorem dX6_takesTest_61 : decode cX6_takesTest 61 = .ok (.dup, 1) := by decide +kernel
theorem dX6_takesTest_62 : decode cX6_takesTest 62 = .ok (.getfield 19, 3) := by decide +kernel
theorem dX6_takesTest_65 : decode cX6_takesTest 65 = .ok (.iconst 1, 1) := by decide +kernel
theorem dX6_takesTest_66 : decode cX6_takesTest 66 = .ok (.iadd, 1) := by decide +kernel
theorem dX6_takesTest_67 : decode cX6_takesTest 67 = .ok (.putfield 19, 3) := by decide +kernel
theorem dX6_takesTest_70 : decode cX6_takesTest 70 = .ok (.aload_n 0, 1) := by decide +kernel
theorem dX6_takesTest_71 : decode cX6_takesTest 71 = .ok (.ldc 136, 2) := by decide +kernel
theorem dX6_takesTest_73 : decode cX6_takesTest 73 = .ok (.invokevirtual 28, 3) := by decide +kernel
theorem dX6_takesTest_76 : decode cX6_takesTest 76 = .ok (.ifCond .ne 52, 3) := by decide +kernel
theorem dX6_takesTest_79 : decode cX6_takesTest 79 = .ok (.iconst 0, 1) := by decide +kernel
theorem dX6_takesTest_80 : decode cX6_takesTest 80 = .ok (.ireturn, 1) := by decide +kernel
theorem dX6_takesTest_81 : decode cX6_takesTest 81 = .ok (.aload_n 0, 1) := by decide +kernel
theorem dX6_takesTest_82 : decode cX6_takesTest 82 = .ok (.dup, 1) := by decide +kernel
theorem dX6_takesTest_83 : decode cX6_takesTest 83 = .ok (.getfield 19, 3) := by decide +kernel
theorem dX6_takesTest_86 : decode cX6_takesTest 86 = .ok (.iconst 1, 1) := by decide +kernel
theorem dX6_takesTest_87 : decode cX6_takesTest 87 = .ok (.iadd, 1) := by decide +kernel
theorem dX6_takesTest_88 : decode cX6_takesTest 88 = .ok (.putfield 19, 3) := by decide +kernel
theorem dX6_takesTest_91 : decode cX6_takesTest 91 = .ok (.aload_n 0, 1) := by decide +kernel
theorem dX6_takesTest_92 : decode cX6_takesTest 92 = .ok (.invokevirtual 38, 3) := by decide +kernel
theorem dX6_takesTest_95 : decode cX6_takesTest 95 = .ok (.istore_n 2, 1) := by decide +kernel
theorem dX6_takesTest_96 : decode cX6_takesTest 96 = .ok (.bipush 6, 2) := by decide +kernel
theorem dX6_takesTest_98 : decode cX6_takesTest 98 = .ok (.istore_n 3, 1) := by decide +kernel
theorem dX6_takesTest_99 : decode cX6_takesTest 99 = .ok (.iload_n 2, 1) := by decide +kernel
theorem dX6_takesTest_100 : decode cX6_takesTest 100 = .ok (.bipush 60, 2) := by decide +kernel
theorem dX6_takesTest_102 : decode cX6_takesTest 102 = .ok (.if_icmp .eq 11, 3) := by decide +kernel
theorem dX6_takesTest_105 : decode cX6_takesTest 105 = .ok (.iload_n 2, 1) := by decide +kernel
theorem dX6_takesTest_106 : decode cX6_takesTest 106 = .ok (.bipush 62, 2) := by decide +kernel
theorem dX6_takesTest_108 : decode cX6_takesTest 108 = .ok (.if_icmp .eq 5, 3) := by decide +kernel
theorem dX6_takesTest_111 : decode cX6_takesTest 111 = .ok (.iconst 0, 1) := by decide +kernel
theorem dX6_takesTest_112 : decode cX6_takesTest 112 = .ok (.ireturn, 1) := by decide +kernel
theorem dX6_takesTest_113 : decode cX6_takesTest 113 = .ok (.aload_n 0, 1) := by decide +kernel
theorem dX6_takesTest_114 : decode cX6_takesTest 114 = .ok (.dup, 1) := by decide +kernel
theorem dX6_takesTest_115 : decode cX6_takesTest 115 = .ok (.getfield 19, 3) := by decide +kernel
theorem dX6_takesTest_118 : decode cX6_takesTest 118 = .ok (.iconst 1, 1) := by decide +kernel
theorem dX6_takesTest_119 : decode cX6_takesTest 119 = .ok (.iadd, 1) := by decide +kernel
theorem dX6_takesTest_120 : decode cX6_takesTest 120 = .ok (.putfield 19, 3) := by decide +kernel
theorem dX6_takesTest_123 : decode cX6_takesTest 123 = .ok (.goto 5, 3) := by decide +kernel
theorem dX6_takesTest_126 : decode cX6_takesTest 126 = .ok (.iconst 0, 1) := by decide +kernel
theorem dX6_takesTest_127 : decode cX6_takesTest 127 = .ok (.ireturn, 1) := by decide +kernel
theorem dX6_takesTest_128 : decode cX6_takesTest 128 = .ok (.aload_n 0, 1) := by decide +kernel
theorem dX6_takesTest_129 : decode cX6_takesTest 129 = .ok (.iload_n 3, 1) := by decide +kernel
theorem dX6_takesTest_130 : decode cX6_takesTest 130 = .ok (.invokevirtual 117, 3) := by decide +kernel
theorem dX6_takesTest_133 : decode cX6_takesTest 133 = .ok (.istore 4, 2) := by decide +kernel
theorem dX6_takesTest_135 : decode cX6_takesTest 135 = .ok (.aload_n 1, 1) := by decide +kernel
theorem dX6_takesTest_136 : decode cX6_takesTest 136 = .ok (.iload_n 2, 1) := by decide +kernel
theorem dX6_takesTest_137 : decode cX6_takesTest 137 = .ok (.iload 4, 2) := by decide +kernel
theorem dX6_takesTest_139 : decode cX6_takesTest 139 = .ok (.invokevirtual 127, 3) := by decide +kernel
theorem dX6_takesTest_142 : decode cX6_takesTest 142 = .ok (.iload 4, 2) := by decide +kernel
theorem dX6_takesTest_144 : decode cX6_takesTest 144 = .ok (.ifCond .lt 7, 3) := by decide +kernel
theorem dX6_takesTest_147 : decode cX6_takesTest 147 = .ok (.iconst 1, 1) := by decide +kernel
theorem dX6_takesTest_148 : decode cX6_takesTest 148 = .ok (.goto 4, 3) := by decide +kernel
theorem dX6_takesTest_151 : decode cX6_takesTest 151 = .ok (.iconst 0, 1) := by decide +kernel
theorem dX6_takesTest_152 : decode cX6_takesTest 152 = .ok (.ireturn, 1) := by decide +kernel
theorem oX6_takesTest_0 : OKI 43 0 (.aload_n 0, 1, [0], 0, 0, []) := And.intro dX6_takesTest_0 (And.intro rfl (rfl))
theorem oX6_takesTest_1 : OKI 43 1 (.invokevirtual 38, 4, [32, 1, 8, 0, 0, 1], 0, 0, []) := And.intro dX6_takesTest_1 (And.intro rfl (And.intro (by decide) (And.intro (by decide) (And.intro mo_X6_next (And.intro (tm_4 _ (List.mem_of_getElem? (i := 18) rfl) rfl) (And.intro (tm_4 _ (List.mem_of_getElem? (i := 20) rfl) rfl) (And.intro (pm_1 _ (List.mem_of_getElem? (i := 14) rfl)) (Or.inl ⟨(RX6, TX6, 3), rfl, rfl⟩))))))))
theorem oX6_takesTest_4 : OKI 43 4 (.istore_n 2, 5, [2], 0, 0, []) := And.intro dX6_takesTest_4 (And.intro rfl (And.intro rfl (by decide)))
theorem oX6_takesTest_5 : OKI 43 5 (.iconst 4, 6, [], 4, 0, []) := And.intro dX6_takesTest_5 (And.intro rfl (by decide +kernel))
theorem oX6_takesTest_6 : OKI 43 6 (.istore_n 3, 7, [3], 0, 0, []) := And.intro dX6_takesTest_6 (And.intro rfl (And.intro rfl (by decide)))
theorem oX6_takesTest_7 : OKI 43 7 (.iload_n 2, 8, [2], 0, 0, []) := And.intro dX6_takesTest_7 (And.intro rfl (rfl))
theorem oX6_takesTest_8 : OKI 43 8 (.lookupswitch 118 #[(101, 52), (104, 52), (107, 52), (115, 52), (116, 73)], 60, [126], 0, 0, [(101, 60), (104, 60), (107, 60), (115, 60), (116, 81)]) := And.intro ⟨_, dX6_takesTest_8⟩ (by decide +kernel)
theorem oX6_takesTest_60 : OKI 43 60 (.aload_n 0, 61, [0], 0, 0, []) := And.intro dX6_takesTest_60 (And.intro rfl (rfl))
theorem oX6_takesTest_61 : OKI 43 61 (.dup, 62, [], 0, 0, []) := And.intro dX6_takesTest_61 rfl
theorem oX6_takesTest_62 : OKI 43 62 (.getfield 19, 65, [7, 2, 0], 0, 0, []) := And.intro dX6_takesTest_62 (And.intro rfl (⟨(RX6, TX6, 3), "SpotTimers$RuleReader", rfl, by decide, tm_1 _ (List.mem_of_getElem? (i := 71) rfl) rfl, Or.inl rfl, Or.inr (Or.inr (And.intro rfl (Or.inl rfl)))⟩))
theorem oX6_takesTest_65 : OKI 43 65 (.iconst 1, 66, [], 1, 0, []) := And.intro dX6_takesTest_65 (And.intro rfl (by decide +kernel))
theorem oX6_takesTest_66 : OKI 43 66 (.iadd, 67, [], 0, 0, []) := And.intro dX6_takesTest_66 rfl
theorem oX6_takesTest_67 : OKI 43 67 (.putfield 19, 70, [7, 2, 0], 0, 0, []) := And.intro dX6_takesTest_67 (And.intro rfl (⟨(RX6, TX6, 3), "SpotTimers$RuleReader", rfl, by decide, tm_1 _ (List.mem_of_getElem? (i := 71) rfl) rfl, Or.inl rfl, Or.inl rfl, rfl⟩))
theorem oX6_takesTest_70 : OKI 43 70 (.aload_n 0, 71, [0], 0, 0, []) := And.intro dX6_takesTest_70 (And.intro rfl (rfl))
theorem oX6_takesTest_71 : OKI 43 71 (.ldc 136, 73, [0, 4], 0, 0, []) := And.intro dX6_takesTest_71 (And.intro rfl (And.intro ⟨_, rfl⟩ rfl))
theorem oX6_takesTest_73 : OKI 43 73 (.invokevirtual 28, 76, [33, 2, 8, 0, 0, 1], 0, 0, []) := And.intro dX6_takesTest_73 (And.intro rfl (And.intro (by decide) (And.intro (by decide) (And.intro mo_X6_takes (And.intro (tm_4 _ (List.mem_of_getElem? (i := 23) rfl) rfl) (And.intro (tm_4 _ (List.mem_of_getElem? (i := 25) rfl) rfl) (And.intro (pm_1 _ (List.mem_of_getElem? (i := 15) rfl)) (Or.inl ⟨(RX6, TX6, 3), rfl, rfl⟩))))))))
theorem oX6_takesTest_76 : OKI 43 76 (.ifCond .ne 52, 79, [128], 0, 0, []) := And.intro dX6_takesTest_76 (And.intro rfl (by decide))
theorem oX6_takesTest_79 : OKI 43 79 (.iconst 0, 80, [], 0, 0, []) := And.intro dX6_takesTest_79 (And.intro rfl (by decide +kernel))
theorem oX6_takesTest_80 : OKI 43 80 (.ireturn, 81, [3], 0, 0, []) := And.intro dX6_takesTest_80 (Or.inr (Or.inl (And.intro rfl rfl)))
theorem oX6_takesTest_81 : OKI 43 81 (.aload_n 0, 82, [0], 0, 0, []) := And.intro dX6_takesTest_81 (And.intro rfl (rfl))
theorem oX6_takesTest_82 : OKI 43 82 (.dup, 83, [], 0, 0, []) := And.intro dX6_takesTest_82 rfl
theorem oX6_takesTest_83 : OKI 43 83 (.getfield 19, 86, [7, 2, 0], 0, 0, []) := And.intro dX6_takesTest_83 (And.intro rfl (⟨(RX6, TX6, 3), "SpotTimers$RuleReader", rfl, by decide, tm_1 _ (List.mem_of_getElem? (i := 71) rfl) rfl, Or.inl rfl, Or.inr (Or.inr (And.intro rfl (Or.inl rfl)))⟩))
theorem oX6_takesTest_86 : OKI 43 86 (.iconst 1, 87, [], 1, 0, []) := And.intro dX6_takesTest_86 (And.intro rfl (by decide +kernel))
theorem oX6_takesTest_87 : OKI 43 87 (.iadd, 88, [], 0, 0, []) := And.intro dX6_takesTest_87 rfl
theorem oX6_takesTest_88 : OKI 43 88 (.putfield 19, 91, [7, 2, 0], 0, 0, []) := And.intro dX6_takesTest_88 (And.intro rfl (⟨(RX6, TX6, 3), "SpotTimers$RuleReader", rfl, by decide, tm_1 _ (List.mem_of_getElem? (i := 71) rfl) rfl, Or.inl rfl, Or.inl rfl, rfl⟩))
theorem oX6_takesTest_91 : OKI 43 91 (.aload_n 0, 92, [0], 0, 0, []) := And.intro dX6_takesTest_91 (And.intro rfl (rfl))
theorem oX6_takesTest_92 : OKI 43 92 (.invokevirtual 38, 95, [32, 1, 8, 0, 0, 1], 0, 0, []) := And.intro dX6_takesTest_92 (And.intro rfl (And.intro (by decide) (And.intro (by decide) (And.intro mo_X6_next (And.intro (tm_4 _ (List.mem_of_getElem? (i := 18) rfl) rfl) (And.intro (tm_4 _ (List.mem_of_getElem? (i := 20) rfl) rfl) (And.intro (pm_1 _ (List.mem_of_getElem? (i := 14) rfl)) (Or.inl ⟨(RX6, TX6, 3), rfl, rfl⟩))))))))
theorem oX6_takesTest_95 : OKI 43 95 (.istore_n 2, 96, [2], 0, 0, []) := And.intro dX6_takesTest_95 (And.intro rfl (And.intro rfl (by decide)))
theorem oX6_takesTest_96 : OKI 43 96 (.bipush 6, 98, [], 6, 0, []) := And.intro dX6_takesTest_96 (And.intro rfl (by decide +kernel))
theorem oX6_takesTest_98 : OKI 43 98 (.istore_n 3, 99, [3], 0, 0, []) := And.intro dX6_takesTest_98 (And.intro rfl (And.intro rfl (by decide)))
theorem oX6_takesTest_99 : OKI 43 99 (.iload_n 2, 100, [2], 0, 0, []) := And.intro dX6_takesTest_99 (And.intro rfl (rfl))
theorem oX6_takesTest_100 : OKI 43 100 (.bipush 60, 102, [], 60, 0, []) := And.intro dX6_takesTest_100 (And.intro rfl (by decide +kernel))
theorem oX6_takesTest_102 : OKI 43 102 (.if_icmp .eq 11, 105, [113], 0, 0, []) := And.intro dX6_takesTest_102 (And.intro rfl (by decide))
theorem oX6_takesTest_105 : OKI 43 105 (.iload_n 2, 106, [2], 0, 0, []) := And.intro dX6_takesTest_105 (And.intro rfl (rfl))
theorem oX6_takesTest_106 : OKI 43 106 (.bipush 62, 108, [], 62, 0, []) := And.intro dX6_takesTest_106 (And.intro rfl (by decide +kernel))
theorem oX6_takesTest_108 : OKI 43 108 (.if_icmp .eq 5, 111, [113], 0, 0, []) := And.intro dX6_takesTest_108 (And.intro rfl (by decide))
theorem oX6_takesTest_111 : OKI 43 111 (.iconst 0, 112, [], 0, 0, []) := And.intro dX6_takesTest_111 (And.intro rfl (by decide +kernel))
theorem oX6_takesTest_112 : OKI 43 112 (.ireturn, 113, [3], 0, 0, []) := And.intro dX6_takesTest_112 (Or.inr (Or.inl (And.intro rfl rfl)))
theorem oX6_takesTest_113 : OKI 43 113 (.aload_n 0, 114, [0], 0, 0, []) := And.intro dX6_takesTest_113 (And.intro rfl (rfl))
theorem oX6_takesTest_114 : OKI 43 114 (.dup, 115, [], 0, 0, []) := And.intro dX6_takesTest_114 rfl
theorem oX6_takesTest_115 : OKI 43 115 (.getfield 19, 118, [7, 2, 0], 0, 0, []) := And.intro dX6_takesTest_115 (And.intro rfl (⟨(RX6, TX6, 3), "SpotTimers$RuleReader", rfl, by decide, tm_1 _ (List.mem_of_getElem? (i := 71) rfl) rfl, Or.inl rfl, Or.inr (Or.inr (And.intro rfl (Or.inl rfl)))⟩))
theorem oX6_takesTest_118 : OKI 43 118 (.iconst 1, 119, [], 1, 0, []) := And.intro dX6_takesTest_118 (And.intro rfl (by decide +kernel))
theorem oX6_takesTest_119 : OKI 43 119 (.iadd, 120, [], 0, 0, []) := And.intro dX6_takesTest_119 rfl
theorem oX6_takesTest_120 : OKI 43 120 (.putfield 19, 123, [7, 2, 0], 0, 0, []) := And.intro dX6_takesTest_120 (And.intro rfl (⟨(RX6, TX6, 3), "SpotTimers$RuleReader", rfl, by decide, tm_1 _ (List.mem_of_getElem? (i := 71) rfl) rfl, Or.inl rfl, Or.inl rfl, rfl⟩))
theorem oX6_takesTest_123 : OKI 43 123 (.goto 5, 126, [128], 0, 0, []) := And.intro dX6_takesTest_123 (And.intro rfl (by decide))
theorem oX6_takesTest_126 : OKI 43 126 (.iconst 0, 127, [], 0, 0, []) := And.intro dX6_takesTest_126 (And.intro rfl (by decide +kernel))
theorem oX6_takesTest_127 : OKI 43 127 (.ireturn, 128, [3], 0, 0, []) := And.intro dX6_takesTest_127 (Or.inr (Or.inl (And.intro rfl rfl)))
theorem oX6_takesTest_128 : OKI 43 128 (.aload_n 0, 129, [0], 0, 0, []) := And.intro dX6_takesTest_128 (And.intro rfl (rfl))
theorem oX6_takesTest_129 : OKI 43 129 (.iload_n 3, 130, [3], 0, 0, []) := And.intro dX6_takesTest_129 (And.intro rfl (rfl))
theorem oX6_takesTest_130 : OKI 43 130 (.invokevirtual 117, 133, [34, 2, 8, 0, 0, 1], 0, 0, []) := And.intro dX6_takesTest_130 (And.intro rfl (And.intro (by decide) (And.intro (by decide) (And.intro mo_X6_takesDigits (And.intro (tm_4 _ (List.mem_of_getElem? (i := 88) rfl) rfl) (And.intro (tm_4 _ (List.mem_of_getElem? (i := 90) rfl) rfl) (And.intro (pm_2 _ (List.mem_of_getElem? (i := 3) rfl)) (Or.inl ⟨(RX6, TX6, 3), rfl, rfl⟩))))))))
theorem oX6_takesTest_133 : OKI 43 133 (.istore 4, 135, [4], 0, 0, []) := And.intro dX6_takesTest_133 (And.intro rfl (And.intro rfl (by decide)))
theorem oX6_takesTest_135 : OKI 43 135 (.aload_n 1, 136, [1], 0, 0, []) := And.intro dX6_takesTest_135 (And.intro rfl (rfl))
theorem oX6_takesTest_136 : OKI 43 136 (.iload_n 2, 137, [2], 0, 0, []) := And.intro dX6_takesTest_136 (And.intro rfl (rfl))
theorem oX6_takesTest_137 : OKI 43 137 (.iload 4, 139, [4], 0, 0, []) := And.intro dX6_takesTest_137 (And.intro rfl (rfl))
theorem oX6_takesTest_139 : OKI 43 139 (.invokevirtual 127, 142, [26, 3, 7, 0, 0, 0], 0, 0, []) := And.intro dX6_takesTest_139 (And.intro rfl (And.intro (by decide) (And.intro (by decide) (And.intro mo_X5_addStep (And.intro (tm_4 _ (List.mem_of_getElem? (i := 107) rfl) rfl) (And.intro (tm_4 _ (List.mem_of_getElem? (i := 108) rfl) rfl) (And.intro (tm_4 _ (List.mem_of_getElem? (i := 109) rfl) rfl) (Or.inl ⟨(RX5, TX5, 13), rfl, rfl⟩))))))))
theorem oX6_takesTest_142 : OKI 43 142 (.iload 4, 144, [4], 0, 0, []) := And.intro dX6_takesTest_142 (And.intro rfl (rfl))
theorem oX6_takesTest_144 : OKI 43 144 (.ifCond .lt 7, 147, [151], 0, 0, []) := And.intro dX6_takesTest_144 (And.intro rfl (by decide))
theorem oX6_takesTest_147 : OKI 43 147 (.iconst 1, 148, [], 1, 0, []) := And.intro dX6_takesTest_147 (And.intro rfl (by decide +kernel))
theorem oX6_takesTest_148 : OKI 43 148 (.goto 4, 151, [152], 0, 0, []) := And.intro dX6_takesTest_148 (And.intro rfl (by decide))
theorem oX6_takesTest_151 : OKI 43 151 (.iconst 0, 152, [], 0, 0, []) := And.intro dX6_takesTest_151 (And.intro rfl (by decide +kernel))
theorem oX6_takesTest_152 : OKI 43 152 (.ireturn, 153, [3], 0, 0, []) := And.intro dX6_takesTest_152 (Or.inr (Or.inl (And.intro rfl rfl)))
def pfX6_takesTest (pc : Nat) : Option XE := (bif Nat.blt pc 99 then (bif Nat.blt pc 73 then (bif Nat.blt pc 60 then (bif Nat.blt pc 5 then (bif Nat.blt pc 1 then (bif Nat.beq pc 0 then some (.aload_n 0, 1, [0], 0, 0, []) else none) else (bif Nat.blt pc 4 then (bif Nat.beq pc 1 then some (.invokevirtual 38, 4, [32, 1, 8, 0, 0, 1], 0, 0, []) else none) else (bif Nat.beq pc 4 then some (.istore_n 2, 5, [2], 0, 0, []) else none))) else (bif Nat.blt pc 7 then (bif Nat.blt pc 6 then (bif Nat.beq pc 5 then some (.iconst 4, 6, [], 4, 0, []) else none) else (bif Nat.beq pc 6 then some (.istore_n 3, 7, [3], 0, 0, []) else none)) else (bif Nat.blt pc 8 then (bif Nat.beq pc 7 then some (.iload_n 2, 8, [2], 0, 0, []) else none) else (bif Nat.beq pc 8 then some (.lookupswitch 118 #[(101, 52), (104, 52), (107, 52), (115, 52), (116, 73)], 60, [126], 0, 0, [(101, 60), (104, 60), (107, 60), (115, 60), (116, 81)]) else none)))) else (bif Nat.blt pc 66 then (bif Nat.blt pc 62 then (bif Nat.blt pc 61 then (bif Nat.beq pc 60 then some (.aload_n 0, 61, [0], 0, 0, []) else none) else (bif Nat.beq pc 61 then some (.dup, 62, [], 0, 0, []) else none)) else (bif Nat.blt pc 65 then (bif Nat.beq pc 62 then some (.getfield 19, 65, [7, 2, 0], 0, 0, []) else none) else (bif Nat.beq pc 65 then some (.iconst 1, 66, [], 1, 0, []) else none))) else (bif Nat.blt pc 70 then (bif Nat.blt pc 67 then (bif Nat.beq pc 66 then some (.iadd, 67, [], 0, 0, []) else none) else (bif Nat.beq pc 67 then some (.putfield 19, 70, [7, 2, 0], 0, 0, []) else none)) else (bif Nat.blt pc 71 then (bif Nat.beq pc 70 then some (.aload_n 0, 71, [0], 0, 0, []) else none) else (bif Nat.beq pc 71 then some (.ldc 136, 73, [0, 4], 0, 0, []) else none))))) else (bif Nat.blt pc 86 then (bif Nat.blt pc 80 then (bif Nat.blt pc 76 then (bif Nat.beq pc 73 then some (.invokevirtual 28, 76, [33, 2, 8, 0, 0, 1], 0, 0, []) else none) else (bif Nat.blt pc 79 then (bif Nat.beq pc 76 then some (.ifCond .ne 52, 79, [128], 0, 0, []) else none) else (bif Nat.beq pc 79 then some (.iconst 0, 80, [], 0, 0, []) else none))) else (bif Nat.blt pc 82 then (bif Nat.blt pc 81 then (bif Nat.beq pc 80 then some (.ireturn, 81, [3], 0, 0, []) else none) else (bif Nat.beq pc 81 then some (.aload_n 0, 82, [0], 0, 0, []) else none)) else (bif Nat.blt pc 83 then (bif Nat.beq pc 82 then some (.dup, 83, [], 0, 0, []) else none) else (bif Nat.beq pc 83 then some (.getfield 19, 86, [7, 2, 0], 0, 0, []) else none)))) else (bif Nat.blt pc 92 then (bif Nat.blt pc 88 then (bif Nat.blt pc 87 then (bif Nat.beq pc 86 then some (.iconst 1, 87, [], 1, 0, []) else none) else (bif Nat.beq pc 87 then some (.iadd, 88, [], 0, 0, []) else none)) else (bif Nat.blt pc 91 then (bif Nat.beq pc 88 then some (.putfield 19, 91, [7, 2, 0], 0, 0, []) else none) else (bif Nat.beq pc 91 then some (.aload_n 0, 92, [0], 0, 0, []) else none))) else (bif Nat.blt pc 96 then (bif Nat.blt pc 95 then (bif Nat.beq pc 92 then some (.invokevirtual 38, 95, [32, 1, 8, 0, 0, 1], 0, 0, []) else none) else (bif Nat.beq pc 95 then some (.istore_n 2, 96, [2], 0, 0, []) else none)) else (bif Nat.blt pc 98 then (bif Nat.beq pc 96 then some (.bipush 6, 98, [], 6, 0, []) else none) else (bif Nat.beq pc 98 then some (.istore_n 3, 99, [3], 0, 0, []) else none)))))) else (bif Nat.blt pc 126 then (bif Nat.blt pc 112 then (bif Nat.blt pc 105 then (bif Nat.blt pc 100 then (bif Nat.beq pc 99 then some (.iload_n 2, 100, [2], 0, 0, []) else none) else (bif Nat.blt pc 102 then (bif Nat.beq pc 100 then some (.bipush 60, 102, [], 60, 0, []) else none) else (bif Nat.beq pc 102 then some (.if_icmp .eq 11, 105, [113], 0, 0, []) else none))) else (bif Nat.blt pc 108 then (bif Nat.blt pc 106 then (bif Nat.beq pc 105 then some (.iload_n 2, 106, [2], 0, 0, []) else none) else (bif Nat.beq pc 106 then some (.bipush 62, 108, [], 62, 0, []) else none)) else (bif Nat.blt pc 111 then (bif Nat.beq pc 108 then some (.if_icmp .eq 5, 111, [113], 0, 0, []) else none) else (bif Nat.beq pc 111 then some (.iconst 0, 112, [], 0, 0, []) else none)))) else (bif Nat.blt pc 118 then (bif Nat.blt pc 114 then (bif Nat.blt pc 113 then (bif Nat.beq pc 112 then some (.ireturn, 113, [3], 0, 0, []) else none) else (bif Nat.beq pc 113 then some (.aload_n 0, 114, [0], 0, 0, []) else none)) else (bif Nat.blt pc 115 then (bif Nat.beq pc 114 then some (.dup, 115, [], 0, 0, []) else none) else (bif Nat.beq pc 115 then some (.getfield 19, 118, [7, 2, 0], 0, 0, []) else none))) else (bif Nat.blt pc 120 then (bif Nat.blt pc 119 then (bif Nat.beq pc 118 then some (.iconst 1, 119, [], 1, 0, []) else none) else (bif Nat.beq pc 119 then some (.iadd, 120, [], 0, 0, []) else none)) else (bif Nat.blt pc 123 then (bif Nat.beq pc 120 then some (.putfield 19, 123, [7, 2, 0], 0, 0, []) else none) else (bif Nat.beq pc 123 then some (.goto 5, 126, [128], 0, 0, []) else none))))) else (bif Nat.blt pc 137 then (bif Nat.blt pc 130 then (bif Nat.blt pc 128 then (bif Nat.blt pc 127 then (bif Nat.beq pc 126 then some (.iconst 0, 127, [], 0, 0, []) else none) else (bif Nat.beq pc 127 then some (.ireturn, 128, [3], 0, 0, []) else none)) else (bif Nat.blt pc 129 then (bif Nat.beq pc 128 then some (.aload_n 0, 129, [0], 0, 0, []) else none) else (bif Nat.beq pc 129 then some (.iload_n 3, 130, [3], 0, 0, []) else none))) else (bif Nat.blt pc 135 then (bif Nat.blt pc 133 then (bif Nat.beq pc 130 then some (.invokevirtual 117, 133, [34, 2, 8, 0, 0, 1], 0, 0, []) else none) else (bif Nat.beq pc 133 then some (.istore 4, 135, [4], 0, 0, []) else none)) else (bif Nat.blt pc 136 then (bif Nat.beq pc 135 then some (.aload_n 1, 136, [1], 0, 0, []) else none) else (bif Nat.beq pc 136 then some (.iload_n 2, 137, [2], 0, 0, []) else none)))) else (bif Nat.blt pc 147 then (bif Nat.blt pc 142 then (bif Nat.blt pc 139 then (bif Nat.beq pc 137 then some (.iload 4, 139, [4], 0, 0, []) else none) else (bif Nat.beq pc 139 then some (.invokevirtual 127, 142, [26, 3, 7, 0, 0, 0], 0, 0, []) else none)) else (bif Nat.blt pc 144 then (bif Nat.beq pc 142 then some (.iload 4, 144, [4], 0, 0, []) else none) else (bif Nat.beq pc 144 then some (.ifCond .lt 7, 147, [151], 0, 0, []) else none))) else (bif Nat.blt pc 151 then (bif Nat.blt pc 148 then (bif Nat.beq pc 147 then some (.iconst 1, 148, [], 1, 0, []) else none) else (bif Nat.beq pc 148 then some (.goto 4, 151, [152], 0, 0, []) else none)) else (bif Nat.blt pc 152 then (bif Nat.beq pc 151 then some (.iconst 0, 152, [], 0, 0, []) else none) else (bif Nat.beq pc 152 then some (.ireturn, 153, [3], 0, 0, []) else none)))))))
theorem okX6_takesTest : ∀ pc Y, pfX6_takesTest pc = some Y → OKI m_X6_takesTest pc Y := fun pc Y => ((bt_node (bt_node (bt_node (bt_node (bt_node (bt_leaf (P := OKI m_X6_takesTest) oX6_takesTest_0) (bt_node (bt_leaf (P := OKI m_X6_takesTest) oX6_takesTest_1) (bt_leaf (P := OKI m_X6_takesTest) oX6_takesTest_4))) (bt_node (bt_node (bt_leaf (P := OKI m_X6_takesTest) oX6_takesTest_5) (bt_leaf (P := OKI m_X6_takesTest) oX6_takesTest_6)) (bt_node (bt_leaf (P := OKI m_X6_takesTest) oX6_takesTest_7) (bt_leaf (P := OKI m_X6_takesTest) oX6_takesTest_8)))) (bt_node (bt_node (bt_node (bt_leaf (P := OKI m_X6_takesTest) oX6_takesTest_60) (bt_leaf (P := OKI m_X6_takesTest) oX6_takesTest_61)) (bt_node (bt_leaf (P := OKI m_X6_takesTest) oX6_takesTest_62) (bt_leaf (P := OKI m_X6_takesTest) oX6_takesTest_65))) (bt_node (bt_node (bt_leaf (P := OKI m_X6_takesTest) oX6_takesTest_66) (bt_leaf (P := OKI m_X6_takesTest) oX6_takesTest_67)) (bt_node (bt_leaf (P := OKI m_X6_takesTest) oX6_takesTest_70) (bt_leaf (P := OKI m_X6_takesTest) oX6_takesTest_71))))) (bt_node (bt_node (bt_node (bt_leaf (P := OKI m_X6_takesTest) oX6_takesTest_73) (bt_node (bt_leaf (P := OKI m_X6_takesTest) oX6_takesTest_76) (bt_leaf (P := OKI m_X6_takesTest) oX6_takesTest_79))) (bt_node (bt_node (bt_leaf (P := OKI m_X6_takesTest) oX6_takesTest_80) (bt_leaf (P := OKI m_X6_takesTest) oX6_takesTest_81)) (bt_node (bt_leaf (P := OKI m_X6_takesTest) oX6_takesTest_82) (bt_leaf (P := OKI m_X6_takesTest) oX6_takesTest_83)))) (bt_node (bt_node (bt_node (bt_leaf (P := OKI m_X6_takesTest) oX6_takesTest_86) (bt_leaf (P := OKI m_X6_takesTest) oX6_takesTest_87)) (bt_node (bt_leaf (P := OKI m_X6_takesTest) oX6_takesTest_88) (bt_leaf (P := OKI m_X6_takesTest) oX6_takesTest_91))) (bt_node (bt_node (bt_leaf (P := OKI m_X6_takesTest) oX6_takesTest_92) (bt_leaf (P := OKI m_X6_takesTest) oX6_takesTest_95)) (bt_node (bt_leaf (P := OKI m_X6_takesTest) oX6_takesTest_96) (bt_leaf (P := OKI m_X6_takesTest) oX6_takesTest_98)))))) (bt_node (bt_node (bt_node (bt_node (bt_leaf (P := OKI m_X6_takesTest) oX6_takesTest_99) (bt_node (bt_leaf (P := OKI m_X6_takesTest) oX6_takesTest_100) (bt_leaf (P := OKI m_X6_takesTest) oX6_takesTest_102))) (bt_node (bt_node (bt_leaf (P := OKI m_X6_takesTest) oX6_takesTest_105) (bt_leaf (P := OKI m_X6_takesTest) oX6_takesTest_106)) (bt_node (bt_leaf (P := OKI m_X6_takesTest) oX6_takesTest_108) (bt_leaf (P := OKI m_X6_takesTest) oX6_takesTest_111)))) (bt_node (bt_node (bt_node (bt_leaf (P := OKI m_X6_takesTest) oX6_takesTest_112) (bt_leaf (P := OKI m_X6_takesTest) oX6_takesTest_113)) (bt_node (bt_leaf (P := OKI m_X6_takesTest) oX6_takesTest_114) (bt_leaf (P := OKI m_X6_takesTest) oX6_takesTest_115))) (bt_node (bt_node (bt_leaf (P := OKI m_X6_takesTest) oX6_takesTest_118) (bt_leaf (P := OKI m_X6_takesTest) oX6_takesTest_119)) (bt_node (bt_leaf (P := OKI m_X6_takesTest) oX6_takesTest_120) (bt_leaf (P := OKI m_X6_takesTest) oX6_takesTest_123))))) (bt_node (bt_node (bt_node (bt_node (bt_leaf (P := OKI m_X6_takesTest) oX6_takesTest_126) (bt_leaf (P := OKI m_X6_takesTest) oX6_takesTest_127)) (bt_node (bt_leaf (P := OKI m_X6_takesTest) oX6_takesTest_128) (bt_leaf (P := OKI m_X6_takesTest) oX6_takesTest_129))) (bt_node (bt_node (bt_leaf (P := OKI m_X6_takesTest) oX6_takesTest_130) (bt_leaf (P := OKI m_X6_takesTest) oX6_takesTest_133)) (bt_node (bt_leaf (P := OKI m_X6_takesTest) oX6_takesTest_135) (bt_leaf (P := OKI m_X6_takesTest) oX6_takesTest_136)))) (bt_node (bt_node (bt_node (bt_leaf (P := OKI m_X6_takesTest) oX6_takesTest_137) (bt_leaf (P := OKI m_X6_takesTest) oX6_takesTest_139)) (bt_node (bt_leaf (P := OKI m_X6_takesTest) oX6_takesTest_142) (bt_leaf (P := OKI m_X6_takesTest) oX6_takesTest_144))) (bt_node (bt_node (bt_leaf (P := OKI m_X6_takesTest) oX6_takesTest_147) (bt_leaf (P := OKI m_X6_takesTest) oX6_takesTest_148)) (bt_node (bt_leaf (P := OKI m_X6_takesTest) oX6_takesTest_151) (bt_leaf (P := OKI m_X6_takesTest) oX6_takesTest_152))))))) : pfX6_takesTest pc = some Y → OKI m_X6_takesTest pc Y)
def stpX6_takesTest (pc : Nat) : Option (List Bool) := (bif Nat.blt pc 128 then (bif Nat.blt pc 113 then (bif Nat.beq pc 96 then some [true, true, true, false, false] else none) else (bif Nat.beq pc 113 then some [true, true, true, true, false] else none)) else (bif Nat.blt pc 152 then (bif Nat.beq pc 128 then some [true, true, true, true, false] else none) else (bif Nat.beq pc 152 then some [false, false, false, false, false] else none)))
def bX6_takesTest_0 (d rc rs : Nat) (t : Nat) (a1 : Option XO) (σ : XH) (Q : XV → XH → Prop) : Prop :=
  ((1 ≤ d ∧ Ec (d - 1) 0 0 m_X6_next [vR (some (7, t))] σ (kI fun x2 h1 => ((x2 = 101 → (((∀ h15, h15 = wI h1 7 t 2 ((hi h1 7 t 2) + 1) → ((1 ≤ d ∧ Ec (d - 1) 0 0 m_X6_takes [vR (some (7, t)), vR (some (512, 4))] h15 (kI fun x17 h16 => ((x17 = 0 → (((0 : Int32) = 0 ∨ (0 : Int32) = 1) ∧ Q (vI 0) h16)) ∧ (¬ x17 = 0 → Ex d rc rs m_X6_takesTest 128 [vR (some (7, t)), vR a1, vI x2, vI 4, vU] [] h16 Q))))))))) ∧ (¬ x2 = 101 → ((x2 = 104 → (((∀ h12, h12 = wI h1 7 t 2 ((hi h1 7 t 2) + 1) → ((1 ≤ d ∧ Ec (d - 1) 0 0 m_X6_takes [vR (some (7, t)), vR (some (512, 4))] h12 (kI fun x14 h13 => ((x14 = 0 → (((0 : Int32) = 0 ∨ (0 : Int32) = 1) ∧ Q (vI 0) h13)) ∧ (¬ x14 = 0 → Ex d rc rs m_X6_takesTest 128 [vR (some (7, t)), vR a1, vI x2, vI 4, vU] [] h13 Q))))))))) ∧ (¬ x2 = 104 → ((x2 = 107 → (((∀ h9, h9 = wI h1 7 t 2 ((hi h1 7 t 2) + 1) → ((1 ≤ d ∧ Ec (d - 1) 0 0 m_X6_takes [vR (some (7, t)), vR (some (512, 4))] h9 (kI fun x11 h10 => ((x11 = 0 → (((0 : Int32) = 0 ∨ (0 : Int32) = 1) ∧ Q (vI 0) h10)) ∧ (¬ x11 = 0 → Ex d rc rs m_X6_takesTest 128 [vR (some (7, t)), vR a1, vI x2, vI 4, vU] [] h10 Q))))))))) ∧ (¬ x2 = 107 → ((x2 = 115 → (((∀ h6, h6 = wI h1 7 t 2 ((hi h1 7 t 2) + 1) → ((1 ≤ d ∧ Ec (d - 1) 0 0 m_X6_takes [vR (some (7, t)), vR (some (512, 4))] h6 (kI fun x8 h7 => ((x8 = 0 → (((0 : Int32) = 0 ∨ (0 : Int32) = 1) ∧ Q (vI 0) h7)) ∧ (¬ x8 = 0 → Ex d rc rs m_X6_takesTest 128 [vR (some (7, t)), vR a1, vI x2, vI 4, vU] [] h7 Q))))))))) ∧ (¬ x2 = 115 → ((x2 = 116 → (((∀ h3, h3 = wI h1 7 t 2 ((hi h1 7 t 2) + 1) → ((1 ≤ d ∧ Ec (d - 1) 0 0 m_X6_next [vR (some (7, t))] h3 (kI fun x5 h4 => Ex d rc rs m_X6_takesTest 96 [vR (some (7, t)), vR a1, vI x5, vU, vU] [] h4 Q))))))) ∧ (¬ x2 = 116 → (((0 : Int32) = 0 ∨ (0 : Int32) = 1) ∧ Q (vI 0) h1))))))))))))))
theorem sX6_takesTest_0 {d rc rs : Nat} {t : Nat} {a1 : Option XO} {σ : XH} {Q : XV → XH → Prop} (h : bX6_takesTest_0 d rc rs t a1 σ Q) : Ex d rc rs m_X6_takesTest 0 [vR (some (7, t)), vR a1, vU, vU, vU] [] σ Q :=
  xtree_sound (stop := stpX6_takesTest) okX6_takesTest 21 _ _ _ _ _ _ h
def bX6_takesTest_96 (d rc rs : Nat) (t : Nat) (l1 : Option XO) (l2 : Int32) (σ : XH) (Q : XV → XH → Prop) : Prop :=
  ((l2 = 60 → Ex d rc rs m_X6_takesTest 113 [vR (some (7, t)), vR l1, vI l2, vI 6, vU] [] σ Q) ∧ (¬ l2 = 60 → ((l2 = 62 → Ex d rc rs m_X6_takesTest 113 [vR (some (7, t)), vR l1, vI l2, vI 6, vU] [] σ Q) ∧ (¬ l2 = 62 → (((0 : Int32) = 0 ∨ (0 : Int32) = 1) ∧ Q (vI 0) σ)))))
theorem sX6_takesTest_96 {d rc rs : Nat} {t : Nat} {l1 : Option XO} {l2 : Int32} {σ : XH} {Q : XV → XH → Prop} (h : bX6_takesTest_96 d rc rs t l1 l2 σ Q) : Ex d rc rs m_X6_takesTest 96 [vR (some (7, t)), vR l1, vI l2, vU, vU] [] σ Q :=
  xtree_sound (stop := stpX6_takesTest) okX6_takesTest 12 _ _ _ _ _ _ h
def bX6_takesTest_113 (d rc rs : Nat) (t : Nat) (l1 : Option XO) (l2 : Int32) (l3 : Int32) (σ : XH) (Q : XV → XH → Prop) : Prop :=
  (((∀ h1, h1 = wI σ 7 t 2 ((hi σ 7 t 2) + 1) → Ex d rc rs m_X6_takesTest 128 [vR (some (7, t)), vR l1, vI l2, vI l3, vU] [] h1 Q)))
theorem sX6_takesTest_113 {d rc rs : Nat} {t : Nat} {l1 : Option XO} {l2 : Int32} {l3 : Int32} {σ : XH} {Q : XV → XH → Prop} (h : bX6_takesTest_113 d rc rs t l1 l2 l3 σ Q) : Ex d rc rs m_X6_takesTest 113 [vR (some (7, t)), vR l1, vI l2, vI l3, vU] [] σ Q :=
  xtree_sound (stop := stpX6_takesTest) okX6_takesTest 9 _ _ _ _ _ _ h
def bX6_takesTest_128 (d rc rs : Nat) (t : Nat) (l1 : Option XO) (l2 : Int32) (l3 : Int32) (σ : XH) (Q : XV → XH → Prop) : Prop :=
  ((1 ≤ d ∧ Ec (d - 1) 0 0 m_X6_takesDigits [vR (some (7, t)), vI l3] σ (kI fun x2 h1 => (drf l1 6 fun i4 => (1 ≤ d ∧ Ec (d - 1) 0 0 m_X5_addStep [vR (some (6, i4)), vI l2, vI x2] h1 (kU fun h3 => ((x2 < 0 → Ex d rc rs m_X6_takesTest 152 [vU, vU, vU, vU, vU] [vI 0] h3 Q) ∧ (¬ x2 < 0 → Ex d rc rs m_X6_takesTest 152 [vU, vU, vU, vU, vU] [vI 1] h3 Q))))))))
theorem sX6_takesTest_128 {d rc rs : Nat} {t : Nat} {l1 : Option XO} {l2 : Int32} {l3 : Int32} {σ : XH} {Q : XV → XH → Prop} (h : bX6_takesTest_128 d rc rs t l1 l2 l3 σ Q) : Ex d rc rs m_X6_takesTest 128 [vR (some (7, t)), vR l1, vI l2, vI l3, vU] [] σ Q :=
  xtree_sound (stop := stpX6_takesTest) okX6_takesTest 14 _ _ _ _ _ _ h
def bX6_takesTest_152 (d rc rs : Nat) (q0 : Int32) (σ : XH) (Q : XV → XH → Prop) : Prop :=
  ((q0 = 0 ∨ q0 = 1) ∧ Q (vI q0) σ)
theorem sX6_takesTest_152 {d rc rs : Nat} {q0 : Int32} {σ : XH} {Q : XV → XH → Prop} (h : bX6_takesTest_152 d rc rs q0 σ Q) : Ex d rc rs m_X6_takesTest 152 [vU, vU, vU, vU, vU] [vI q0] σ Q :=
  xtree_sound (stop := stpX6_takesTest) okX6_takesTest 3 _ _ _ _ _ _ h
/-! SpotTimers$Station.<init>(IZII)V -/
theorem dX7_init_0 : decode cX7_init 0 = .ok (.aload_n 0, 1) := by decide +kernel
theorem dX7_init_1 : decode cX7_init 1 = .ok (.invokespecial 3, 3) := by decide +kernel
theorem dX7_init_4 : decode cX7_init 4 = .ok (.aload_n 0, 1) := by decide +kernel
theorem dX7_init_5 : decode cX7_init 5 = .ok (.iconst 5, 1) := by decide +kernel
theorem dX7_init_6 : decode cX7_init 6 = .ok (.newarray .int, 2) := by decide +kernel
theorem dX7_init_8 : decode cX7_init 8 = .ok (.putfield 9, 3) := by decide +kernel
theorem dX7_init_11 : decode cX7_init 11 = .ok (.aload_n 0, 1) := by decide +kernel
theorem dX7_init_12 : decode cX7_init 12 = .ok (.iload_n 1, 1) := by decide +kernel
theorem dX7_init_13 : decode cX7_init 13 = .ok (.putfield 15, 3) := by decide +kernel
theorem dX7_init_16 : decode cX7_init 16 = .ok (.aload_n 0, 1) := by decide +kernel
theorem dX7_init_17 : decode cX7_init 17 = .ok (.iload_n 2, 1) := by decide +kernel
theorem dX7_init_18 : decode cX7_init 18 = .ok (.putfield 19, 3) := by decide +kernel
theorem dX7_init_21 : decode cX7_init 21 = .ok (.aload_n 0, 1) := by decide +kernel
theorem dX7_init_22 : decode cX7_init 22 = .ok (.iload_n 2, 1) := by decide +kernel
theorem dX7_init_23 : decode cX7_init 23 = .ok (.ifCond .eq 7, 3) := by decide +kernel
theorem dX7_init_26 : decode cX7_init 26 = .ok (.iload_n 3, 1) := by decide +kernel
theorem dX7_init_27 : decode cX7_init 27 = .ok (.goto 5, 3) := by decide +kernel
theorem dX7_init_30 : decode cX7_init 30 = .ok (.ldc 23, 2) := by decide +kernel
theorem dX7_init_32 : decode cX7_init 32 = .ok (.putfield 24, 3) := by decide +kernel
theorem dX7_init_35 : decode cX7_init 35 = .ok (.aload_n 0, 1) := by decide +kernel
theorem dX7_init_36 : decode cX7_init 36 = .ok (.iload 4, 2) := by decide +kernel
theorem dX7_init_38 : decode cX7_init 38 = .ok (.bipush 100, 2) := by decide +kernel
theorem dX7_init_40 : decode cX7_init 40 = .ok (.invokestatic 27, 3) := by decide +kernel
theorem dX7_init_43 : decode cX7_init 43 = .ok (.putfield 33, 3) := by decide +kernel
theorem dX7_init_46 : decode cX7_init 46 = .ok (.return_, 1) := by decide +kernel
theorem oX7_init_0 : OKI 44 0 (.aload_n 0, 1, [0], 0, 0, []) := And.intro dX7_init_0 (And.intro rfl (rfl))
theorem oX7_init_1 : OKI 44 1 (.invokespecial 3, 4, [9004], 0, 0, []) := And.intro dX7_init_1 (And.intro rfl (And.intro rfl (And.intro (tm_2 _ (List.mem_of_getElem? (i := 59) rfl) rfl) (And.intro (tm_1 _ (List.mem_of_getElem? (i := 32) rfl) rfl) (tm_1 _ (List.mem_of_getElem? (i := 33) rfl) rfl)))))
theorem oX7_init_4 : OKI 44 4 (.aload_n 0, 5, [0], 0, 0, []) := And.intro dX7_init_4 (And.intro rfl (rfl))
theorem oX7_init_5 : OKI 44 5 (.iconst 5, 6, [], 5, 0, []) := And.intro dX7_init_5 (And.intro rfl (by decide +kernel))
theorem oX7_init_6 : OKI 44 6 (.newarray .int, 8, [106], 0, 0, []) := And.intro dX7_init_6 (And.intro rfl (And.intro (And.intro (by decide) (by decide)) (tm_1 _ (List.mem_of_getElem? (i := 80) rfl) rfl)))
theorem oX7_init_8 : OKI 44 8 (.putfield 9, 11, [8, 3, 2], 0, 0, []) := And.intro dX7_init_8 (And.intro rfl (⟨(RX7, TX7, 5), "SpotTimers$Station", rfl, by decide, tm_2 _ (List.mem_of_getElem? (i := 72) rfl) rfl, Or.inl rfl, Or.inr (And.intro rfl (And.intro rfl rfl)), rfl⟩))
theorem oX7_init_11 : OKI 44 11 (.aload_n 0, 12, [0], 0, 0, []) := And.intro dX7_init_11 (And.intro rfl (rfl))
theorem oX7_init_12 : OKI 44 12 (.iload_n 1, 13, [1], 0, 0, []) := And.intro dX7_init_12 (And.intro rfl (rfl))
theorem oX7_init_13 : OKI 44 13 (.putfield 15, 16, [8, 0, 0], 0, 0, []) := And.intro dX7_init_13 (And.intro rfl (⟨(RX7, TX7, 5), "SpotTimers$Station", rfl, by decide, tm_2 _ (List.mem_of_getElem? (i := 64) rfl) rfl, Or.inl rfl, Or.inr (And.intro rfl (And.intro rfl rfl)), rfl⟩))
theorem oX7_init_16 : OKI 44 16 (.aload_n 0, 17, [0], 0, 0, []) := And.intro dX7_init_16 (And.intro rfl (rfl))
theorem oX7_init_17 : OKI 44 17 (.iload_n 2, 18, [2], 0, 0, []) := And.intro dX7_init_17 (And.intro rfl (rfl))
theorem oX7_init_18 : OKI 44 18 (.putfield 19, 21, [8, 1, 3], 0, 0, []) := And.intro dX7_init_18 (And.intro rfl (⟨(RX7, TX7, 5), "SpotTimers$Station", rfl, by decide, tm_2 _ (List.mem_of_getElem? (i := 68) rfl) rfl, Or.inl rfl, Or.inr (And.intro rfl (And.intro rfl rfl)), rfl⟩))
theorem oX7_init_21 : OKI 44 21 (.aload_n 0, 22, [0], 0, 0, []) := And.intro dX7_init_21 (And.intro rfl (rfl))
theorem oX7_init_22 : OKI 44 22 (.iload_n 2, 23, [2], 0, 0, []) := And.intro dX7_init_22 (And.intro rfl (rfl))
theorem oX7_init_23 : OKI 44 23 (.ifCond .eq 7, 26, [30], 0, 0, []) := And.intro dX7_init_23 (And.intro rfl (by decide))
theorem oX7_init_26 : OKI 44 26 (.iload_n 3, 27, [3], 0, 0, []) := And.intro dX7_init_26 (And.intro rfl (rfl))
theorem oX7_init_27 : OKI 44 27 (.goto 5, 30, [32], 0, 0, []) := And.intro dX7_init_27 (And.intro rfl (by decide))
theorem oX7_init_30 : OKI 44 30 (.ldc 23, 32, [], (-1000000000), 0, []) := And.intro dX7_init_30 (And.intro rfl (tm_2 _ (List.mem_of_getElem? (i := 60) rfl) rfl))
theorem oX7_init_32 : OKI 44 32 (.putfield 24, 35, [8, 4, 0], 0, 0, []) := And.intro dX7_init_32 (And.intro rfl (⟨(RX7, TX7, 5), "SpotTimers$Station", rfl, by decide, tm_2 _ (List.mem_of_getElem? (i := 74) rfl) rfl, Or.inl rfl, Or.inl rfl, rfl⟩))
theorem oX7_init_35 : OKI 44 35 (.aload_n 0, 36, [0], 0, 0, []) := And.intro dX7_init_35 (And.intro rfl (rfl))
theorem oX7_init_36 : OKI 44 36 (.iload 4, 38, [4], 0, 0, []) := And.intro dX7_init_36 (And.intro rfl (rfl))
theorem oX7_init_38 : OKI 44 38 (.bipush 100, 40, [], 100, 0, []) := And.intro dX7_init_38 (And.intro rfl (by decide +kernel))
theorem oX7_init_40 : OKI 44 40 (.invokestatic 27, 43, [248, 2, 0, 0, 0, 1], 0, 0, []) := And.intro dX7_init_40 (And.intro rfl (And.intro rfl (And.intro mo_J9_floorDiv_7cf53 (And.intro (Or.inl (tm_2 _ (List.mem_of_getElem? (i := 61) rfl) rfl)) (tm_2 _ (List.mem_of_getElem? (i := 62) rfl) rfl)))))
theorem oX7_init_43 : OKI 44 43 (.putfield 33, 46, [8, 2, 0], 0, 0, []) := And.intro dX7_init_43 (And.intro rfl (⟨(RX7, TX7, 5), "SpotTimers$Station", rfl, by decide, tm_2 _ (List.mem_of_getElem? (i := 70) rfl) rfl, Or.inl rfl, Or.inr (And.intro rfl (And.intro rfl rfl)), rfl⟩))
theorem oX7_init_46 : OKI 44 46 (.return_, 47, [], 0, 0, []) := And.intro dX7_init_46 rfl
def pfX7_init (pc : Nat) : Option XE := (bif Nat.blt pc 21 then (bif Nat.blt pc 11 then (bif Nat.blt pc 5 then (bif Nat.blt pc 1 then (bif Nat.beq pc 0 then some (.aload_n 0, 1, [0], 0, 0, []) else none) else (bif Nat.blt pc 4 then (bif Nat.beq pc 1 then some (.invokespecial 3, 4, [9004], 0, 0, []) else none) else (bif Nat.beq pc 4 then some (.aload_n 0, 5, [0], 0, 0, []) else none))) else (bif Nat.blt pc 6 then (bif Nat.beq pc 5 then some (.iconst 5, 6, [], 5, 0, []) else none) else (bif Nat.blt pc 8 then (bif Nat.beq pc 6 then some (.newarray .int, 8, [106], 0, 0, []) else none) else (bif Nat.beq pc 8 then some (.putfield 9, 11, [8, 3, 2], 0, 0, []) else none)))) else (bif Nat.blt pc 16 then (bif Nat.blt pc 12 then (bif Nat.beq pc 11 then some (.aload_n 0, 12, [0], 0, 0, []) else none) else (bif Nat.blt pc 13 then (bif Nat.beq pc 12 then some (.iload_n 1, 13, [1], 0, 0, []) else none) else (bif Nat.beq pc 13 then some (.putfield 15, 16, [8, 0, 0], 0, 0, []) else none))) else (bif Nat.blt pc 17 then (bif Nat.beq pc 16 then some (.aload_n 0, 17, [0], 0, 0, []) else none) else (bif Nat.blt pc 18 then (bif Nat.beq pc 17 then some (.iload_n 2, 18, [2], 0, 0, []) else none) else (bif Nat.beq pc 18 then some (.putfield 19, 21, [8, 1, 3], 0, 0, []) else none))))) else (bif Nat.blt pc 32 then (bif Nat.blt pc 26 then (bif Nat.blt pc 22 then (bif Nat.beq pc 21 then some (.aload_n 0, 22, [0], 0, 0, []) else none) else (bif Nat.blt pc 23 then (bif Nat.beq pc 22 then some (.iload_n 2, 23, [2], 0, 0, []) else none) else (bif Nat.beq pc 23 then some (.ifCond .eq 7, 26, [30], 0, 0, []) else none))) else (bif Nat.blt pc 27 then (bif Nat.beq pc 26 then some (.iload_n 3, 27, [3], 0, 0, []) else none) else (bif Nat.blt pc 30 then (bif Nat.beq pc 27 then some (.goto 5, 30, [32], 0, 0, []) else none) else (bif Nat.beq pc 30 then some (.ldc 23, 32, [], (-1000000000), 0, []) else none)))) else (bif Nat.blt pc 38 then (bif Nat.blt pc 35 then (bif Nat.beq pc 32 then some (.putfield 24, 35, [8, 4, 0], 0, 0, []) else none) else (bif Nat.blt pc 36 then (bif Nat.beq pc 35 then some (.aload_n 0, 36, [0], 0, 0, []) else none) else (bif Nat.beq pc 36 then some (.iload 4, 38, [4], 0, 0, []) else none))) else (bif Nat.blt pc 43 then (bif Nat.blt pc 40 then (bif Nat.beq pc 38 then some (.bipush 100, 40, [], 100, 0, []) else none) else (bif Nat.beq pc 40 then some (.invokestatic 27, 43, [248, 2, 0, 0, 0, 1], 0, 0, []) else none)) else (bif Nat.blt pc 46 then (bif Nat.beq pc 43 then some (.putfield 33, 46, [8, 2, 0], 0, 0, []) else none) else (bif Nat.beq pc 46 then some (.return_, 47, [], 0, 0, []) else none))))))
theorem okX7_init : ∀ pc Y, pfX7_init pc = some Y → OKI m_X7_init pc Y := fun pc Y => ((bt_node (bt_node (bt_node (bt_node (bt_leaf (P := OKI m_X7_init) oX7_init_0) (bt_node (bt_leaf (P := OKI m_X7_init) oX7_init_1) (bt_leaf (P := OKI m_X7_init) oX7_init_4))) (bt_node (bt_leaf (P := OKI m_X7_init) oX7_init_5) (bt_node (bt_leaf (P := OKI m_X7_init) oX7_init_6) (bt_leaf (P := OKI m_X7_init) oX7_init_8)))) (bt_node (bt_node (bt_leaf (P := OKI m_X7_init) oX7_init_11) (bt_node (bt_leaf (P := OKI m_X7_init) oX7_init_12) (bt_leaf (P := OKI m_X7_init) oX7_init_13))) (bt_node (bt_leaf (P := OKI m_X7_init) oX7_init_16) (bt_node (bt_leaf (P := OKI m_X7_init) oX7_init_17) (bt_leaf (P := OKI m_X7_init) oX7_init_18))))) (bt_node (bt_node (bt_node (bt_leaf (P := OKI m_X7_init) oX7_init_21) (bt_node (bt_leaf (P := OKI m_X7_init) oX7_init_22) (bt_leaf (P := OKI m_X7_init) oX7_init_23))) (bt_node (bt_leaf (P := OKI m_X7_init) oX7_init_26) (bt_node (bt_leaf (P := OKI m_X7_init) oX7_init_27) (bt_leaf (P := OKI m_X7_init) oX7_init_30)))) (bt_node (bt_node (bt_leaf (P := OKI m_X7_init) oX7_init_32) (bt_node (bt_leaf (P := OKI m_X7_init) oX7_init_35) (bt_leaf (P := OKI m_X7_init) oX7_init_36))) (bt_node (bt_node (bt_leaf (P := OKI m_X7_init) oX7_init_38) (bt_leaf (P := OKI m_X7_init) oX7_init_40)) (bt_node (bt_leaf (P := OKI m_X7_init) oX7_init_43) (bt_leaf (P := OKI m_X7_init) oX7_init_46)))))) : pfX7_init pc = some Y → OKI m_X7_init pc Y)
def stpX7_init (pc : Nat) : Option (List Bool) := (bif Nat.beq pc 32 then some [true, false, false, false, true] else none)
def bX7_init_0 (d rc rs : Nat) (t : Nat) (a1 : Int32) (a2 : Int32) (a3 : Int32) (a4 : Int32) (σ : XH) (Q : XV → XH → Prop) : Prop :=
  ((1 ≤ d ∧ (¬ (5 : Int32) < 0 ∧ (5 : Int32).toNatClampNeg ≤ 100000 ∧ 1 ≤ rc ∧ (5 : Int32).toNatClampNeg ≤ rs ∧ (∀ h1, h1 = nwA σ 106 (5 : Int32).toNatClampNeg → ((∀ h2, h2 = wR h1 8 t 3 (some (106, hc σ 106)) → ((∀ h3, h3 = wI h2 8 t 0 a1 → (((a2 = 0 ∨ a2 = 1) ∧ (∀ h4, h4 = wI h3 8 t 1 a2 → ((a2 = 0 → Ex d (rc - 1) (rs - (5 : Int32).toNatClampNeg) m_X7_init 32 [vR (some (8, t)), vU, vU, vU, vI a4] [vI (-1000000000), vR (some (8, t))] h4 Q) ∧ (¬ a2 = 0 → Ex d (rc - 1) (rs - (5 : Int32).toNatClampNeg) m_X7_init 32 [vR (some (8, t)), vU, vU, vU, vI a4] [vI a3, vR (some (8, t))] h4 Q)))))))))))))
theorem sX7_init_0 {d rc rs : Nat} {t : Nat} {a1 : Int32} {a2 : Int32} {a3 : Int32} {a4 : Int32} {σ : XH} {Q : XV → XH → Prop} (h : bX7_init_0 d rc rs t a1 a2 a3 a4 σ Q) : Ex d rc rs m_X7_init 0 [vR (some (8, t)), vI a1, vI a2, vI a3, vI a4] [] σ Q :=
  xtree_sound (stop := stpX7_init) okX7_init 19 _ _ _ _ _ _ h
def bX7_init_32 (d rc rs : Nat) (t : Nat) (l4 : Int32) (q0 : Int32) (σ : XH) (Q : XV → XH → Prop) : Prop :=
  ((∀ h1, h1 = wI σ 8 t 4 q0 → (1 ≤ d ∧ Ec (d - 1) 0 0 m_J9_floorDiv_7cf53 [vI l4, vI 100] h1 (kI fun x3 h2 => ((∀ h4, h4 = wI h2 8 t 2 x3 → Q vU h4))))))
theorem sX7_init_32 {d rc rs : Nat} {t : Nat} {l4 : Int32} {q0 : Int32} {σ : XH} {Q : XV → XH → Prop} (h : bX7_init_32 d rc rs t l4 q0 σ Q) : Ex d rc rs m_X7_init 32 [vR (some (8, t)), vU, vU, vU, vI l4] [vI q0, vR (some (8, t))] σ Q :=
  xtree_sound (stop := stpX7_init) okX7_init 9 _ _ _ _ _ _ h
/-! SpotTimers$Station.leverOf(I)I -/
theorem dX7_leverOf_0 : decode cX7_leverOf 0 = .ok (.iload_n 1, 1) := by decide +kernel
theorem dX7_leverOf_1 : decode cX7_leverOf 1 = .ok (.ifCond .lt 21, 3) := by decide +kernel
theorem dX7_leverOf_4 : decode cX7_leverOf 4 = .ok (.iload_n 1, 1) := by decide +kernel
theorem dX7_leverOf_5 : decode cX7_leverOf 5 = .ok (.aload_n 0, 1) := by decide +kernel
theorem dX7_leverOf_6 : decode cX7_leverOf 6 = .ok (.getfield 9, 3) := by decide +kernel
theorem dX7_leverOf_9 : decode cX7_leverOf 9 = .ok (.arraylength, 1) := by decide +kernel
theorem dX7_leverOf_10 : decode cX7_leverOf 10 = .ok (.if_icmp .ge 12, 3) := by decide +kernel
theorem dX7_leverOf_13 : decode cX7_leverOf 13 = .ok (.aload_n 0, 1) := by decide +kernel
theorem dX7_leverOf_14 : decode cX7_leverOf 14 = .ok (.getfield 9, 3) := by decide +kernel
theorem dX7_leverOf_17 : decode cX7_leverOf 17 = .ok (.iload_n 1, 1) := by decide +kernel
theorem dX7_leverOf_18 : decode cX7_leverOf 18 = .ok (.iaload, 1) := by decide +kernel
theorem dX7_leverOf_19 : decode cX7_leverOf 19 = .ok (.goto 4, 3) := by decide +kernel
theorem dX7_leverOf_22 : decode cX7_leverOf 22 = .ok (.iconst 0, 1) := by decide +kernel
theorem dX7_leverOf_23 : decode cX7_leverOf 23 = .ok (.ireturn, 1) := by decide +kernel
theorem oX7_leverOf_0 : OKI 45 0 (.iload_n 1, 1, [1], 0, 0, []) := And.intro dX7_leverOf_0 (And.intro rfl (rfl))
theorem oX7_leverOf_1 : OKI 45 1 (.ifCond .lt 21, 4, [22], 0, 0, []) := And.intro dX7_leverOf_1 (And.intro rfl (by decide))
theorem oX7_leverOf_4 : OKI 45 4 (.iload_n 1, 5, [1], 0, 0, []) := And.intro dX7_leverOf_4 (And.intro rfl (rfl))
theorem oX7_leverOf_5 : OKI 45 5 (.aload_n 0, 6, [0], 0, 0, []) := And.intro dX7_leverOf_5 (And.intro rfl (rfl))
theorem oX7_leverOf_6 : OKI 45 6 (.getfield 9, 9, [8, 3, 2, 106, 0], 0, 0, []) := And.intro dX7_leverOf_6 (And.intro rfl (⟨(RX7, TX7, 5), "SpotTimers$Station", rfl, by decide, tm_2 _ (List.mem_of_getElem? (i := 72) rfl) rfl, Or.inl rfl, rfl, rfl⟩))
theorem oX7_leverOf_9 : OKI 45 9 (.arraylength, 10, [], 0, 0, []) := And.intro dX7_leverOf_9 rfl
theorem oX7_leverOf_10 : OKI 45 10 (.if_icmp .ge 12, 13, [22], 0, 0, []) := And.intro dX7_leverOf_10 (And.intro rfl (by decide))
theorem oX7_leverOf_13 : OKI 45 13 (.aload_n 0, 14, [0], 0, 0, []) := And.intro dX7_leverOf_13 (And.intro rfl (rfl))
theorem oX7_leverOf_14 : OKI 45 14 (.getfield 9, 17, [8, 3, 2, 106, 0], 0, 0, []) := And.intro dX7_leverOf_14 (And.intro rfl (⟨(RX7, TX7, 5), "SpotTimers$Station", rfl, by decide, tm_2 _ (List.mem_of_getElem? (i := 72) rfl) rfl, Or.inl rfl, rfl, rfl⟩))
theorem oX7_leverOf_17 : OKI 45 17 (.iload_n 1, 18, [1], 0, 0, []) := And.intro dX7_leverOf_17 (And.intro rfl (rfl))
theorem oX7_leverOf_18 : OKI 45 18 (.iaload, 19, [], 0, 0, []) := And.intro dX7_leverOf_18 rfl
theorem oX7_leverOf_19 : OKI 45 19 (.goto 4, 22, [23], 0, 0, []) := And.intro dX7_leverOf_19 (And.intro rfl (by decide))
theorem oX7_leverOf_22 : OKI 45 22 (.iconst 0, 23, [], 0, 0, []) := And.intro dX7_leverOf_22 (And.intro rfl (by decide +kernel))
theorem oX7_leverOf_23 : OKI 45 23 (.ireturn, 24, [0], 0, 0, []) := And.intro dX7_leverOf_23 (Or.inl (And.intro rfl rfl))
def pfX7_leverOf (pc : Nat) : Option XE := (bif Nat.blt pc 13 then (bif Nat.blt pc 5 then (bif Nat.blt pc 1 then (bif Nat.beq pc 0 then some (.iload_n 1, 1, [1], 0, 0, []) else none) else (bif Nat.blt pc 4 then (bif Nat.beq pc 1 then some (.ifCond .lt 21, 4, [22], 0, 0, []) else none) else (bif Nat.beq pc 4 then some (.iload_n 1, 5, [1], 0, 0, []) else none))) else (bif Nat.blt pc 9 then (bif Nat.blt pc 6 then (bif Nat.beq pc 5 then some (.aload_n 0, 6, [0], 0, 0, []) else none) else (bif Nat.beq pc 6 then some (.getfield 9, 9, [8, 3, 2, 106, 0], 0, 0, []) else none)) else (bif Nat.blt pc 10 then (bif Nat.beq pc 9 then some (.arraylength, 10, [], 0, 0, []) else none) else (bif Nat.beq pc 10 then some (.if_icmp .ge 12, 13, [22], 0, 0, []) else none)))) else (bif Nat.blt pc 18 then (bif Nat.blt pc 14 then (bif Nat.beq pc 13 then some (.aload_n 0, 14, [0], 0, 0, []) else none) else (bif Nat.blt pc 17 then (bif Nat.beq pc 14 then some (.getfield 9, 17, [8, 3, 2, 106, 0], 0, 0, []) else none) else (bif Nat.beq pc 17 then some (.iload_n 1, 18, [1], 0, 0, []) else none))) else (bif Nat.blt pc 22 then (bif Nat.blt pc 19 then (bif Nat.beq pc 18 then some (.iaload, 19, [], 0, 0, []) else none) else (bif Nat.beq pc 19 then some (.goto 4, 22, [23], 0, 0, []) else none)) else (bif Nat.blt pc 23 then (bif Nat.beq pc 22 then some (.iconst 0, 23, [], 0, 0, []) else none) else (bif Nat.beq pc 23 then some (.ireturn, 24, [0], 0, 0, []) else none)))))
theorem okX7_leverOf : ∀ pc Y, pfX7_leverOf pc = some Y → OKI m_X7_leverOf pc Y := fun pc Y => ((bt_node (bt_node (bt_node (bt_leaf (P := OKI m_X7_leverOf) oX7_leverOf_0) (bt_node (bt_leaf (P := OKI m_X7_leverOf) oX7_leverOf_1) (bt_leaf (P := OKI m_X7_leverOf) oX7_leverOf_4))) (bt_node (bt_node (bt_leaf (P := OKI m_X7_leverOf) oX7_leverOf_5) (bt_leaf (P := OKI m_X7_leverOf) oX7_leverOf_6)) (bt_node (bt_leaf (P := OKI m_X7_leverOf) oX7_leverOf_9) (bt_leaf (P := OKI m_X7_leverOf) oX7_leverOf_10)))) (bt_node (bt_node (bt_leaf (P := OKI m_X7_leverOf) oX7_leverOf_13) (bt_node (bt_leaf (P := OKI m_X7_leverOf) oX7_leverOf_14) (bt_leaf (P := OKI m_X7_leverOf) oX7_leverOf_17))) (bt_node (bt_node (bt_leaf (P := OKI m_X7_leverOf) oX7_leverOf_18) (bt_leaf (P := OKI m_X7_leverOf) oX7_leverOf_19)) (bt_node (bt_leaf (P := OKI m_X7_leverOf) oX7_leverOf_22) (bt_leaf (P := OKI m_X7_leverOf) oX7_leverOf_23))))) : pfX7_leverOf pc = some Y → OKI m_X7_leverOf pc Y)
def stpX7_leverOf (pc : Nat) : Option (List Bool) := (bif Nat.blt pc 23 then (bif Nat.beq pc 22 then some [false, false] else none) else (bif Nat.beq pc 23 then some [false, false] else none))
def bX7_leverOf_0 (d rc rs : Nat) (t : Nat) (a1 : Int32) (σ : XH) (Q : XV → XH → Prop) : Prop :=
  ((a1 < 0 → Ex d rc rs m_X7_leverOf 22 [vU, vU] [] σ Q) ∧ (¬ a1 < 0 → ((hr σ 8 t 3 = some (106, t) ∧ (((a1 < (Int32.ofNat (hn σ 106 t)) → ((hr σ 8 t 3 = some (106, t) ∧ ((vp_in a1 (hn σ 106 t) ∧ Ex d rc rs m_X7_leverOf 23 [vU, vU] [vI (hi σ 106 t a1.toNatClampNeg)] σ Q))))) ∧ (¬ a1 < (Int32.ofNat (hn σ 106 t)) → Ex d rc rs m_X7_leverOf 22 [vU, vU] [] σ Q)))))))
theorem sX7_leverOf_0 {d rc rs : Nat} {t : Nat} {a1 : Int32} {σ : XH} {Q : XV → XH → Prop} (h : bX7_leverOf_0 d rc rs t a1 σ Q) : Ex d rc rs m_X7_leverOf 0 [vR (some (8, t)), vI a1] [] σ Q :=
  xtree_sound (stop := stpX7_leverOf) okX7_leverOf 14 _ _ _ _ _ _ h
def bX7_leverOf_22 (d rc rs : Nat)  (σ : XH) (Q : XV → XH → Prop) : Prop :=
  Ex d rc rs m_X7_leverOf 23 [vU, vU] [vI 0] σ Q
theorem sX7_leverOf_22 {d rc rs : Nat}  {σ : XH} {Q : XV → XH → Prop} (h : bX7_leverOf_22 d rc rs  σ Q) : Ex d rc rs m_X7_leverOf 22 [vU, vU] [] σ Q :=
  xtree_sound (stop := stpX7_leverOf) okX7_leverOf 3 _ _ _ _ _ _ h
def bX7_leverOf_23 (d rc rs : Nat) (q0 : Int32) (σ : XH) (Q : XV → XH → Prop) : Prop :=
  Q (vI q0) σ
theorem sX7_leverOf_23 {d rc rs : Nat} {q0 : Int32} {σ : XH} {Q : XV → XH → Prop} (h : bX7_leverOf_23 d rc rs q0 σ Q) : Ex d rc rs m_X7_leverOf 23 [vU, vU] [vI q0] σ Q :=
  xtree_sound (stop := stpX7_leverOf) okX7_leverOf 3 _ _ _ _ _ _ h
/-! SpotTimers$Tally.<init>()V -/
theorem dX8_init_0 : decode cX8_init 0 = .ok (.aload_n 0, 1) := by decide +kernel
theorem dX8_init_1 : decode cX8_init 1 = .ok (.invokespecial 3, 3) := by decide +kernel
theorem dX8_init_4 : decode cX8_init 4 = .ok (.aload_n 0, 1) := by decide +kernel
theorem dX8_init_5 : decode cX8_init 5 = .ok (.bipush 90, 2) := by decide +kernel
theorem dX8_init_7 : decode cX8_init 7 = .ok (.newarray .int, 2) := by decide +kernel
theorem dX8_init_9 : decode cX8_init 9 = .ok (.putfield 9, 3) := by decide +kernel
theorem dX8_init_12 : decode cX8_init 12 = .ok (.aload_n 0, 1) := by decide +kernel
theorem dX8_init_13 : decode cX8_init 13 = .ok (.bipush 90, 2) := by decide +kernel
theorem dX8_init_15 : decode cX8_init 15 = .ok (.newarray .int, 2) := by decide +kernel
theorem dX8_init_17 : decode cX8_init 17 = .ok (.putfield 15, 3) := by decide +kernel
theorem dX8_init_20 : decode cX8_init 20 = .ok (.aload_n 0, 1) := by decide +kernel
theorem dX8_init_21 : decode cX8_init 21 = .ok (.bipush 90, 2) := by decide +kernel
theorem dX8_init_23 : decode cX8_init 23 = .ok (.newarray .int, 2) := by decide +kernel
theorem dX8_init_25 : decode cX8_init 25 = .ok (.putfield 18, 3) := by decide +kernel
theorem dX8_init_28 : decode cX8_init 28 = .ok (.aload_n 0, 1) := by decide +kernel
theorem dX8_init_29 : decode cX8_init 29 = .ok (.bipush 90, 2) := by decide +kernel
theorem dX8_init_31 : decode cX8_init 31 = .ok (.newarray .int, 2) := by decide +kernel
theorem dX8_init_33 : decode cX8_init 33 = .ok (.putfield 21, 3) := by decide +kernel
theorem dX8_init_36 : decode cX8_init 36 = .ok (.aload_n 0, 1) := by decide +kernel
theorem dX8_init_37 : decode cX8_init 37 = .ok (.bipush 90, 2) := by decide +kernel
theorem dX8_init_39 : decode cX8_init 39 = .ok (.newarray .int, 2) := by decide +kernel
theorem dX8_init_41 : decode cX8_init 41 = .ok (.putfield 24, 3) := by decide +kernel
theorem dX8_init_44 : decode cX8_init 44 = .ok (.aload_n 0, 1) := by decide +kernel
theorem dX8_init_45 : decode cX8_init 45 = .ok (.bipush 11, 2) := by decide +kernel
theorem dX8_init_47 : decode cX8_init 47 = .ok (.newarray .int, 2) := by decide +kernel
theorem dX8_init_49 : decode cX8_init 49 = .ok (.putfield 27, 3) := by decide +kernel
theorem dX8_init_52 : decode cX8_init 52 = .ok (.aload_n 0, 1) := by decide +kernel
theorem dX8_init_53 : decode cX8_init 53 = .ok (.bipush 17, 2) := by decide +kernel
theorem dX8_init_55 : decode cX8_init 55 = .ok (.newarray .int, 2) := by decide +kernel
theorem dX8_init_57 : decode cX8_init 57 = .ok (.putfield 30, 3) := by decide +kernel
theorem dX8_init_60 : decode cX8_init 60 = .ok (.aload_n 0, 1) := by decide +kernel
theorem dX8_init_61 : decode cX8_init 61 = .ok (.iconst 0, 1) := by decide +kernel
theorem dX8_init_62 : decode cX8_init 62 = .ok (.putfield 33, 3) := by decide +kernel
theorem dX8_init_65 : decode cX8_init 65 = .ok (.aload_n 0, 1) := by decide +kernel
theorem dX8_init_66 : decode cX8_init 66 = .ok (.lconst 0, 1) := by decide +kernel
theorem dX8_init_67 : decode cX8_init 67 = .ok (.putfield 37, 3) := by decide +kernel
theorem dX8_init_70 : decode cX8_init 70 = .ok (.aload_n 0, 1) := by decide +kernel
theorem dX8_init_71 : decode cX8_init 71 = .ok (.lconst 0, 1) := by decide +kernel
theorem dX8_init_72 : decode cX8_init 72 = .ok (.putfield 41, 3) := by decide +kernel
theorem dX8_init_75 : decode cX8_init 75 = .ok (.return_, 1) := by decide +kernel
theorem oX8_init_0 : OKI 46 0 (.aload_n 0, 1, [0], 0, 0, []) := And.intro dX8_init_0 (And.intro rfl (rfl))
theorem oX8_init_1 : OKI 46 1 (.invokespecial 3, 4, [9004], 0, 0, []) := And.intro dX8_init_1 (And.intro rfl (And.intro rfl (And.intro (tm_1 _ (List.mem_of_getElem? (i := 151) rfl) rfl) (And.intro (tm_1 _ (List.mem_of_getElem? (i := 32) rfl) rfl) (tm_1 _ (List.mem_of_getElem? (i := 33) rfl) rfl)))))
theorem oX8_init_4 : OKI 46 4 (.aload_n 0, 5, [0], 0, 0, []) := And.intro dX8_init_4 (And.intro rfl (rfl))
theorem oX8_init_5 : OKI 46 5 (.bipush 90, 7, [], 90, 0, []) := And.intro dX8_init_5 (And.intro rfl (by decide +kernel))
theorem oX8_init_7 : OKI 46 7 (.newarray .int, 9, [107], 0, 0, []) := And.intro dX8_init_7 (And.intro rfl (And.intro (And.intro (by decide) (by decide)) (tm_1 _ (List.mem_of_getElem? (i := 80) rfl) rfl)))
theorem oX8_init_9 : OKI 46 9 (.putfield 9, 12, [9, 0, 2], 0, 0, []) := And.intro dX8_init_9 (And.intro rfl (⟨(RX8, TX8, 10), "SpotTimers$Tally", rfl, by decide, tm_1 _ (List.mem_of_getElem? (i := 152) rfl) rfl, Or.inl rfl, Or.inr (And.intro rfl (And.intro rfl rfl)), rfl⟩))
theorem oX8_init_12 : OKI 46 12 (.aload_n 0, 13, [0], 0, 0, []) := And.intro dX8_init_12 (And.intro rfl (rfl))
theorem oX8_init_13 : OKI 46 13 (.bipush 90, 15, [], 90, 0, []) := And.intro dX8_init_13 (And.intro rfl (by decide +kernel))
theorem oX8_init_15 : OKI 46 15 (.newarray .int, 17, [108], 0, 0, []) := And.intro dX8_init_15 (And.intro rfl (And.intro (And.intro (by decide) (by decide)) (tm_1 _ (List.mem_of_getElem? (i := 80) rfl) rfl)))
theorem oX8_init_17 : OKI 46 17 (.putfield 15, 20, [9, 1, 2], 0, 0, []) := And.intro dX8_init_17 (And.intro rfl (⟨(RX8, TX8, 10), "SpotTimers$Tally", rfl, by decide, tm_1 _ (List.mem_of_getElem? (i := 154) rfl) rfl, Or.inl rfl, Or.inr (And.intro rfl (And.intro rfl rfl)), rfl⟩))
theorem oX8_init_20 : OKI 46 20 (.aload_n 0, 21, [0], 0, 0, []) := And.intro dX8_init_20 (And.intro rfl (rfl))
theorem oX8_init_21 : OKI 46 21 (.bipush 90, 23, [], 90, 0, []) := And.intro dX8_init_21 (And.intro rfl (by decide +kernel))
theorem oX8_init_23 : OKI 46 23 (.newarray .int, 25, [109], 0, 0, []) := And.intro dX8_init_23 (And.intro rfl (And.intro (And.intro (by decide) (by decide)) (tm_1 _ (List.mem_of_getElem? (i := 80) rfl) rfl)))
theorem oX8_init_25 : OKI 46 25 (.putfield 18, 28, [9, 2, 2], 0, 0, []) := And.intro dX8_init_25 (And.intro rfl (⟨(RX8, TX8, 10), "SpotTimers$Tally", rfl, by decide, tm_1 _ (List.mem_of_getElem? (i := 156) rfl) rfl, Or.inl rfl, Or.inr (And.intro rfl (And.intro rfl rfl)), rfl⟩))
theorem oX8_init_28 : OKI 46 28 (.aload_n 0, 29, [0], 0, 0, []) := And.intro dX8_init_28 (And.intro rfl (rfl))
theorem oX8_init_29 : OKI 46 29 (.bipush 90, 31, [], 90, 0, []) := And.intro dX8_init_29 (And.intro rfl (by decide +kernel))
theorem oX8_init_31 : OKI 46 31 (.newarray .int, 33, [110], 0, 0, []) := And.intro dX8_init_31 (And.intro rfl (And.intro (And.intro (by decide) (by decide)) (tm_1 _ (List.mem_of_getElem? (i := 80) rfl) rfl)))
theorem oX8_init_33 : OKI 46 33 (.putfield 21, 36, [9, 3, 2], 0, 0, []) := And.intro dX8_init_33 (And.intro rfl (⟨(RX8, TX8, 10), "SpotTimers$Tally", rfl, by decide, tm_1 _ (List.mem_of_getElem? (i := 157) rfl) rfl, Or.inl rfl, Or.inr (And.intro rfl (And.intro rfl rfl)), rfl⟩))
theorem oX8_init_36 : OKI 46 36 (.aload_n 0, 37, [0], 0, 0, []) := And.intro dX8_init_36 (And.intro rfl (rfl))
theorem oX8_init_37 : OKI 46 37 (.bipush 90, 39, [], 90, 0, []) := And.intro dX8_init_37 (And.intro rfl (by decide +kernel))
theorem oX8_init_39 : OKI 46 39 (.newarray .int, 41, [111], 0, 0, []) := And.intro dX8_init_39 (And.intro rfl (And.intro (And.intro (by decide) (by decide)) (tm_1 _ (List.mem_of_getElem? (i := 80) rfl) rfl)))
theorem oX8_init_41 : OKI 46 41 (.putfield 24, 44, [9, 4, 2], 0, 0, []) := And.intro dX8_init_41 (And.intro rfl (⟨(RX8, TX8, 10), "SpotTimers$Tally", rfl, by decide, tm_1 _ (List.mem_of_getElem? (i := 158) rfl) rfl, Or.inl rfl, Or.inr (And.intro rfl (And.intro rfl rfl)), rfl⟩))
theorem oX8_init_44 : OKI 46 44 (.aload_n 0, 45, [0], 0, 0, []) := And.intro dX8_init_44 (And.intro rfl (rfl))
theorem oX8_init_45 : OKI 46 45 (.bipush 11, 47, [], 11, 0, []) := And.intro dX8_init_45 (And.intro rfl (by decide +kernel))
theorem oX8_init_47 : OKI 46 47 (.newarray .int, 49, [112], 0, 0, []) := And.intro dX8_init_47 (And.intro rfl (And.intro (And.intro (by decide) (by decide)) (tm_1 _ (List.mem_of_getElem? (i := 80) rfl) rfl)))
theorem oX8_init_49 : OKI 46 49 (.putfield 27, 52, [9, 5, 2], 0, 0, []) := And.intro dX8_init_49 (And.intro rfl (⟨(RX8, TX8, 10), "SpotTimers$Tally", rfl, by decide, tm_1 _ (List.mem_of_getElem? (i := 159) rfl) rfl, Or.inl rfl, Or.inr (And.intro rfl (And.intro rfl rfl)), rfl⟩))
theorem oX8_init_52 : OKI 46 52 (.aload_n 0, 53, [0], 0, 0, []) := And.intro dX8_init_52 (And.intro rfl (rfl))
theorem oX8_init_53 : OKI 46 53 (.bipush 17, 55, [], 17, 0, []) := And.intro dX8_init_53 (And.intro rfl (by decide +kernel))
theorem oX8_init_55 : OKI 46 55 (.newarray .int, 57, [113], 0, 0, []) := And.intro dX8_init_55 (And.intro rfl (And.intro (And.intro (by decide) (by decide)) (tm_1 _ (List.mem_of_getElem? (i := 80) rfl) rfl)))
theorem oX8_init_57 : OKI 46 57 (.putfield 30, 60, [9, 6, 2], 0, 0, []) := And.intro dX8_init_57 (And.intro rfl (⟨(RX8, TX8, 10), "SpotTimers$Tally", rfl, by decide, tm_1 _ (List.mem_of_getElem? (i := 160) rfl) rfl, Or.inl rfl, Or.inr (And.intro rfl (And.intro rfl rfl)), rfl⟩))
theorem oX8_init_60 : OKI 46 60 (.aload_n 0, 61, [0], 0, 0, []) := And.intro dX8_init_60 (And.intro rfl (rfl))
theorem oX8_init_61 : OKI 46 61 (.iconst 0, 62, [], 0, 0, []) := And.intro dX8_init_61 (And.intro rfl (by decide +kernel))
theorem oX8_init_62 : OKI 46 62 (.putfield 33, 65, [9, 7, 0], 0, 0, []) := And.intro dX8_init_62 (And.intro rfl (⟨(RX8, TX8, 10), "SpotTimers$Tally", rfl, by decide, tm_1 _ (List.mem_of_getElem? (i := 161) rfl) rfl, Or.inl rfl, Or.inl rfl, rfl⟩))
theorem oX8_init_65 : OKI 46 65 (.aload_n 0, 66, [0], 0, 0, []) := And.intro dX8_init_65 (And.intro rfl (rfl))
theorem oX8_init_66 : OKI 46 66 (.lconst 0, 67, [], 0, 0, []) := And.intro dX8_init_66 (And.intro rfl (by decide +kernel))
theorem oX8_init_67 : OKI 46 67 (.putfield 37, 70, [9, 8, 1], 0, 0, []) := And.intro dX8_init_67 (And.intro rfl (⟨(RX8, TX8, 10), "SpotTimers$Tally", rfl, by decide, tm_1 _ (List.mem_of_getElem? (i := 163) rfl) rfl, Or.inl rfl, Or.inl rfl, rfl⟩))
theorem oX8_init_70 : OKI 46 70 (.aload_n 0, 71, [0], 0, 0, []) := And.intro dX8_init_70 (And.intro rfl (rfl))
theorem oX8_init_71 : OKI 46 71 (.lconst 0, 72, [], 0, 0, []) := And.intro dX8_init_71 (And.intro rfl (by decide +kernel))
theorem oX8_init_72 : OKI 46 72 (.putfield 41, 75, [9, 9, 1], 0, 0, []) := And.intro dX8_init_72 (And.intro rfl (⟨(RX8, TX8, 10), "SpotTimers$Tally", rfl, by decide, tm_1 _ (List.mem_of_getElem? (i := 165) rfl) rfl, Or.inl rfl, Or.inl rfl, rfl⟩))
theorem oX8_init_75 : OKI 46 75 (.return_, 76, [], 0, 0, []) := And.intro dX8_init_75 rfl
def pfX8_init (pc : Nat) : Option XE := (bif Nat.blt pc 39 then (bif Nat.blt pc 20 then (bif Nat.blt pc 9 then (bif Nat.blt pc 4 then (bif Nat.blt pc 1 then (bif Nat.beq pc 0 then some (.aload_n 0, 1, [0], 0, 0, []) else none) else (bif Nat.beq pc 1 then some (.invokespecial 3, 4, [9004], 0, 0, []) else none)) else (bif Nat.blt pc 5 then (bif Nat.beq pc 4 then some (.aload_n 0, 5, [0], 0, 0, []) else none) else (bif Nat.blt pc 7 then (bif Nat.beq pc 5 then some (.bipush 90, 7, [], 90, 0, []) else none) else (bif Nat.beq pc 7 then some (.newarray .int, 9, [107], 0, 0, []) else none)))) else (bif Nat.blt pc 13 then (bif Nat.blt pc 12 then (bif Nat.beq pc 9 then some (.putfield 9, 12, [9, 0, 2], 0, 0, []) else none) else (bif Nat.beq pc 12 then some (.aload_n 0, 13, [0], 0, 0, []) else none)) else (bif Nat.blt pc 15 then (bif Nat.beq pc 13 then some (.bipush 90, 15, [], 90, 0, []) else none) else (bif Nat.blt pc 17 then (bif Nat.beq pc 15 then some (.newarray .int, 17, [108], 0, 0, []) else none) else (bif Nat.beq pc 17 then some (.putfield 15, 20, [9, 1, 2], 0, 0, []) else none))))) else (bif Nat.blt pc 29 then (bif Nat.blt pc 23 then (bif Nat.blt pc 21 then (bif Nat.beq pc 20 then some (.aload_n 0, 21, [0], 0, 0, []) else none) else (bif Nat.beq pc 21 then some (.bipush 90, 23, [], 90, 0, []) else none)) else (bif Nat.blt pc 25 then (bif Nat.beq pc 23 then some (.newarray .int, 25, [109], 0, 0, []) else none) else (bif Nat.blt pc 28 then (bif Nat.beq pc 25 then some (.putfield 18, 28, [9, 2, 2], 0, 0, []) else none) else (bif Nat.beq pc 28 then some (.aload_n 0, 29, [0], 0, 0, []) else none)))) else (bif Nat.blt pc 33 then (bif Nat.blt pc 31 then (bif Nat.beq pc 29 then some (.bipush 90, 31, [], 90, 0, []) else none) else (bif Nat.beq pc 31 then some (.newarray .int, 33, [110], 0, 0, []) else none)) else (bif Nat.blt pc 36 then (bif Nat.beq pc 33 then some (.putfield 21, 36, [9, 3, 2], 0, 0, []) else none) else (bif Nat.blt pc 37 then (bif Nat.beq pc 36 then some (.aload_n 0, 37, [0], 0, 0, []) else none) else (bif Nat.beq pc 37 then some (.bipush 90, 39, [], 90, 0, []) else none)))))) else (bif Nat.blt pc 60 then (bif Nat.blt pc 49 then (bif Nat.blt pc 44 then (bif Nat.blt pc 41 then (bif Nat.beq pc 39 then some (.newarray .int, 41, [111], 0, 0, []) else none) else (bif Nat.beq pc 41 then some (.putfield 24, 44, [9, 4, 2], 0, 0, []) else none)) else (bif Nat.blt pc 45 then (bif Nat.beq pc 44 then some (.aload_n 0, 45, [0], 0, 0, []) else none) else (bif Nat.blt pc 47 then (bif Nat.beq pc 45 then some (.bipush 11, 47, [], 11, 0, []) else none) else (bif Nat.beq pc 47 then some (.newarray .int, 49, [112], 0, 0, []) else none)))) else (bif Nat.blt pc 53 then (bif Nat.blt pc 52 then (bif Nat.beq pc 49 then some (.putfield 27, 52, [9, 5, 2], 0, 0, []) else none) else (bif Nat.beq pc 52 then some (.aload_n 0, 53, [0], 0, 0, []) else none)) else (bif Nat.blt pc 55 then (bif Nat.beq pc 53 then some (.bipush 17, 55, [], 17, 0, []) else none) else (bif Nat.blt pc 57 then (bif Nat.beq pc 55 then some (.newarray .int, 57, [113], 0, 0, []) else none) else (bif Nat.beq pc 57 then some (.putfield 30, 60, [9, 6, 2], 0, 0, []) else none))))) else (bif Nat.blt pc 67 then (bif Nat.blt pc 62 then (bif Nat.blt pc 61 then (bif Nat.beq pc 60 then some (.aload_n 0, 61, [0], 0, 0, []) else none) else (bif Nat.beq pc 61 then some (.iconst 0, 62, [], 0, 0, []) else none)) else (bif Nat.blt pc 65 then (bif Nat.beq pc 62 then some (.putfield 33, 65, [9, 7, 0], 0, 0, []) else none) else (bif Nat.blt pc 66 then (bif Nat.beq pc 65 then some (.aload_n 0, 66, [0], 0, 0, []) else none) else (bif Nat.beq pc 66 then some (.lconst 0, 67, [], 0, 0, []) else none)))) else (bif Nat.blt pc 71 then (bif Nat.blt pc 70 then (bif Nat.beq pc 67 then some (.putfield 37, 70, [9, 8, 1], 0, 0, []) else none) else (bif Nat.beq pc 70 then some (.aload_n 0, 71, [0], 0, 0, []) else none)) else (bif Nat.blt pc 72 then (bif Nat.beq pc 71 then some (.lconst 0, 72, [], 0, 0, []) else none) else (bif Nat.blt pc 75 then (bif Nat.beq pc 72 then some (.putfield 41, 75, [9, 9, 1], 0, 0, []) else none) else (bif Nat.beq pc 75 then some (.return_, 76, [], 0, 0, []) else none)))))))
theorem okX8_init : ∀ pc Y, pfX8_init pc = some Y → OKI m_X8_init pc Y := fun pc Y => ((bt_node (bt_node (bt_node (bt_node (bt_node (bt_leaf (P := OKI m_X8_init) oX8_init_0) (bt_leaf (P := OKI m_X8_init) oX8_init_1)) (bt_node (bt_leaf (P := OKI m_X8_init) oX8_init_4) (bt_node (bt_leaf (P := OKI m_X8_init) oX8_init_5) (bt_leaf (P := OKI m_X8_init) oX8_init_7)))) (bt_node (bt_node (bt_leaf (P := OKI m_X8_init) oX8_init_9) (bt_leaf (P := OKI m_X8_init) oX8_init_12)) (bt_node (bt_leaf (P := OKI m_X8_init) oX8_init_13) (bt_node (bt_leaf (P := OKI m_X8_init) oX8_init_15) (bt_leaf (P := OKI m_X8_init) oX8_init_17))))) (bt_node (bt_node (bt_node (bt_leaf (P := OKI m_X8_init) oX8_init_20) (bt_leaf (P := OKI m_X8_init) oX8_init_21)) (bt_node (bt_leaf (P := OKI m_X8_init) oX8_init_23) (bt_node (bt_leaf (P := OKI m_X8_init) oX8_init_25) (bt_leaf (P := OKI m_X8_init) oX8_init_28)))) (bt_node (bt_node (bt_leaf (P := OKI m_X8_init) oX8_init_29) (bt_leaf (P := OKI m_X8_init) oX8_init_31)) (bt_node (bt_leaf (P := OKI m_X8_init) oX8_init_33) (bt_node (bt_leaf (P := OKI m_X8_init) oX8_init_36) (bt_leaf (P := OKI m_X8_init) oX8_init_37)))))) (bt_node (bt_node (bt_node (bt_node (bt_leaf (P := OKI m_X8_init) oX8_init_39) (bt_leaf (P := OKI m_X8_init) oX8_init_41)) (bt_node (bt_leaf (P := OKI m_X8_init) oX8_init_44) (bt_node (bt_leaf (P := OKI m_X8_init) oX8_init_45) (bt_leaf (P := OKI m_X8_init) oX8_init_47)))) (bt_node (bt_node (bt_leaf (P := OKI m_X8_init) oX8_init_49) (bt_leaf (P := OKI m_X8_init) oX8_init_52)) (bt_node (bt_leaf (P := OKI m_X8_init) oX8_init_53) (bt_node (bt_leaf (P := OKI m_X8_init) oX8_init_55) (bt_leaf (P := OKI m_X8_init) oX8_init_57))))) (bt_node (bt_node (bt_node (bt_leaf (P := OKI m_X8_init) oX8_init_60) (bt_leaf (P := OKI m_X8_init) oX8_init_61)) (bt_node (bt_leaf (P := OKI m_X8_init) oX8_init_62) (bt_node (bt_leaf (P := OKI m_X8_init) oX8_init_65) (bt_leaf (P := OKI m_X8_init) oX8_init_66)))) (bt_node (bt_node (bt_leaf (P := OKI m_X8_init) oX8_init_67) (bt_leaf (P := OKI m_X8_init) oX8_init_70)) (bt_node (bt_leaf (P := OKI m_X8_init) oX8_init_71) (bt_node (bt_leaf (P := OKI m_X8_init) oX8_init_72) (bt_leaf (P := OKI m_X8_init) oX8_init_75))))))) : pfX8_init pc = some Y → OKI m_X8_init pc Y)
def stpX8_init (pc : Nat) : Option (List Bool) := (bif Nat.blt pc 70 then (bif Nat.beq pc 36 then some [true] else none) else (bif Nat.beq pc 70 then some [true] else none))
def bX8_init_0 (d rc rs : Nat) (t : Nat)  (σ : XH) (Q : XV → XH → Prop) : Prop :=
  ((1 ≤ d ∧ (¬ (90 : Int32) < 0 ∧ (90 : Int32).toNatClampNeg ≤ 100000 ∧ 1 ≤ rc ∧ (90 : Int32).toNatClampNeg ≤ rs ∧ (∀ h1, h1 = nwA σ 107 (90 : Int32).toNatClampNeg → ((∀ h2, h2 = wR h1 9 t 0 (some (107, hc σ 107)) → (¬ (90 : Int32) < 0 ∧ (90 : Int32).toNatClampNeg ≤ 100000 ∧ 1 ≤ rc - 1 ∧ (90 : Int32).toNatClampNeg ≤ rs - (90 : Int32).toNatClampNeg ∧ (∀ h3, h3 = nwA h2 108 (90 : Int32).toNatClampNeg → ((∀ h4, h4 = wR h3 9 t 1 (some (108, hc h2 108)) → (¬ (90 : Int32) < 0 ∧ (90 : Int32).toNatClampNeg ≤ 100000 ∧ 1 ≤ (rc - 1) - 1 ∧ (90 : Int32).toNatClampNeg ≤ (rs - (90 : Int32).toNatClampNeg) - (90 : Int32).toNatClampNeg ∧ (∀ h5, h5 = nwA h4 109 (90 : Int32).toNatClampNeg → ((∀ h6, h6 = wR h5 9 t 2 (some (109, hc h4 109)) → (¬ (90 : Int32) < 0 ∧ (90 : Int32).toNatClampNeg ≤ 100000 ∧ 1 ≤ ((rc - 1) - 1) - 1 ∧ (90 : Int32).toNatClampNeg ≤ ((rs - (90 : Int32).toNatClampNeg) - (90 : Int32).toNatClampNeg) - (90 : Int32).toNatClampNeg ∧ (∀ h7, h7 = nwA h6 110 (90 : Int32).toNatClampNeg → ((∀ h8, h8 = wR h7 9 t 3 (some (110, hc h6 110)) → Ex d ((((rc - 1) - 1) - 1) - 1) ((((rs - (90 : Int32).toNatClampNeg) - (90 : Int32).toNatClampNeg) - (90 : Int32).toNatClampNeg) - (90 : Int32).toNatClampNeg) m_X8_init 36 [vR (some (9, t))] [] h8 Q))))))))))))))))))
theorem sX8_init_0 {d rc rs : Nat} {t : Nat}  {σ : XH} {Q : XV → XH → Prop} (h : bX8_init_0 d rc rs t  σ Q) : Ex d rc rs m_X8_init 0 [vR (some (9, t))] [] σ Q :=
  xtree_sound (stop := stpX8_init) okX8_init 20 _ _ _ _ _ _ h
def bX8_init_36 (d rc rs : Nat) (t : Nat)  (σ : XH) (Q : XV → XH → Prop) : Prop :=
  (¬ (90 : Int32) < 0 ∧ (90 : Int32).toNatClampNeg ≤ 100000 ∧ 1 ≤ rc ∧ (90 : Int32).toNatClampNeg ≤ rs ∧ (∀ h1, h1 = nwA σ 111 (90 : Int32).toNatClampNeg → ((∀ h2, h2 = wR h1 9 t 4 (some (111, hc σ 111)) → (¬ (11 : Int32) < 0 ∧ (11 : Int32).toNatClampNeg ≤ 100000 ∧ 1 ≤ rc - 1 ∧ (11 : Int32).toNatClampNeg ≤ rs - (90 : Int32).toNatClampNeg ∧ (∀ h3, h3 = nwA h2 112 (11 : Int32).toNatClampNeg → ((∀ h4, h4 = wR h3 9 t 5 (some (112, hc h2 112)) → (¬ (17 : Int32) < 0 ∧ (17 : Int32).toNatClampNeg ≤ 100000 ∧ 1 ≤ (rc - 1) - 1 ∧ (17 : Int32).toNatClampNeg ≤ (rs - (90 : Int32).toNatClampNeg) - (11 : Int32).toNatClampNeg ∧ (∀ h5, h5 = nwA h4 113 (17 : Int32).toNatClampNeg → ((∀ h6, h6 = wR h5 9 t 6 (some (113, hc h4 113)) → ((∀ h7, h7 = wI h6 9 t 7 0 → ((∀ h8, h8 = wL h7 9 t 8 0 → Ex d (((rc - 1) - 1) - 1) (((rs - (90 : Int32).toNatClampNeg) - (11 : Int32).toNatClampNeg) - (17 : Int32).toNatClampNeg) m_X8_init 70 [vR (some (9, t))] [] h8 Q))))))))))))))))
theorem sX8_init_36 {d rc rs : Nat} {t : Nat}  {σ : XH} {Q : XV → XH → Prop} (h : bX8_init_36 d rc rs t  σ Q) : Ex d rc rs m_X8_init 36 [vR (some (9, t))] [] σ Q :=
  xtree_sound (stop := stpX8_init) okX8_init 20 _ _ _ _ _ _ h
def bX8_init_70 (d rc rs : Nat) (t : Nat)  (σ : XH) (Q : XV → XH → Prop) : Prop :=
  ((∀ h1, h1 = wL σ 9 t 9 0 → Q vU h1))
theorem sX8_init_70 {d rc rs : Nat} {t : Nat}  {σ : XH} {Q : XV → XH → Prop} (h : bX8_init_70 d rc rs t  σ Q) : Ex d rc rs m_X8_init 70 [vR (some (9, t))] [] σ Q :=
  xtree_sound (stop := stpX8_init) okX8_init 6 _ _ _ _ _ _ h
/-! SpotTimers$Tally.forgetHeard()V -/
theorem dX8_forgetHeard_0 : decode cX8_forgetHeard 0 = .ok (.aload_n 0, 1) := by decide +kernel
theorem dX8_forgetHeard_1 : decode cX8_forgetHeard 1 = .ok (.getfield 27, 3) := by decide +kernel
theorem dX8_forgetHeard_4 : decode cX8_forgetHeard 4 = .ok (.iconst 0, 1) := by decide +kernel
theorem dX8_forgetHeard_5 : decode cX8_forgetHeard 5 = .ok (.invokestatic 44, 3) := by decide +kernel
theorem dX8_forgetHeard_8 : decode cX8_forgetHeard 8 = .ok (.return_, 1) := by decide +kernel
theorem oX8_forgetHeard_0 : OKI 47 0 (.aload_n 0, 1, [0], 0, 0, []) := And.intro dX8_forgetHeard_0 (And.intro rfl (rfl))
theorem oX8_forgetHeard_1 : OKI 47 1 (.getfield 27, 4, [9, 5, 2, 112, 0], 0, 0, []) := And.intro dX8_forgetHeard_1 (And.intro rfl (⟨(RX8, TX8, 10), "SpotTimers$Tally", rfl, by decide, tm_1 _ (List.mem_of_getElem? (i := 159) rfl) rfl, Or.inl rfl, rfl, rfl⟩))
theorem oX8_forgetHeard_4 : OKI 47 4 (.iconst 0, 5, [], 0, 0, []) := And.intro dX8_forgetHeard_4 (And.intro rfl (by decide +kernel))
theorem oX8_forgetHeard_5 : OKI 47 5 (.invokestatic 44, 8, [276, 2, 0, 0, 0, 0], 0, 0, []) := And.intro dX8_forgetHeard_5 (And.intro rfl (And.intro rfl (And.intro mo_J7_fill_53178 (And.intro (Or.inl (tm_3 _ (List.mem_of_getElem? (i := 226) rfl) rfl)) (tm_3 _ (List.mem_of_getElem? (i := 227) rfl) rfl)))))
theorem oX8_forgetHeard_8 : OKI 47 8 (.return_, 9, [], 0, 0, []) := And.intro dX8_forgetHeard_8 rfl
def pfX8_forgetHeard (pc : Nat) : Option XE := (bif Nat.blt pc 4 then (bif Nat.blt pc 1 then (bif Nat.beq pc 0 then some (.aload_n 0, 1, [0], 0, 0, []) else none) else (bif Nat.beq pc 1 then some (.getfield 27, 4, [9, 5, 2, 112, 0], 0, 0, []) else none)) else (bif Nat.blt pc 5 then (bif Nat.beq pc 4 then some (.iconst 0, 5, [], 0, 0, []) else none) else (bif Nat.blt pc 8 then (bif Nat.beq pc 5 then some (.invokestatic 44, 8, [276, 2, 0, 0, 0, 0], 0, 0, []) else none) else (bif Nat.beq pc 8 then some (.return_, 9, [], 0, 0, []) else none))))
theorem okX8_forgetHeard : ∀ pc Y, pfX8_forgetHeard pc = some Y → OKI m_X8_forgetHeard pc Y := fun pc Y => ((bt_node (bt_node (bt_leaf (P := OKI m_X8_forgetHeard) oX8_forgetHeard_0) (bt_leaf (P := OKI m_X8_forgetHeard) oX8_forgetHeard_1)) (bt_node (bt_leaf (P := OKI m_X8_forgetHeard) oX8_forgetHeard_4) (bt_node (bt_leaf (P := OKI m_X8_forgetHeard) oX8_forgetHeard_5) (bt_leaf (P := OKI m_X8_forgetHeard) oX8_forgetHeard_8)))) : pfX8_forgetHeard pc = some Y → OKI m_X8_forgetHeard pc Y)
def stpX8_forgetHeard (_ : Nat) : Option (List Bool) := none
def bX8_forgetHeard_0 (d rc rs : Nat) (t : Nat)  (σ : XH) (Q : XV → XH → Prop) : Prop :=
  ((hr σ 9 t 5 = some (112, t) ∧ (1 ≤ d ∧ Ec (d - 1) 0 0 m_J7_fill_53178 [vR (some (112, t)), vI 0] σ (kU fun h1 => Q vU h1))))
theorem sX8_forgetHeard_0 {d rc rs : Nat} {t : Nat}  {σ : XH} {Q : XV → XH → Prop} (h : bX8_forgetHeard_0 d rc rs t  σ Q) : Ex d rc rs m_X8_forgetHeard 0 [vR (some (9, t))] [] σ Q :=
  xtree_sound (stop := stpX8_forgetHeard) okX8_forgetHeard 7 _ _ _ _ _ _ h
/-! SpotTimers$Tally.hearFrom(II)V -/
theorem dX8_hearFrom_0 : decode cX8_hearFrom 0 = .ok (.iload_n 1, 1) := by decide +kernel
theorem dX8_hearFrom_1 : decode cX8_hearFrom 1 = .ok (.ifCond .lt 28, 3) := by decide +kernel
theorem dX8_hearFrom_4 : decode cX8_hearFrom 4 = .ok (.iload_n 1, 1) := by decide +kernel
theorem dX8_hearFrom_5 : decode cX8_hearFrom 5 = .ok (.aload_n 0, 1) := by decide +kernel
theorem dX8_hearFrom_6 : decode cX8_hearFrom 6 = .ok (.getfield 27, 3) := by decide +kernel
theorem dX8_hearFrom_9 : decode cX8_hearFrom 9 = .ok (.arraylength, 1) := by decide +kernel
theorem dX8_hearFrom_10 : decode cX8_hearFrom 10 = .ok (.if_icmp .ge 19, 3) := by decide +kernel
theorem dX8_hearFrom_13 : decode cX8_hearFrom 13 = .ok (.aload_n 0, 1) := by decide +kernel
theorem dX8_hearFrom_14 : decode cX8_hearFrom 14 = .ok (.getfield 27, 3) := by decide +kernel
theorem dX8_hearFrom_17 : decode cX8_hearFrom 17 = .ok (.iload_n 1, 1) := by decide +kernel
theorem dX8_hearFrom_18 : decode cX8_hearFrom 18 = .ok (.aload_n 0, 1) := by decide +kernel
theorem dX8_hearFrom_19 : decode cX8_hearFrom 19 = .ok (.getfield 27, 3) := by decide +kernel
theorem dX8_hearFrom_22 : decode cX8_hearFrom 22 = .ok (.iload_n 1, 1) := by decide +kernel
theorem dX8_hearFrom_23 : decode cX8_hearFrom 23 = .ok (.iaload, 1) := by decide +kernel
theorem dX8_hearFrom_24 : decode cX8_hearFrom 24 = .ok (.iload_n 2, 1) := by decide +kernel
theorem dX8_hearFrom_25 : decode cX8_hearFrom 25 = .ok (.invokestatic 50, 3) := by decide +kernel
theorem dX8_hearFrom_28 : decode cX8_hearFrom 28 = .ok (.iastore, 1) := by decide +kernel
theorem dX8_hearFrom_29 : decode cX8_hearFrom 29 = .ok (.return_, 1) := by decide +kernel
theorem oX8_hearFrom_0 : OKI 48 0 (.iload_n 1, 1, [1], 0, 0, []) := And.intro dX8_hearFrom_0 (And.intro rfl (rfl))
theorem oX8_hearFrom_1 : OKI 48 1 (.ifCond .lt 28, 4, [29], 0, 0, []) := And.intro dX8_hearFrom_1 (And.intro rfl (by decide))
theorem oX8_hearFrom_4 : OKI 48 4 (.iload_n 1, 5, [1], 0, 0, []) := And.intro dX8_hearFrom_4 (And.intro rfl (rfl))
theorem oX8_hearFrom_5 : OKI 48 5 (.aload_n 0, 6, [0], 0, 0, []) := And.intro dX8_hearFrom_5 (And.intro rfl (rfl))
theorem oX8_hearFrom_6 : OKI 48 6 (.getfield 27, 9, [9, 5, 2, 112, 0], 0, 0, []) := And.intro dX8_hearFrom_6 (And.intro rfl (⟨(RX8, TX8, 10), "SpotTimers$Tally", rfl, by decide, tm_1 _ (List.mem_of_getElem? (i := 159) rfl) rfl, Or.inl rfl, rfl, rfl⟩))
theorem oX8_hearFrom_9 : OKI 48 9 (.arraylength, 10, [], 0, 0, []) := And.intro dX8_hearFrom_9 rfl
theorem oX8_hearFrom_10 : OKI 48 10 (.if_icmp .ge 19, 13, [29], 0, 0, []) := And.intro dX8_hearFrom_10 (And.intro rfl (by decide))
theorem oX8_hearFrom_13 : OKI 48 13 (.aload_n 0, 14, [0], 0, 0, []) := And.intro dX8_hearFrom_13 (And.intro rfl (rfl))
theorem oX8_hearFrom_14 : OKI 48 14 (.getfield 27, 17, [9, 5, 2, 112, 0], 0, 0, []) := And.intro dX8_hearFrom_14 (And.intro rfl (⟨(RX8, TX8, 10), "SpotTimers$Tally", rfl, by decide, tm_1 _ (List.mem_of_getElem? (i := 159) rfl) rfl, Or.inl rfl, rfl, rfl⟩))
theorem oX8_hearFrom_17 : OKI 48 17 (.iload_n 1, 18, [1], 0, 0, []) := And.intro dX8_hearFrom_17 (And.intro rfl (rfl))
theorem oX8_hearFrom_18 : OKI 48 18 (.aload_n 0, 19, [0], 0, 0, []) := And.intro dX8_hearFrom_18 (And.intro rfl (rfl))
theorem oX8_hearFrom_19 : OKI 48 19 (.getfield 27, 22, [9, 5, 2, 112, 0], 0, 0, []) := And.intro dX8_hearFrom_19 (And.intro rfl (⟨(RX8, TX8, 10), "SpotTimers$Tally", rfl, by decide, tm_1 _ (List.mem_of_getElem? (i := 159) rfl) rfl, Or.inl rfl, rfl, rfl⟩))
theorem oX8_hearFrom_22 : OKI 48 22 (.iload_n 1, 23, [1], 0, 0, []) := And.intro dX8_hearFrom_22 (And.intro rfl (rfl))
theorem oX8_hearFrom_23 : OKI 48 23 (.iaload, 24, [], 0, 0, []) := And.intro dX8_hearFrom_23 rfl
theorem oX8_hearFrom_24 : OKI 48 24 (.iload_n 2, 25, [2], 0, 0, []) := And.intro dX8_hearFrom_24 (And.intro rfl (rfl))
theorem oX8_hearFrom_25 : OKI 48 25 (.invokestatic 50, 28, [252, 2, 0, 0, 0, 1], 0, 0, []) := And.intro dX8_hearFrom_25 (And.intro rfl (And.intro rfl (And.intro mo_J9_max_7cf53 (And.intro (Or.inl (tm_3 _ (List.mem_of_getElem? (i := 233) rfl) rfl)) (tm_1 _ (List.mem_of_getElem? (i := 89) rfl) rfl)))))
theorem oX8_hearFrom_28 : OKI 48 28 (.iastore, 29, [], 0, 0, []) := And.intro dX8_hearFrom_28 rfl
theorem oX8_hearFrom_29 : OKI 48 29 (.return_, 30, [], 0, 0, []) := And.intro dX8_hearFrom_29 rfl
def pfX8_hearFrom (pc : Nat) : Option XE := (bif Nat.blt pc 17 then (bif Nat.blt pc 6 then (bif Nat.blt pc 4 then (bif Nat.blt pc 1 then (bif Nat.beq pc 0 then some (.iload_n 1, 1, [1], 0, 0, []) else none) else (bif Nat.beq pc 1 then some (.ifCond .lt 28, 4, [29], 0, 0, []) else none)) else (bif Nat.blt pc 5 then (bif Nat.beq pc 4 then some (.iload_n 1, 5, [1], 0, 0, []) else none) else (bif Nat.beq pc 5 then some (.aload_n 0, 6, [0], 0, 0, []) else none))) else (bif Nat.blt pc 10 then (bif Nat.blt pc 9 then (bif Nat.beq pc 6 then some (.getfield 27, 9, [9, 5, 2, 112, 0], 0, 0, []) else none) else (bif Nat.beq pc 9 then some (.arraylength, 10, [], 0, 0, []) else none)) else (bif Nat.blt pc 13 then (bif Nat.beq pc 10 then some (.if_icmp .ge 19, 13, [29], 0, 0, []) else none) else (bif Nat.blt pc 14 then (bif Nat.beq pc 13 then some (.aload_n 0, 14, [0], 0, 0, []) else none) else (bif Nat.beq pc 14 then some (.getfield 27, 17, [9, 5, 2, 112, 0], 0, 0, []) else none))))) else (bif Nat.blt pc 23 then (bif Nat.blt pc 19 then (bif Nat.blt pc 18 then (bif Nat.beq pc 17 then some (.iload_n 1, 18, [1], 0, 0, []) else none) else (bif Nat.beq pc 18 then some (.aload_n 0, 19, [0], 0, 0, []) else none)) else (bif Nat.blt pc 22 then (bif Nat.beq pc 19 then some (.getfield 27, 22, [9, 5, 2, 112, 0], 0, 0, []) else none) else (bif Nat.beq pc 22 then some (.iload_n 1, 23, [1], 0, 0, []) else none))) else (bif Nat.blt pc 25 then (bif Nat.blt pc 24 then (bif Nat.beq pc 23 then some (.iaload, 24, [], 0, 0, []) else none) else (bif Nat.beq pc 24 then some (.iload_n 2, 25, [2], 0, 0, []) else none)) else (bif Nat.blt pc 28 then (bif Nat.beq pc 25 then some (.invokestatic 50, 28, [252, 2, 0, 0, 0, 1], 0, 0, []) else none) else (bif Nat.blt pc 29 then (bif Nat.beq pc 28 then some (.iastore, 29, [], 0, 0, []) else none) else (bif Nat.beq pc 29 then some (.return_, 30, [], 0, 0, []) else none))))))
theorem okX8_hearFrom : ∀ pc Y, pfX8_hearFrom pc = some Y → OKI m_X8_hearFrom pc Y := fun pc Y => ((bt_node (bt_node (bt_node (bt_node (bt_leaf (P := OKI m_X8_hearFrom) oX8_hearFrom_0) (bt_leaf (P := OKI m_X8_hearFrom) oX8_hearFrom_1)) (bt_node (bt_leaf (P := OKI m_X8_hearFrom) oX8_hearFrom_4) (bt_leaf (P := OKI m_X8_hearFrom) oX8_hearFrom_5))) (bt_node (bt_node (bt_leaf (P := OKI m_X8_hearFrom) oX8_hearFrom_6) (bt_leaf (P := OKI m_X8_hearFrom) oX8_hearFrom_9)) (bt_node (bt_leaf (P := OKI m_X8_hearFrom) oX8_hearFrom_10) (bt_node (bt_leaf (P := OKI m_X8_hearFrom) oX8_hearFrom_13) (bt_leaf (P := OKI m_X8_hearFrom) oX8_hearFrom_14))))) (bt_node (bt_node (bt_node (bt_leaf (P := OKI m_X8_hearFrom) oX8_hearFrom_17) (bt_leaf (P := OKI m_X8_hearFrom) oX8_hearFrom_18)) (bt_node (bt_leaf (P := OKI m_X8_hearFrom) oX8_hearFrom_19) (bt_leaf (P := OKI m_X8_hearFrom) oX8_hearFrom_22))) (bt_node (bt_node (bt_leaf (P := OKI m_X8_hearFrom) oX8_hearFrom_23) (bt_leaf (P := OKI m_X8_hearFrom) oX8_hearFrom_24)) (bt_node (bt_leaf (P := OKI m_X8_hearFrom) oX8_hearFrom_25) (bt_node (bt_leaf (P := OKI m_X8_hearFrom) oX8_hearFrom_28) (bt_leaf (P := OKI m_X8_hearFrom) oX8_hearFrom_29)))))) : pfX8_hearFrom pc = some Y → OKI m_X8_hearFrom pc Y)
def stpX8_hearFrom (pc : Nat) : Option (List Bool) := (bif Nat.beq pc 29 then some [false, false, false] else none)
def bX8_hearFrom_0 (d rc rs : Nat) (t : Nat) (a1 : Int32) (a2 : Int32) (σ : XH) (Q : XV → XH → Prop) : Prop :=
  ((a1 < 0 → Ex d rc rs m_X8_hearFrom 29 [vU, vU, vU] [] σ Q) ∧ (¬ a1 < 0 → ((hr σ 9 t 5 = some (112, t) ∧ (((a1 < (Int32.ofNat (hn σ 112 t)) → ((hr σ 9 t 5 = some (112, t) ∧ ((hr σ 9 t 5 = some (112, t) ∧ ((vp_in a1 (hn σ 112 t) ∧ (1 ≤ d ∧ Ec (d - 1) 0 0 m_J9_max_7cf53 [vI (hi σ 112 t a1.toNatClampNeg), vI a2] σ (kI fun x2 h1 => ((vp_in a1 (hn h1 112 t) ∧ (∀ h3, h3 = wI h1 112 t a1.toNatClampNeg x2 → Ex d rc rs m_X8_hearFrom 29 [vU, vU, vU] [] h3 Q)))))))))))) ∧ (¬ a1 < (Int32.ofNat (hn σ 112 t)) → Ex d rc rs m_X8_hearFrom 29 [vU, vU, vU] [] σ Q)))))))
theorem sX8_hearFrom_0 {d rc rs : Nat} {t : Nat} {a1 : Int32} {a2 : Int32} {σ : XH} {Q : XV → XH → Prop} (h : bX8_hearFrom_0 d rc rs t a1 a2 σ Q) : Ex d rc rs m_X8_hearFrom 0 [vR (some (9, t)), vI a1, vI a2] [] σ Q :=
  xtree_sound (stop := stpX8_hearFrom) okX8_hearFrom 19 _ _ _ _ _ _ h
def bX8_hearFrom_29 (d rc rs : Nat)  (σ : XH) (Q : XV → XH → Prop) : Prop :=
  Q vU σ
theorem sX8_hearFrom_29 {d rc rs : Nat}  {σ : XH} {Q : XV → XH → Prop} (h : bX8_hearFrom_29 d rc rs  σ Q) : Ex d rc rs m_X8_hearFrom 29 [vU, vU, vU] [] σ Q :=
  xtree_sound (stop := stpX8_hearFrom) okX8_hearFrom 3 _ _ _ _ _ _ h
/-! SpotTimers$Tally.heardFrom(I)I -/
theorem dX8_heardFrom_0 : decode cX8_heardFrom 0 = .ok (.iload_n 1, 1) := by decide +kernel
theorem dX8_heardFrom_1 : decode cX8_heardFrom 1 = .ok (.ifCond .lt 21, 3) := by decide +kernel
theorem dX8_heardFrom_4 : decode cX8_heardFrom 4 = .ok (.iload_n 1, 1) := by decide +kernel
theorem dX8_heardFrom_5 : decode cX8_heardFrom 5 = .ok (.aload_n 0, 1) := by decide +kernel
theorem dX8_heardFrom_6 : decode cX8_heardFrom 6 = .ok (.getfield 27, 3) := by decide +kernel
theorem dX8_heardFrom_9 : decode cX8_heardFrom 9 = .ok (.arraylength, 1) := by decide +kernel
theorem dX8_heardFrom_10 : decode cX8_heardFrom 10 = .ok (.if_icmp .ge 12, 3) := by decide +kernel
theorem dX8_heardFrom_13 : decode cX8_heardFrom 13 = .ok (.aload_n 0, 1) := by decide +kernel
theorem dX8_heardFrom_14 : decode cX8_heardFrom 14 = .ok (.getfield 27, 3) := by decide +kernel
theorem dX8_heardFrom_17 : decode cX8_heardFrom 17 = .ok (.iload_n 1, 1) := by decide +kernel
theorem dX8_heardFrom_18 : decode cX8_heardFrom 18 = .ok (.iaload, 1) := by decide +kernel
theorem dX8_heardFrom_19 : decode cX8_heardFrom 19 = .ok (.goto 4, 3) := by decide +kernel
theorem dX8_heardFrom_22 : decode cX8_heardFrom 22 = .ok (.iconst 0, 1) := by decide +kernel
theorem dX8_heardFrom_23 : decode cX8_heardFrom 23 = .ok (.ireturn, 1) := by decide +kernel
theorem oX8_heardFrom_0 : OKI 49 0 (.iload_n 1, 1, [1], 0, 0, []) := And.intro dX8_heardFrom_0 (And.intro rfl (rfl))
theorem oX8_heardFrom_1 : OKI 49 1 (.ifCond .lt 21, 4, [22], 0, 0, []) := And.intro dX8_heardFrom_1 (And.intro rfl (by decide))
theorem oX8_heardFrom_4 : OKI 49 4 (.iload_n 1, 5, [1], 0, 0, []) := And.intro dX8_heardFrom_4 (And.intro rfl (rfl))
theorem oX8_heardFrom_5 : OKI 49 5 (.aload_n 0, 6, [0], 0, 0, []) := And.intro dX8_heardFrom_5 (And.intro rfl (rfl))
theorem oX8_heardFrom_6 : OKI 49 6 (.getfield 27, 9, [9, 5, 2, 112, 0], 0, 0, []) := And.intro dX8_heardFrom_6 (And.intro rfl (⟨(RX8, TX8, 10), "SpotTimers$Tally", rfl, by decide, tm_1 _ (List.mem_of_getElem? (i := 159) rfl) rfl, Or.inl rfl, rfl, rfl⟩))
theorem oX8_heardFrom_9 : OKI 49 9 (.arraylength, 10, [], 0, 0, []) := And.intro dX8_heardFrom_9 rfl
theorem oX8_heardFrom_10 : OKI 49 10 (.if_icmp .ge 12, 13, [22], 0, 0, []) := And.intro dX8_heardFrom_10 (And.intro rfl (by decide))
theorem oX8_heardFrom_13 : OKI 49 13 (.aload_n 0, 14, [0], 0, 0, []) := And.intro dX8_heardFrom_13 (And.intro rfl (rfl))
theorem oX8_heardFrom_14 : OKI 49 14 (.getfield 27, 17, [9, 5, 2, 112, 0], 0, 0, []) := And.intro dX8_heardFrom_14 (And.intro rfl (⟨(RX8, TX8, 10), "SpotTimers$Tally", rfl, by decide, tm_1 _ (List.mem_of_getElem? (i := 159) rfl) rfl, Or.inl rfl, rfl, rfl⟩))
theorem oX8_heardFrom_17 : OKI 49 17 (.iload_n 1, 18, [1], 0, 0, []) := And.intro dX8_heardFrom_17 (And.intro rfl (rfl))
theorem oX8_heardFrom_18 : OKI 49 18 (.iaload, 19, [], 0, 0, []) := And.intro dX8_heardFrom_18 rfl
theorem oX8_heardFrom_19 : OKI 49 19 (.goto 4, 22, [23], 0, 0, []) := And.intro dX8_heardFrom_19 (And.intro rfl (by decide))
theorem oX8_heardFrom_22 : OKI 49 22 (.iconst 0, 23, [], 0, 0, []) := And.intro dX8_heardFrom_22 (And.intro rfl (by decide +kernel))
theorem oX8_heardFrom_23 : OKI 49 23 (.ireturn, 24, [0], 0, 0, []) := And.intro dX8_heardFrom_23 (Or.inl (And.intro rfl rfl))
def pfX8_heardFrom (pc : Nat) : Option XE := (bif Nat.blt pc 13 then (bif Nat.blt pc 5 then (bif Nat.blt pc 1 then (bif Nat.beq pc 0 then some (.iload_n 1, 1, [1], 0, 0, []) else none) else (bif Nat.blt pc 4 then (bif Nat.beq pc 1 then some (.ifCond .lt 21, 4, [22], 0, 0, []) else none) else (bif Nat.beq pc 4 then some (.iload_n 1, 5, [1], 0, 0, []) else none))) else (bif Nat.blt pc 9 then (bif Nat.blt pc 6 then (bif Nat.beq pc 5 then some (.aload_n 0, 6, [0], 0, 0, []) else none) else (bif Nat.beq pc 6 then some (.getfield 27, 9, [9, 5, 2, 112, 0], 0, 0, []) else none)) else (bif Nat.blt pc 10 then (bif Nat.beq pc 9 then some (.arraylength, 10, [], 0, 0, []) else none) else (bif Nat.beq pc 10 then some (.if_icmp .ge 12, 13, [22], 0, 0, []) else none)))) else (bif Nat.blt pc 18 then (bif Nat.blt pc 14 then (bif Nat.beq pc 13 then some (.aload_n 0, 14, [0], 0, 0, []) else none) else (bif Nat.blt pc 17 then (bif Nat.beq pc 14 then some (.getfield 27, 17, [9, 5, 2, 112, 0], 0, 0, []) else none) else (bif Nat.beq pc 17 then some (.iload_n 1, 18, [1], 0, 0, []) else none))) else (bif Nat.blt pc 22 then (bif Nat.blt pc 19 then (bif Nat.beq pc 18 then some (.iaload, 19, [], 0, 0, []) else none) else (bif Nat.beq pc 19 then some (.goto 4, 22, [23], 0, 0, []) else none)) else (bif Nat.blt pc 23 then (bif Nat.beq pc 22 then some (.iconst 0, 23, [], 0, 0, []) else none) else (bif Nat.beq pc 23 then some (.ireturn, 24, [0], 0, 0, []) else none)))))
theorem okX8_heardFrom : ∀ pc Y, pfX8_heardFrom pc = some Y → OKI m_X8_heardFrom pc Y := fun pc Y => ((bt_node (bt_node (bt_node (bt_leaf (P := OKI m_X8_heardFrom) oX8_heardFrom_0) (bt_node (bt_leaf (P := OKI m_X8_heardFrom) oX8_heardFrom_1) (bt_leaf (P := OKI m_X8_heardFrom) oX8_heardFrom_4))) (bt_node (bt_node (bt_leaf (P := OKI m_X8_heardFrom) oX8_heardFrom_5) (bt_leaf (P := OKI m_X8_heardFrom) oX8_heardFrom_6)) (bt_node (bt_leaf (P := OKI m_X8_heardFrom) oX8_heardFrom_9) (bt_leaf (P := OKI m_X8_heardFrom) oX8_heardFrom_10)))) (bt_node (bt_node (bt_leaf (P := OKI m_X8_heardFrom) oX8_heardFrom_13) (bt_node (bt_leaf (P := OKI m_X8_heardFrom) oX8_heardFrom_14) (bt_leaf (P := OKI m_X8_heardFrom) oX8_heardFrom_17))) (bt_node (bt_node (bt_leaf (P := OKI m_X8_heardFrom) oX8_heardFrom_18) (bt_leaf (P := OKI m_X8_heardFrom) oX8_heardFrom_19)) (bt_node (bt_leaf (P := OKI m_X8_heardFrom) oX8_heardFrom_22) (bt_leaf (P := OKI m_X8_heardFrom) oX8_heardFrom_23))))) : pfX8_heardFrom pc = some Y → OKI m_X8_heardFrom pc Y)
def stpX8_heardFrom (pc : Nat) : Option (List Bool) := (bif Nat.blt pc 23 then (bif Nat.beq pc 22 then some [false, false] else none) else (bif Nat.beq pc 23 then some [false, false] else none))
def bX8_heardFrom_0 (d rc rs : Nat) (t : Nat) (a1 : Int32) (σ : XH) (Q : XV → XH → Prop) : Prop :=
  ((a1 < 0 → Ex d rc rs m_X8_heardFrom 22 [vU, vU] [] σ Q) ∧ (¬ a1 < 0 → ((hr σ 9 t 5 = some (112, t) ∧ (((a1 < (Int32.ofNat (hn σ 112 t)) → ((hr σ 9 t 5 = some (112, t) ∧ ((vp_in a1 (hn σ 112 t) ∧ Ex d rc rs m_X8_heardFrom 23 [vU, vU] [vI (hi σ 112 t a1.toNatClampNeg)] σ Q))))) ∧ (¬ a1 < (Int32.ofNat (hn σ 112 t)) → Ex d rc rs m_X8_heardFrom 22 [vU, vU] [] σ Q)))))))
theorem sX8_heardFrom_0 {d rc rs : Nat} {t : Nat} {a1 : Int32} {σ : XH} {Q : XV → XH → Prop} (h : bX8_heardFrom_0 d rc rs t a1 σ Q) : Ex d rc rs m_X8_heardFrom 0 [vR (some (9, t)), vI a1] [] σ Q :=
  xtree_sound (stop := stpX8_heardFrom) okX8_heardFrom 14 _ _ _ _ _ _ h
def bX8_heardFrom_22 (d rc rs : Nat)  (σ : XH) (Q : XV → XH → Prop) : Prop :=
  Ex d rc rs m_X8_heardFrom 23 [vU, vU] [vI 0] σ Q
theorem sX8_heardFrom_22 {d rc rs : Nat}  {σ : XH} {Q : XV → XH → Prop} (h : bX8_heardFrom_22 d rc rs  σ Q) : Ex d rc rs m_X8_heardFrom 22 [vU, vU] [] σ Q :=
  xtree_sound (stop := stpX8_heardFrom) okX8_heardFrom 3 _ _ _ _ _ _ h
def bX8_heardFrom_23 (d rc rs : Nat) (q0 : Int32) (σ : XH) (Q : XV → XH → Prop) : Prop :=
  Q (vI q0) σ
theorem sX8_heardFrom_23 {d rc rs : Nat} {q0 : Int32} {σ : XH} {Q : XV → XH → Prop} (h : bX8_heardFrom_23 d rc rs q0 σ Q) : Ex d rc rs m_X8_heardFrom 23 [vU, vU] [vI q0] σ Q :=
  xtree_sound (stop := stpX8_heardFrom) okX8_heardFrom 3 _ _ _ _ _ _ h
/-! SpotTimers$Tally.add(LSpotTimers$Reading;III)V -/
theorem dX8_add_0 : decode cX8_add 0 = .ok (.aload_n 0, 1) := by decide +kernel
theorem dX8_add_1 : decode cX8_add 1 = .ok (.getfield 33, 3) := by decide +kernel
theorem dX8_add_4 : decode cX8_add 4 = .ok (.bipush 90, 2) := by decide +kernel
theorem dX8_add_6 : decode cX8_add 6 = .ok (.if_icmp .lt 4, 3) := by decide +kernel
theorem dX8_add_9 : decode cX8_add 9 = .ok (.return_, 1) := by decide +kernel
theorem dX8_add_10 : decode cX8_add 10 = .ok (.aload_n 0, 1) := by decide +kernel
theorem dX8_add_11 : decode cX8_add 11 = .ok (.getfield 9, 3) := by decide +kernel
theorem dX8_add_14 : decode cX8_add 14 = .ok (.aload_n 0, 1) := by decide +kernel
theorem dX8_add_15 : decode cX8_add 15 = .ok (.getfield 33, 3) := by decide +kernel
theorem dX8_add_18 : decode cX8_add 18 = .ok (.aload_n 1, 1) := by decide +kernel
theorem dX8_add_19 : decode cX8_add 19 = .ok (.getfield 56, 3) := by decide +kernel
theorem dX8_add_22 : decode cX8_add 22 = .ok (.iastore, 1) := by decide +kernel
theorem dX8_add_23 : decode cX8_add 23 = .ok (.aload_n 0, 1) := by decide +kernel
theorem dX8_add_24 : decode cX8_add 24 = .ok (.getfield 15, 3) := by decide +kernel
theorem dX8_add_27 : decode cX8_add 27 = .ok (.aload_n 0, 1) := by decide +kernel
theorem dX8_add_28 : decode cX8_add 28 = .ok (.getfield 33, 3) := by decide +kernel
theorem dX8_add_31 : decode cX8_add 31 = .ok (.iload_n 2, 1) := by decide +kernel
theorem dX8_add_32 : decode cX8_add 32 = .ok (.iastore, 1) := by decide +kernel
theorem dX8_add_33 : decode cX8_add 33 = .ok (.aload_n 0, 1) := by decide +kernel
theorem dX8_add_34 : decode cX8_add 34 = .ok (.getfield 18, 3) := by decide +kernel
theorem dX8_add_37 : decode cX8_add 37 = .ok (.aload_n 0, 1) := by decide +kernel
theorem dX8_add_38 : decode cX8_add 38 = .ok (.getfield 33, 3) := by decide +kernel
theorem dX8_add_41 : decode cX8_add 41 = .ok (.iload_n 3, 1) := by decide +kernel
theorem dX8_add_42 : decode cX8_add 42 = .ok (.iastore, 1) := by decide +kernel
theorem dX8_add_43 : decode cX8_add 43 = .ok (.aload_n 0, 1) := by decide +kernel
theorem dX8_add_44 : decode cX8_add 44 = .ok (.getfield 21, 3) := by decide +kernel
theorem dX8_add_47 : decode cX8_add 47 = .ok (.aload_n 0, 1) := by decide +kernel
theorem dX8_add_48 : decode cX8_add 48 = .ok (.getfield 33, 3) := by decide +kernel
theorem dX8_add_51 : decode cX8_add 51 = .ok (.aload_n 1, 1) := by decide +kernel
theorem dX8_add_52 : decode cX8_add 52 = .ok (.getfield 61, 3) := by decide +kernel
theorem dX8_add_55 : decode cX8_add 55 = .ok (.getfield 65, 3) := by decide +kernel
theorem dX8_add_58 : decode cX8_add 58 = .ok (.aload_n 1, 1) := by decide +kernel
theorem dX8_add_59 : decode cX8_add 59 = .ok (.invokevirtual 71, 3) := by decide +kernel
theorem dX8_add_62 : decode cX8_add 62 = .ok (.getfield 75, 3) := by decide +kernel
theorem dX8_add_65 : decode cX8_add 65 = .ok (.invokevirtual 78, 3) := by decide +kernel
theorem dX8_add_68 : decode cX8_add 68 = .ok (.iastore, 1) := by decide +kernel
theorem dX8_add_69 : decode cX8_add 69 = .ok (.aload_n 0, 1) := by decide +kernel
theorem dX8_add_70 : decode cX8_add 70 = .ok (.getfield 24, 3) := by decide +kernel
theorem dX8_add_73 : decode cX8_add 73 = .ok (.aload_n 0, 1) := by decide +kernel
theorem dX8_add_74 : decode cX8_add 74 = .ok (.getfield 33, 3) := by decide +kernel
theorem dX8_add_77 : decode cX8_add 77 = .ok (.iload_n 2, 1) := by decide +kernel
theorem dX8_add_78 : decode cX8_add 78 = .ok (.iload 4, 2) := by decide +kernel
theorem dX8_add_80 : decode cX8_add 80 = .ok (.isub, 1) := by decide +kernel
theorem dX8_add_81 : decode cX8_add 81 = .ok (.iastore, 1) := by decide +kernel
theorem dX8_add_82 : decode cX8_add 82 = .ok (.aload_n 0, 1) := by decide +kernel
theorem dX8_add_83 : decode cX8_add 83 = .ok (.dup, 1) := by decide +kernel
theorem dX8_add_84 : decode cX8_add 84 = .ok (.getfield 33, 3) := by decide +kernel
theorem dX8_add_87 : decode cX8_add 87 = .ok (.iconst 1, 1) := by decide +kernel
theorem dX8_add_88 : decode cX8_add 88 = .ok (.iadd, 1) := by decide +kernel
theorem dX8_add_89 : decode cX8_add 89 = .ok (.putfield 33, 3) := by decide +kernel
theorem dX8_add_92 : decode cX8_add 92 = .ok (.return_, 1) := by decide +kernel
theorem oX8_add_0 : OKI 50 0 (.aload_n 0, 1, [0], 0, 0, []) := And.intro dX8_add_0 (And.intro rfl (rfl))
theorem oX8_add_1 : OKI 50 1 (.getfield 33, 4, [9, 7, 0], 0, 0, []) := And.intro dX8_add_1 (And.intro rfl (⟨(RX8, TX8, 10), "SpotTimers$Tally", rfl, by decide, tm_1 _ (List.mem_of_getElem? (i := 161) rfl) rfl, Or.inl rfl, Or.inr (Or.inr (And.intro rfl (Or.inl rfl)))⟩))
theorem oX8_add_4 : OKI 50 4 (.bipush 90, 6, [], 90, 0, []) := And.intro dX8_add_4 (And.intro rfl (by decide +kernel))
theorem oX8_add_6 : OKI 50 6 (.if_icmp .lt 4, 9, [10], 0, 0, []) := And.intro dX8_add_6 (And.intro rfl (by decide))
theorem oX8_add_9 : OKI 50 9 (.return_, 10, [], 0, 0, []) := And.intro dX8_add_9 rfl
theorem oX8_add_10 : OKI 50 10 (.aload_n 0, 11, [0], 0, 0, []) := And.intro dX8_add_10 (And.intro rfl (rfl))
theorem oX8_add_11 : OKI 50 11 (.getfield 9, 14, [9, 0, 2, 107, 0], 0, 0, []) := And.intro dX8_add_11 (And.intro rfl (⟨(RX8, TX8, 10), "SpotTimers$Tally", rfl, by decide, tm_1 _ (List.mem_of_getElem? (i := 152) rfl) rfl, Or.inl rfl, rfl, rfl⟩))
theorem oX8_add_14 : OKI 50 14 (.aload_n 0, 15, [0], 0, 0, []) := And.intro dX8_add_14 (And.intro rfl (rfl))
theorem oX8_add_15 : OKI 50 15 (.getfield 33, 18, [9, 7, 0], 0, 0, []) := And.intro dX8_add_15 (And.intro rfl (⟨(RX8, TX8, 10), "SpotTimers$Tally", rfl, by decide, tm_1 _ (List.mem_of_getElem? (i := 161) rfl) rfl, Or.inl rfl, Or.inr (Or.inr (And.intro rfl (Or.inl rfl)))⟩))
theorem oX8_add_18 : OKI 50 18 (.aload_n 1, 19, [1], 0, 0, []) := And.intro dX8_add_18 (And.intro rfl (rfl))
theorem oX8_add_19 : OKI 50 19 (.getfield 56, 22, [5, 0, 0], 0, 0, []) := And.intro dX8_add_19 (And.intro rfl (⟨(RX4, TX4, 11), "SpotTimers$Reading", rfl, by decide, tm_3 _ (List.mem_of_getElem? (i := 49) rfl) rfl, Or.inl rfl, Or.inr (Or.inr (And.intro rfl (Or.inl rfl)))⟩))
theorem oX8_add_22 : OKI 50 22 (.iastore, 23, [], 0, 0, []) := And.intro dX8_add_22 rfl
theorem oX8_add_23 : OKI 50 23 (.aload_n 0, 24, [0], 0, 0, []) := And.intro dX8_add_23 (And.intro rfl (rfl))
theorem oX8_add_24 : OKI 50 24 (.getfield 15, 27, [9, 1, 2, 108, 0], 0, 0, []) := And.intro dX8_add_24 (And.intro rfl (⟨(RX8, TX8, 10), "SpotTimers$Tally", rfl, by decide, tm_1 _ (List.mem_of_getElem? (i := 154) rfl) rfl, Or.inl rfl, rfl, rfl⟩))
theorem oX8_add_27 : OKI 50 27 (.aload_n 0, 28, [0], 0, 0, []) := And.intro dX8_add_27 (And.intro rfl (rfl))
theorem oX8_add_28 : OKI 50 28 (.getfield 33, 31, [9, 7, 0], 0, 0, []) := And.intro dX8_add_28 (And.intro rfl (⟨(RX8, TX8, 10), "SpotTimers$Tally", rfl, by decide, tm_1 _ (List.mem_of_getElem? (i := 161) rfl) rfl, Or.inl rfl, Or.inr (Or.inr (And.intro rfl (Or.inl rfl)))⟩))
theorem oX8_add_31 : OKI 50 31 (.iload_n 2, 32, [2], 0, 0, []) := And.intro dX8_add_31 (And.intro rfl (rfl))
theorem oX8_add_32 : OKI 50 32 (.iastore, 33, [], 0, 0, []) := And.intro dX8_add_32 rfl
theorem oX8_add_33 : OKI 50 33 (.aload_n 0, 34, [0], 0, 0, []) := And.intro dX8_add_33 (And.intro rfl (rfl))
theorem oX8_add_34 : OKI 50 34 (.getfield 18, 37, [9, 2, 2, 109, 0], 0, 0, []) := And.intro dX8_add_34 (And.intro rfl (⟨(RX8, TX8, 10), "SpotTimers$Tally", rfl, by decide, tm_1 _ (List.mem_of_getElem? (i := 156) rfl) rfl, Or.inl rfl, rfl, rfl⟩))
theorem oX8_add_37 : OKI 50 37 (.aload_n 0, 38, [0], 0, 0, []) := And.intro dX8_add_37 (And.intro rfl (rfl))
theorem oX8_add_38 : OKI 50 38 (.getfield 33, 41, [9, 7, 0], 0, 0, []) := And.intro dX8_add_38 (And.intro rfl (⟨(RX8, TX8, 10), "SpotTimers$Tally", rfl, by decide, tm_1 _ (List.mem_of_getElem? (i := 161) rfl) rfl, Or.inl rfl, Or.inr (Or.inr (And.intro rfl (Or.inl rfl)))⟩))
theorem oX8_add_41 : OKI 50 41 (.iload_n 3, 42, [3], 0, 0, []) := And.intro dX8_add_41 (And.intro rfl (rfl))
theorem oX8_add_42 : OKI 50 42 (.iastore, 43, [], 0, 0, []) := And.intro dX8_add_42 rfl
theorem oX8_add_43 : OKI 50 43 (.aload_n 0, 44, [0], 0, 0, []) := And.intro dX8_add_43 (And.intro rfl (rfl))
theorem oX8_add_44 : OKI 50 44 (.getfield 21, 47, [9, 3, 2, 110, 0], 0, 0, []) := And.intro dX8_add_44 (And.intro rfl (⟨(RX8, TX8, 10), "SpotTimers$Tally", rfl, by decide, tm_1 _ (List.mem_of_getElem? (i := 157) rfl) rfl, Or.inl rfl, rfl, rfl⟩))
theorem oX8_add_47 : OKI 50 47 (.aload_n 0, 48, [0], 0, 0, []) := And.intro dX8_add_47 (And.intro rfl (rfl))
theorem oX8_add_48 : OKI 50 48 (.getfield 33, 51, [9, 7, 0], 0, 0, []) := And.intro dX8_add_48 (And.intro rfl (⟨(RX8, TX8, 10), "SpotTimers$Tally", rfl, by decide, tm_1 _ (List.mem_of_getElem? (i := 161) rfl) rfl, Or.inl rfl, Or.inr (Or.inr (And.intro rfl (Or.inl rfl)))⟩))
theorem oX8_add_51 : OKI 50 51 (.aload_n 1, 52, [1], 0, 0, []) := And.intro dX8_add_51 (And.intro rfl (rfl))
theorem oX8_add_52 : OKI 50 52 (.getfield 61, 55, [5, 2, 2], 0, 0, []) := And.intro dX8_add_52 (And.intro rfl (⟨(RX4, TX4, 11), "SpotTimers$Reading", rfl, by decide, tm_3 _ (List.mem_of_getElem? (i := 55) rfl) rfl, Or.inl rfl, Or.inr (Or.inl (And.intro rfl rfl))⟩))
theorem oX8_add_55 : OKI 50 55 (.getfield 65, 58, [2, 1, 2], 0, 0, []) := And.intro dX8_add_55 (And.intro rfl (⟨(RX1, TX1, 6), "SpotTimers$Clock", rfl, by decide, tm_2 _ (List.mem_of_getElem? (i := 179) rfl) rfl, Or.inl rfl, Or.inr (Or.inl (And.intro rfl rfl))⟩))
theorem oX8_add_58 : OKI 50 58 (.aload_n 1, 59, [1], 0, 0, []) := And.intro dX8_add_58 (And.intro rfl (rfl))
theorem oX8_add_59 : OKI 50 59 (.invokevirtual 71, 62, [18, 1, 6, 0, 0, 3], 0, 0, []) := And.intro dX8_add_59 (And.intro rfl (And.intro (by decide) (And.intro (by decide) (And.intro mo_X4_origin (And.intro (tm_4 _ (List.mem_of_getElem? (i := 184) rfl) rfl) (And.intro (tm_3 _ (List.mem_of_getElem? (i := 123) rfl) rfl) (And.intro (tm_3 _ (List.mem_of_getElem? (i := 124) rfl) rfl) (Or.inl ⟨(RX4, TX4, 11), rfl, rfl⟩))))))))
theorem oX8_add_62 : OKI 50 62 (.getfield 75, 65, [5, 7, 0], 0, 0, []) := And.intro dX8_add_62 (And.intro rfl (⟨(RX4, TX4, 11), "SpotTimers$Reading", rfl, by decide, tm_3 _ (List.mem_of_getElem? (i := 69) rfl) rfl, Or.inl rfl, Or.inr (Or.inr (And.intro rfl (Or.inl rfl)))⟩))
theorem oX8_add_65 : OKI 50 65 (.invokevirtual 78, 68, [45, 2, 9, 0, 0, 1], 0, 0, []) := And.intro dX8_add_65 (And.intro rfl (And.intro (by decide) (And.intro (by decide) (And.intro mo_X7_leverOf (And.intro (tm_4 _ (List.mem_of_getElem? (i := 185) rfl) rfl) (And.intro (tm_4 _ (List.mem_of_getElem? (i := 186) rfl) rfl) (And.intro (tm_4 _ (List.mem_of_getElem? (i := 187) rfl) rfl) (Or.inl ⟨(RX7, TX7, 5), rfl, rfl⟩))))))))
theorem oX8_add_68 : OKI 50 68 (.iastore, 69, [], 0, 0, []) := And.intro dX8_add_68 rfl
theorem oX8_add_69 : OKI 50 69 (.aload_n 0, 70, [0], 0, 0, []) := And.intro dX8_add_69 (And.intro rfl (rfl))
theorem oX8_add_70 : OKI 50 70 (.getfield 24, 73, [9, 4, 2, 111, 0], 0, 0, []) := And.intro dX8_add_70 (And.intro rfl (⟨(RX8, TX8, 10), "SpotTimers$Tally", rfl, by decide, tm_1 _ (List.mem_of_getElem? (i := 158) rfl) rfl, Or.inl rfl, rfl, rfl⟩))
theorem oX8_add_73 : OKI 50 73 (.aload_n 0, 74, [0], 0, 0, []) := And.intro dX8_add_73 (And.intro rfl (rfl))
theorem oX8_add_74 : OKI 50 74 (.getfield 33, 77, [9, 7, 0], 0, 0, []) := And.intro dX8_add_74 (And.intro rfl (⟨(RX8, TX8, 10), "SpotTimers$Tally", rfl, by decide, tm_1 _ (List.mem_of_getElem? (i := 161) rfl) rfl, Or.inl rfl, Or.inr (Or.inr (And.intro rfl (Or.inl rfl)))⟩))
theorem oX8_add_77 : OKI 50 77 (.iload_n 2, 78, [2], 0, 0, []) := And.intro dX8_add_77 (And.intro rfl (rfl))
theorem oX8_add_78 : OKI 50 78 (.iload 4, 80, [4], 0, 0, []) := And.intro dX8_add_78 (And.intro rfl (rfl))
theorem oX8_add_80 : OKI 50 80 (.isub, 81, [], 0, 0, []) := And.intro dX8_add_80 rfl
theorem oX8_add_81 : OKI 50 81 (.iastore, 82, [], 0, 0, []) := And.intro dX8_add_81 rfl
theorem oX8_add_82 : OKI 50 82 (.aload_n 0, 83, [0], 0, 0, []) := And.intro dX8_add_82 (And.intro rfl (rfl))
theorem oX8_add_83 : OKI 50 83 (.dup, 84, [], 0, 0, []) := And.intro dX8_add_83 rfl
theorem oX8_add_84 : OKI 50 84 (.getfield 33, 87, [9, 7, 0], 0, 0, []) := And.intro dX8_add_84 (And.intro rfl (⟨(RX8, TX8, 10), "SpotTimers$Tally", rfl, by decide, tm_1 _ (List.mem_of_getElem? (i := 161) rfl) rfl, Or.inl rfl, Or.inr (Or.inr (And.intro rfl (Or.inl rfl)))⟩))
theorem oX8_add_87 : OKI 50 87 (.iconst 1, 88, [], 1, 0, []) := And.intro dX8_add_87 (And.intro rfl (by decide +kernel))
theorem oX8_add_88 : OKI 50 88 (.iadd, 89, [], 0, 0, []) := And.intro dX8_add_88 rfl
theorem oX8_add_89 : OKI 50 89 (.putfield 33, 92, [9, 7, 0], 0, 0, []) := And.intro dX8_add_89 (And.intro rfl (⟨(RX8, TX8, 10), "SpotTimers$Tally", rfl, by decide, tm_1 _ (List.mem_of_getElem? (i := 161) rfl) rfl, Or.inl rfl, Or.inl rfl, rfl⟩))
theorem oX8_add_92 : OKI 50 92 (.return_, 93, [], 0, 0, []) := And.intro dX8_add_92 rfl
def pfX8_add (pc : Nat) : Option XE := (bif Nat.blt pc 44 then (bif Nat.blt pc 23 then (bif Nat.blt pc 11 then (bif Nat.blt pc 6 then (bif Nat.blt pc 1 then (bif Nat.beq pc 0 then some (.aload_n 0, 1, [0], 0, 0, []) else none) else (bif Nat.blt pc 4 then (bif Nat.beq pc 1 then some (.getfield 33, 4, [9, 7, 0], 0, 0, []) else none) else (bif Nat.beq pc 4 then some (.bipush 90, 6, [], 90, 0, []) else none))) else (bif Nat.blt pc 9 then (bif Nat.beq pc 6 then some (.if_icmp .lt 4, 9, [10], 0, 0, []) else none) else (bif Nat.blt pc 10 then (bif Nat.beq pc 9 then some (.return_, 10, [], 0, 0, []) else none) else (bif Nat.beq pc 10 then some (.aload_n 0, 11, [0], 0, 0, []) else none)))) else (bif Nat.blt pc 18 then (bif Nat.blt pc 14 then (bif Nat.beq pc 11 then some (.getfield 9, 14, [9, 0, 2, 107, 0], 0, 0, []) else none) else (bif Nat.blt pc 15 then (bif Nat.beq pc 14 then some (.aload_n 0, 15, [0], 0, 0, []) else none) else (bif Nat.beq pc 15 then some (.getfield 33, 18, [9, 7, 0], 0, 0, []) else none))) else (bif Nat.blt pc 19 then (bif Nat.beq pc 18 then some (.aload_n 1, 19, [1], 0, 0, []) else none) else (bif Nat.blt pc 22 then (bif Nat.beq pc 19 then some (.getfield 56, 22, [5, 0, 0], 0, 0, []) else none) else (bif Nat.beq pc 22 then some (.iastore, 23, [], 0, 0, []) else none))))) else (bif Nat.blt pc 33 then (bif Nat.blt pc 28 then (bif Nat.blt pc 24 then (bif Nat.beq pc 23 then some (.aload_n 0, 24, [0], 0, 0, []) else none) else (bif Nat.blt pc 27 then (bif Nat.beq pc 24 then some (.getfield 15, 27, [9, 1, 2, 108, 0], 0, 0, []) else none) else (bif Nat.beq pc 27 then some (.aload_n 0, 28, [0], 0, 0, []) else none))) else (bif Nat.blt pc 31 then (bif Nat.beq pc 28 then some (.getfield 33, 31, [9, 7, 0], 0, 0, []) else none) else (bif Nat.blt pc 32 then (bif Nat.beq pc 31 then some (.iload_n 2, 32, [2], 0, 0, []) else none) else (bif Nat.beq pc 32 then some (.iastore, 33, [], 0, 0, []) else none)))) else (bif Nat.blt pc 38 then (bif Nat.blt pc 34 then (bif Nat.beq pc 33 then some (.aload_n 0, 34, [0], 0, 0, []) else none) else (bif Nat.blt pc 37 then (bif Nat.beq pc 34 then some (.getfield 18, 37, [9, 2, 2, 109, 0], 0, 0, []) else none) else (bif Nat.beq pc 37 then some (.aload_n 0, 38, [0], 0, 0, []) else none))) else (bif Nat.blt pc 42 then (bif Nat.blt pc 41 then (bif Nat.beq pc 38 then some (.getfield 33, 41, [9, 7, 0], 0, 0, []) else none) else (bif Nat.beq pc 41 then some (.iload_n 3, 42, [3], 0, 0, []) else none)) else (bif Nat.blt pc 43 then (bif Nat.beq pc 42 then some (.iastore, 43, [], 0, 0, []) else none) else (bif Nat.beq pc 43 then some (.aload_n 0, 44, [0], 0, 0, []) else none)))))) else (bif Nat.blt pc 73 then (bif Nat.blt pc 58 then (bif Nat.blt pc 51 then (bif Nat.blt pc 47 then (bif Nat.beq pc 44 then some (.getfield 21, 47, [9, 3, 2, 110, 0], 0, 0, []) else none) else (bif Nat.blt pc 48 then (bif Nat.beq pc 47 then some (.aload_n 0, 48, [0], 0, 0, []) else none) else (bif Nat.beq pc 48 then some (.getfield 33, 51, [9, 7, 0], 0, 0, []) else none))) else (bif Nat.blt pc 52 then (bif Nat.beq pc 51 then some (.aload_n 1, 52, [1], 0, 0, []) else none) else (bif Nat.blt pc 55 then (bif Nat.beq pc 52 then some (.getfield 61, 55, [5, 2, 2], 0, 0, []) else none) else (bif Nat.beq pc 55 then some (.getfield 65, 58, [2, 1, 2], 0, 0, []) else none)))) else (bif Nat.blt pc 65 then (bif Nat.blt pc 59 then (bif Nat.beq pc 58 then some (.aload_n 1, 59, [1], 0, 0, []) else none) else (bif Nat.blt pc 62 then (bif Nat.beq pc 59 then some (.invokevirtual 71, 62, [18, 1, 6, 0, 0, 3], 0, 0, []) else none) else (bif Nat.beq pc 62 then some (.getfield 75, 65, [5, 7, 0], 0, 0, []) else none))) else (bif Nat.blt pc 69 then (bif Nat.blt pc 68 then (bif Nat.beq pc 65 then some (.invokevirtual 78, 68, [45, 2, 9, 0, 0, 1], 0, 0, []) else none) else (bif Nat.beq pc 68 then some (.iastore, 69, [], 0, 0, []) else none)) else (bif Nat.blt pc 70 then (bif Nat.beq pc 69 then some (.aload_n 0, 70, [0], 0, 0, []) else none) else (bif Nat.beq pc 70 then some (.getfield 24, 73, [9, 4, 2, 111, 0], 0, 0, []) else none))))) else (bif Nat.blt pc 82 then (bif Nat.blt pc 78 then (bif Nat.blt pc 74 then (bif Nat.beq pc 73 then some (.aload_n 0, 74, [0], 0, 0, []) else none) else (bif Nat.blt pc 77 then (bif Nat.beq pc 74 then some (.getfield 33, 77, [9, 7, 0], 0, 0, []) else none) else (bif Nat.beq pc 77 then some (.iload_n 2, 78, [2], 0, 0, []) else none))) else (bif Nat.blt pc 80 then (bif Nat.beq pc 78 then some (.iload 4, 80, [4], 0, 0, []) else none) else (bif Nat.blt pc 81 then (bif Nat.beq pc 80 then some (.isub, 81, [], 0, 0, []) else none) else (bif Nat.beq pc 81 then some (.iastore, 82, [], 0, 0, []) else none)))) else (bif Nat.blt pc 87 then (bif Nat.blt pc 83 then (bif Nat.beq pc 82 then some (.aload_n 0, 83, [0], 0, 0, []) else none) else (bif Nat.blt pc 84 then (bif Nat.beq pc 83 then some (.dup, 84, [], 0, 0, []) else none) else (bif Nat.beq pc 84 then some (.getfield 33, 87, [9, 7, 0], 0, 0, []) else none))) else (bif Nat.blt pc 89 then (bif Nat.blt pc 88 then (bif Nat.beq pc 87 then some (.iconst 1, 88, [], 1, 0, []) else none) else (bif Nat.beq pc 88 then some (.iadd, 89, [], 0, 0, []) else none)) else (bif Nat.blt pc 92 then (bif Nat.beq pc 89 then some (.putfield 33, 92, [9, 7, 0], 0, 0, []) else none) else (bif Nat.beq pc 92 then some (.return_, 93, [], 0, 0, []) else none)))))))
theorem okX8_add : ∀ pc Y, pfX8_add pc = some Y → OKI m_X8_add pc Y := fun pc Y => ((bt_node (bt_node (bt_node (bt_node (bt_node (bt_leaf (P := OKI m_X8_add) oX8_add_0) (bt_node (bt_leaf (P := OKI m_X8_add) oX8_add_1) (bt_leaf (P := OKI m_X8_add) oX8_add_4))) (bt_node (bt_leaf (P := OKI m_X8_add) oX8_add_6) (bt_node (bt_leaf (P := OKI m_X8_add) oX8_add_9) (bt_leaf (P := OKI m_X8_add) oX8_add_10)))) (bt_node (bt_node (bt_leaf (P := OKI m_X8_add) oX8_add_11) (bt_node (bt_leaf (P := OKI m_X8_add) oX8_add_14) (bt_leaf (P := OKI m_X8_add) oX8_add_15))) (bt_node (bt_leaf (P := OKI m_X8_add) oX8_add_18) (bt_node (bt_leaf (P := OKI m_X8_add) oX8_add_19) (bt_leaf (P := OKI m_X8_add) oX8_add_22))))) (bt_node (bt_node (bt_node (bt_leaf (P := OKI m_X8_add) oX8_add_23) (bt_node (bt_leaf (P := OKI m_X8_add) oX8_add_24) (bt_leaf (P := OKI m_X8_add) oX8_add_27))) (bt_node (bt_leaf (P := OKI m_X8_add) oX8_add_28) (bt_node (bt_leaf (P := OKI m_X8_add) oX8_add_31) (bt_leaf (P := OKI m_X8_add) oX8_add_32)))) (bt_node (bt_node (bt_leaf (P := OKI m_X8_add) oX8_add_33) (bt_node (bt_leaf (P := OKI m_X8_add) oX8_add_34) (bt_leaf (P := OKI m_X8_add) oX8_add_37))) (bt_node (bt_node (bt_leaf (P := OKI m_X8_add) oX8_add_38) (bt_leaf (P := OKI m_X8_add) oX8_add_41)) (bt_node (bt_leaf (P := OKI m_X8_add) oX8_add_42) (bt_leaf (P := OKI m_X8_add) oX8_add_43)))))) (bt_node (bt_node (bt_node (bt_node (bt_leaf (P := OKI m_X8_add) oX8_add_44) (bt_node (bt_leaf (P := OKI m_X8_add) oX8_add_47) (bt_leaf (P := OKI m_X8_add) oX8_add_48))) (bt_node (bt_leaf (P := OKI m_X8_add) oX8_add_51) (bt_node (bt_leaf (P := OKI m_X8_add) oX8_add_52) (bt_leaf (P := OKI m_X8_add) oX8_add_55)))) (bt_node (bt_node (bt_leaf (P := OKI m_X8_add) oX8_add_58) (bt_node (bt_leaf (P := OKI m_X8_add) oX8_add_59) (bt_leaf (P := OKI m_X8_add) oX8_add_62))) (bt_node (bt_node (bt_leaf (P := OKI m_X8_add) oX8_add_65) (bt_leaf (P := OKI m_X8_add) oX8_add_68)) (bt_node (bt_leaf (P := OKI m_X8_add) oX8_add_69) (bt_leaf (P := OKI m_X8_add) oX8_add_70))))) (bt_node (bt_node (bt_node (bt_leaf (P := OKI m_X8_add) oX8_add_73) (bt_node (bt_leaf (P := OKI m_X8_add) oX8_add_74) (bt_leaf (P := OKI m_X8_add) oX8_add_77))) (bt_node (bt_leaf (P := OKI m_X8_add) oX8_add_78) (bt_node (bt_leaf (P := OKI m_X8_add) oX8_add_80) (bt_leaf (P := OKI m_X8_add) oX8_add_81)))) (bt_node (bt_node (bt_leaf (P := OKI m_X8_add) oX8_add_82) (bt_node (bt_leaf (P := OKI m_X8_add) oX8_add_83) (bt_leaf (P := OKI m_X8_add) oX8_add_84))) (bt_node (bt_node (bt_leaf (P := OKI m_X8_add) oX8_add_87) (bt_leaf (P := OKI m_X8_add) oX8_add_88)) (bt_node (bt_leaf (P := OKI m_X8_add) oX8_add_89) (bt_leaf (P := OKI m_X8_add) oX8_add_92))))))) : pfX8_add pc = some Y → OKI m_X8_add pc Y)
def stpX8_add (pc : Nat) : Option (List Bool) := (bif Nat.beq pc 69 then some [true, false, true, false, true] else none)
def bX8_add_0 (d rc rs : Nat) (t : Nat) (a1 : Option XO) (a2 : Int32) (a3 : Int32) (a4 : Int32) (σ : XH) (Q : XV → XH → Prop) : Prop :=
  ((((hi σ 9 t 7) < 90 → ((hr σ 9 t 0 = some (107, t) ∧ ((drf a1 5 fun i1 => ((vp_in (hi σ 9 t 7) (hn σ 107 t) ∧ (∀ h2, h2 = wI σ 107 t (hi σ 9 t 7).toNatClampNeg (hi σ 5 i1 0) → ((hr h2 9 t 1 = some (108, t) ∧ (((vp_in (hi h2 9 t 7) (hn h2 108 t) ∧ (∀ h3, h3 = wI h2 108 t (hi h2 9 t 7).toNatClampNeg a2 → ((hr h3 9 t 2 = some (109, t) ∧ (((vp_in (hi h3 9 t 7) (hn h3 109 t) ∧ (∀ h4, h4 = wI h3 109 t (hi h3 9 t 7).toNatClampNeg a3 → ((hr h4 9 t 3 = some (110, t) ∧ ((drf a1 5 fun i5 => (drf (hr h4 5 i5 2) 2 fun i6 => (drf a1 5 fun i14 => (1 ≤ d ∧ Ec (d - 1) 0 0 m_X4_origin [vR (some (5, i14))] h4 (kR fun x8 h7 => (drf x8 5 fun i9 => (drf (hr h4 2 i6 1) 8 fun i13 => (1 ≤ d ∧ Ec (d - 1) 0 0 m_X7_leverOf [vR (some (8, i13)), vI (hi h7 5 i9 7)] h7 (kI fun x11 h10 => ((vp_in (hi h4 9 t 7) (hn h10 110 t) ∧ (∀ h12, h12 = wI h10 110 t (hi h4 9 t 7).toNatClampNeg x11 → Ex d rc rs m_X8_add 69 [vR (some (9, t)), vU, vI a2, vU, vI a4] [] h12 Q))))))))))))))))))))))))))))))))))) ∧ (¬ (hi σ 9 t 7) < 90 → Q vU σ)))
theorem sX8_add_0 {d rc rs : Nat} {t : Nat} {a1 : Option XO} {a2 : Int32} {a3 : Int32} {a4 : Int32} {σ : XH} {Q : XV → XH → Prop} (h : bX8_add_0 d rc rs t a1 a2 a3 a4 σ Q) : Ex d rc rs m_X8_add 0 [vR (some (9, t)), vR a1, vI a2, vI a3, vI a4] [] σ Q :=
  xtree_sound (stop := stpX8_add) okX8_add 37 _ _ _ _ _ _ h
def bX8_add_69 (d rc rs : Nat) (t : Nat) (l2 : Int32) (l4 : Int32) (σ : XH) (Q : XV → XH → Prop) : Prop :=
  ((hr σ 9 t 4 = some (111, t) ∧ (((vp_in (hi σ 9 t 7) (hn σ 111 t) ∧ (∀ h1, h1 = wI σ 111 t (hi σ 9 t 7).toNatClampNeg (l2 - l4) → (((∀ h2, h2 = wI h1 9 t 7 ((hi h1 9 t 7) + 1) → Q vU h2)))))))))
theorem sX8_add_69 {d rc rs : Nat} {t : Nat} {l2 : Int32} {l4 : Int32} {σ : XH} {Q : XV → XH → Prop} (h : bX8_add_69 d rc rs t l2 l4 σ Q) : Ex d rc rs m_X8_add 69 [vR (some (9, t)), vU, vI l2, vU, vI l4] [] σ Q :=
  xtree_sound (stop := stpX8_add) okX8_add 17 _ _ _ _ _ _ h
/-! SpotTimers$Tally.placeOf(I)I -/
theorem dX8_placeOf_0 : decode cX8_placeOf 0 = .ok (.iconst 0, 1) := by decide +kernel
theorem dX8_placeOf_1 : decode cX8_placeOf 1 = .ok (.istore_n 2, 1) := by decide +kernel
theorem dX8_placeOf_2 : decode cX8_placeOf 2 = .ok (.iload_n 2, 1) := by decide +kernel
theorem dX8_placeOf_3 : decode cX8_placeOf 3 = .ok (.aload_n 0, 1) := by decide +kernel
theorem dX8_placeOf_4 : decode cX8_placeOf 4 = .ok (.getfield 33, 3) := by decide +kernel
theorem dX8_placeOf_7 : decode cX8_placeOf 7 = .ok (.if_icmp .ge 21, 3) := by decide +kernel
theorem dX8_placeOf_10 : decode cX8_placeOf 10 = .ok (.aload_n 0, 1) := by decide +kernel
theorem dX8_placeOf_11 : decode cX8_placeOf 11 = .ok (.getfield 9, 3) := by decide +kernel
theorem dX8_placeOf_14 : decode cX8_placeOf 14 = .ok (.iload_n 2, 1) := by decide +kernel
theorem dX8_placeOf_15 : decode cX8_placeOf 15 = .ok (.iaload, 1) := by decide +kernel
theorem dX8_placeOf_16 : decode cX8_placeOf 16 = .ok (.iload_n 1, 1) := by decide +kernel
theorem dX8_placeOf_17 : decode cX8_placeOf 17 = .ok (.if_icmp .ne 5, 3) := by decide +kernel
theorem dX8_placeOf_20 : decode cX8_placeOf 20 = .ok (.iload_n 2, 1) := by decide +kernel
theorem dX8_placeOf_21 : decode cX8_placeOf 21 = .ok (.ireturn, 1) := by decide +kernel
theorem dX8_placeOf_22 : decode cX8_placeOf 22 = .ok (.iinc 2 1, 3) := by decide +kernel
theorem dX8_placeOf_25 : decode cX8_placeOf 25 = .ok (.goto (-23), 3) := by decide +kernel
theorem dX8_placeOf_28 : decode cX8_placeOf 28 = .ok (.iconst (-1), 1) := by decide +kernel
theorem dX8_placeOf_29 : decode cX8_placeOf 29 = .ok (.ireturn, 1) := by decide +kernel
theorem oX8_placeOf_0 : OKI 51 0 (.iconst 0, 1, [], 0, 0, []) := And.intro dX8_placeOf_0 (And.intro rfl (by decide +kernel))
theorem oX8_placeOf_1 : OKI 51 1 (.istore_n 2, 2, [2], 0, 0, []) := And.intro dX8_placeOf_1 (And.intro rfl (And.intro rfl (by decide)))
theorem oX8_placeOf_2 : OKI 51 2 (.iload_n 2, 3, [2], 0, 0, []) := And.intro dX8_placeOf_2 (And.intro rfl (rfl))
theorem oX8_placeOf_3 : OKI 51 3 (.aload_n 0, 4, [0], 0, 0, []) := And.intro dX8_placeOf_3 (And.intro rfl (rfl))
theorem oX8_placeOf_4 : OKI 51 4 (.getfield 33, 7, [9, 7, 0], 0, 0, []) := And.intro dX8_placeOf_4 (And.intro rfl (⟨(RX8, TX8, 10), "SpotTimers$Tally", rfl, by decide, tm_1 _ (List.mem_of_getElem? (i := 161) rfl) rfl, Or.inl rfl, Or.inr (Or.inr (And.intro rfl (Or.inl rfl)))⟩))
theorem oX8_placeOf_7 : OKI 51 7 (.if_icmp .ge 21, 10, [28], 0, 0, []) := And.intro dX8_placeOf_7 (And.intro rfl (by decide))
theorem oX8_placeOf_10 : OKI 51 10 (.aload_n 0, 11, [0], 0, 0, []) := And.intro dX8_placeOf_10 (And.intro rfl (rfl))
theorem oX8_placeOf_11 : OKI 51 11 (.getfield 9, 14, [9, 0, 2, 107, 0], 0, 0, []) := And.intro dX8_placeOf_11 (And.intro rfl (⟨(RX8, TX8, 10), "SpotTimers$Tally", rfl, by decide, tm_1 _ (List.mem_of_getElem? (i := 152) rfl) rfl, Or.inl rfl, rfl, rfl⟩))
theorem oX8_placeOf_14 : OKI 51 14 (.iload_n 2, 15, [2], 0, 0, []) := And.intro dX8_placeOf_14 (And.intro rfl (rfl))
theorem oX8_placeOf_15 : OKI 51 15 (.iaload, 16, [], 0, 0, []) := And.intro dX8_placeOf_15 rfl
theorem oX8_placeOf_16 : OKI 51 16 (.iload_n 1, 17, [1], 0, 0, []) := And.intro dX8_placeOf_16 (And.intro rfl (rfl))
theorem oX8_placeOf_17 : OKI 51 17 (.if_icmp .ne 5, 20, [22], 0, 0, []) := And.intro dX8_placeOf_17 (And.intro rfl (by decide))
theorem oX8_placeOf_20 : OKI 51 20 (.iload_n 2, 21, [2], 0, 0, []) := And.intro dX8_placeOf_20 (And.intro rfl (rfl))
theorem oX8_placeOf_21 : OKI 51 21 (.ireturn, 22, [0], 0, 0, []) := And.intro dX8_placeOf_21 (Or.inl (And.intro rfl rfl))
theorem oX8_placeOf_22 : OKI 51 22 (.iinc 2 1, 25, [2], 1, 0, []) := And.intro dX8_placeOf_22 (And.intro rfl (And.intro rfl (And.intro (by decide +kernel) (by decide))))
theorem oX8_placeOf_25 : OKI 51 25 (.goto (-23), 28, [2], 0, 0, []) := And.intro dX8_placeOf_25 (And.intro rfl (by decide))
theorem oX8_placeOf_28 : OKI 51 28 (.iconst (-1), 29, [], (-1), 0, []) := And.intro dX8_placeOf_28 (And.intro rfl (by decide +kernel))
theorem oX8_placeOf_29 : OKI 51 29 (.ireturn, 30, [0], 0, 0, []) := And.intro dX8_placeOf_29 (Or.inl (And.intro rfl rfl))
def pfX8_placeOf (pc : Nat) : Option XE := (bif Nat.blt pc 15 then (bif Nat.blt pc 4 then (bif Nat.blt pc 2 then (bif Nat.blt pc 1 then (bif Nat.beq pc 0 then some (.iconst 0, 1, [], 0, 0, []) else none) else (bif Nat.beq pc 1 then some (.istore_n 2, 2, [2], 0, 0, []) else none)) else (bif Nat.blt pc 3 then (bif Nat.beq pc 2 then some (.iload_n 2, 3, [2], 0, 0, []) else none) else (bif Nat.beq pc 3 then some (.aload_n 0, 4, [0], 0, 0, []) else none))) else (bif Nat.blt pc 10 then (bif Nat.blt pc 7 then (bif Nat.beq pc 4 then some (.getfield 33, 7, [9, 7, 0], 0, 0, []) else none) else (bif Nat.beq pc 7 then some (.if_icmp .ge 21, 10, [28], 0, 0, []) else none)) else (bif Nat.blt pc 11 then (bif Nat.beq pc 10 then some (.aload_n 0, 11, [0], 0, 0, []) else none) else (bif Nat.blt pc 14 then (bif Nat.beq pc 11 then some (.getfield 9, 14, [9, 0, 2, 107, 0], 0, 0, []) else none) else (bif Nat.beq pc 14 then some (.iload_n 2, 15, [2], 0, 0, []) else none))))) else (bif Nat.blt pc 21 then (bif Nat.blt pc 17 then (bif Nat.blt pc 16 then (bif Nat.beq pc 15 then some (.iaload, 16, [], 0, 0, []) else none) else (bif Nat.beq pc 16 then some (.iload_n 1, 17, [1], 0, 0, []) else none)) else (bif Nat.blt pc 20 then (bif Nat.beq pc 17 then some (.if_icmp .ne 5, 20, [22], 0, 0, []) else none) else (bif Nat.beq pc 20 then some (.iload_n 2, 21, [2], 0, 0, []) else none))) else (bif Nat.blt pc 25 then (bif Nat.blt pc 22 then (bif Nat.beq pc 21 then some (.ireturn, 22, [0], 0, 0, []) else none) else (bif Nat.beq pc 22 then some (.iinc 2 1, 25, [2], 1, 0, []) else none)) else (bif Nat.blt pc 28 then (bif Nat.beq pc 25 then some (.goto (-23), 28, [2], 0, 0, []) else none) else (bif Nat.blt pc 29 then (bif Nat.beq pc 28 then some (.iconst (-1), 29, [], (-1), 0, []) else none) else (bif Nat.beq pc 29 then some (.ireturn, 30, [0], 0, 0, []) else none))))))
theorem okX8_placeOf : ∀ pc Y, pfX8_placeOf pc = some Y → OKI m_X8_placeOf pc Y := fun pc Y => ((bt_node (bt_node (bt_node (bt_node (bt_leaf (P := OKI m_X8_placeOf) oX8_placeOf_0) (bt_leaf (P := OKI m_X8_placeOf) oX8_placeOf_1)) (bt_node (bt_leaf (P := OKI m_X8_placeOf) oX8_placeOf_2) (bt_leaf (P := OKI m_X8_placeOf) oX8_placeOf_3))) (bt_node (bt_node (bt_leaf (P := OKI m_X8_placeOf) oX8_placeOf_4) (bt_leaf (P := OKI m_X8_placeOf) oX8_placeOf_7)) (bt_node (bt_leaf (P := OKI m_X8_placeOf) oX8_placeOf_10) (bt_node (bt_leaf (P := OKI m_X8_placeOf) oX8_placeOf_11) (bt_leaf (P := OKI m_X8_placeOf) oX8_placeOf_14))))) (bt_node (bt_node (bt_node (bt_leaf (P := OKI m_X8_placeOf) oX8_placeOf_15) (bt_leaf (P := OKI m_X8_placeOf) oX8_placeOf_16)) (bt_node (bt_leaf (P := OKI m_X8_placeOf) oX8_placeOf_17) (bt_leaf (P := OKI m_X8_placeOf) oX8_placeOf_20))) (bt_node (bt_node (bt_leaf (P := OKI m_X8_placeOf) oX8_placeOf_21) (bt_leaf (P := OKI m_X8_placeOf) oX8_placeOf_22)) (bt_node (bt_leaf (P := OKI m_X8_placeOf) oX8_placeOf_25) (bt_node (bt_leaf (P := OKI m_X8_placeOf) oX8_placeOf_28) (bt_leaf (P := OKI m_X8_placeOf) oX8_placeOf_29)))))) : pfX8_placeOf pc = some Y → OKI m_X8_placeOf pc Y)
def stpX8_placeOf (pc : Nat) : Option (List Bool) := (bif Nat.beq pc 2 then some [true, true, true] else none)
def bX8_placeOf_0 (d rc rs : Nat) (t : Nat) (a1 : Int32) (σ : XH) (Q : XV → XH → Prop) : Prop :=
  Ex d rc rs m_X8_placeOf 2 [vR (some (9, t)), vI a1, vI 0] [] σ Q
theorem sX8_placeOf_0 {d rc rs : Nat} {t : Nat} {a1 : Int32} {σ : XH} {Q : XV → XH → Prop} (h : bX8_placeOf_0 d rc rs t a1 σ Q) : Ex d rc rs m_X8_placeOf 0 [vR (some (9, t)), vI a1, vU] [] σ Q :=
  xtree_sound (stop := stpX8_placeOf) okX8_placeOf 4 _ _ _ _ _ _ h
def bX8_placeOf_2 (d rc rs : Nat) (t : Nat) (l1 : Int32) (l2 : Int32) (σ : XH) (Q : XV → XH → Prop) : Prop :=
  (((l2 < (hi σ 9 t 7) → ((hr σ 9 t 0 = some (107, t) ∧ ((vp_in l2 (hn σ 107 t) ∧ (((hi σ 107 t l2.toNatClampNeg) = l1 → Q (vI l2) σ) ∧ (¬ (hi σ 107 t l2.toNatClampNeg) = l1 → Ex d rc rs m_X8_placeOf 2 [vR (some (9, t)), vI l1, vI (l2 + 1)] [] σ Q))))))) ∧ (¬ l2 < (hi σ 9 t 7) → Q (vI (-1)) σ)))
theorem sX8_placeOf_2 {d rc rs : Nat} {t : Nat} {l1 : Int32} {l2 : Int32} {σ : XH} {Q : XV → XH → Prop} (h : bX8_placeOf_2 d rc rs t l1 l2 σ Q) : Ex d rc rs m_X8_placeOf 2 [vR (some (9, t)), vI l1, vI l2] [] σ Q :=
  xtree_sound (stop := stpX8_placeOf) okX8_placeOf 14 _ _ _ _ _ _ h
/-! SpotTimers$Tally.isLeftOut(II)Z -/
theorem dX8_isLeftOut_0 : decode cX8_isLeftOut 0 = .ok (.iload_n 1, 1) := by decide +kernel
theorem dX8_isLeftOut_1 : decode cX8_isLeftOut 1 = .ok (.bipush 12, 2) := by decide +kernel
theorem dX8_isLeftOut_3 : decode cX8_isLeftOut 3 = .ok (.if_icmp .ge 16, 3) := by decide +kernel
theorem dX8_isLeftOut_6 : decode cX8_isLeftOut 6 = .ok (.iload_n 0, 1) := by decide +kernel
theorem dX8_isLeftOut_7 : decode cX8_isLeftOut 7 = .ok (.iload_n 1, 1) := by decide +kernel
theorem dX8_isLeftOut_8 : decode cX8_isLeftOut 8 = .ok (.ishr, 1) := by decide +kernel
theorem dX8_isLeftOut_9 : decode cX8_isLeftOut 9 = .ok (.iconst 1, 1) := by decide +kernel
theorem dX8_isLeftOut_10 : decode cX8_isLeftOut 10 = .ok (.iand, 1) := by decide +kernel
theorem dX8_isLeftOut_11 : decode cX8_isLeftOut 11 = .ok (.iconst 1, 1) := by decide +kernel
theorem dX8_isLeftOut_12 : decode cX8_isLeftOut 12 = .ok (.if_icmp .ne 7, 3) := by decide +kernel
theorem dX8_isLeftOut_15 : decode cX8_isLeftOut 15 = .ok (.iconst 1, 1) := by decide +kernel
theorem dX8_isLeftOut_16 : decode cX8_isLeftOut 16 = .ok (.goto 4, 3) := by decide +kernel
theorem dX8_isLeftOut_19 : decode cX8_isLeftOut 19 = .ok (.iconst 0, 1) := by decide +kernel
theorem dX8_isLeftOut_20 : decode cX8_isLeftOut 20 = .ok (.ireturn, 1) := by decide +kernel
theorem oX8_isLeftOut_0 : OKI 52 0 (.iload_n 1, 1, [1], 0, 0, []) := And.intro dX8_isLeftOut_0 (And.intro rfl (rfl))
theorem oX8_isLeftOut_1 : OKI 52 1 (.bipush 12, 3, [], 12, 0, []) := And.intro dX8_isLeftOut_1 (And.intro rfl (by decide +kernel))
theorem oX8_isLeftOut_3 : OKI 52 3 (.if_icmp .ge 16, 6, [19], 0, 0, []) := And.intro dX8_isLeftOut_3 (And.intro rfl (by decide))
theorem oX8_isLeftOut_6 : OKI 52 6 (.iload_n 0, 7, [0], 0, 0, []) := And.intro dX8_isLeftOut_6 (And.intro rfl (rfl))
theorem oX8_isLeftOut_7 : OKI 52 7 (.iload_n 1, 8, [1], 0, 0, []) := And.intro dX8_isLeftOut_7 (And.intro rfl (rfl))
theorem oX8_isLeftOut_8 : OKI 52 8 (.ishr, 9, [], 0, 0, []) := And.intro dX8_isLeftOut_8 rfl
theorem oX8_isLeftOut_9 : OKI 52 9 (.iconst 1, 10, [], 1, 0, []) := And.intro dX8_isLeftOut_9 (And.intro rfl (by decide +kernel))
theorem oX8_isLeftOut_10 : OKI 52 10 (.iand, 11, [], 0, 0, []) := And.intro dX8_isLeftOut_10 rfl
theorem oX8_isLeftOut_11 : OKI 52 11 (.iconst 1, 12, [], 1, 0, []) := And.intro dX8_isLeftOut_11 (And.intro rfl (by decide +kernel))
theorem oX8_isLeftOut_12 : OKI 52 12 (.if_icmp .ne 7, 15, [19], 0, 0, []) := And.intro dX8_isLeftOut_12 (And.intro rfl (by decide))
theorem oX8_isLeftOut_15 : OKI 52 15 (.iconst 1, 16, [], 1, 0, []) := And.intro dX8_isLeftOut_15 (And.intro rfl (by decide +kernel))
theorem oX8_isLeftOut_16 : OKI 52 16 (.goto 4, 19, [20], 0, 0, []) := And.intro dX8_isLeftOut_16 (And.intro rfl (by decide))
theorem oX8_isLeftOut_19 : OKI 52 19 (.iconst 0, 20, [], 0, 0, []) := And.intro dX8_isLeftOut_19 (And.intro rfl (by decide +kernel))
theorem oX8_isLeftOut_20 : OKI 52 20 (.ireturn, 21, [3], 0, 0, []) := And.intro dX8_isLeftOut_20 (Or.inr (Or.inl (And.intro rfl rfl)))
def pfX8_isLeftOut (pc : Nat) : Option XE := (bif Nat.blt pc 10 then (bif Nat.blt pc 6 then (bif Nat.blt pc 1 then (bif Nat.beq pc 0 then some (.iload_n 1, 1, [1], 0, 0, []) else none) else (bif Nat.blt pc 3 then (bif Nat.beq pc 1 then some (.bipush 12, 3, [], 12, 0, []) else none) else (bif Nat.beq pc 3 then some (.if_icmp .ge 16, 6, [19], 0, 0, []) else none))) else (bif Nat.blt pc 8 then (bif Nat.blt pc 7 then (bif Nat.beq pc 6 then some (.iload_n 0, 7, [0], 0, 0, []) else none) else (bif Nat.beq pc 7 then some (.iload_n 1, 8, [1], 0, 0, []) else none)) else (bif Nat.blt pc 9 then (bif Nat.beq pc 8 then some (.ishr, 9, [], 0, 0, []) else none) else (bif Nat.beq pc 9 then some (.iconst 1, 10, [], 1, 0, []) else none)))) else (bif Nat.blt pc 15 then (bif Nat.blt pc 11 then (bif Nat.beq pc 10 then some (.iand, 11, [], 0, 0, []) else none) else (bif Nat.blt pc 12 then (bif Nat.beq pc 11 then some (.iconst 1, 12, [], 1, 0, []) else none) else (bif Nat.beq pc 12 then some (.if_icmp .ne 7, 15, [19], 0, 0, []) else none))) else (bif Nat.blt pc 19 then (bif Nat.blt pc 16 then (bif Nat.beq pc 15 then some (.iconst 1, 16, [], 1, 0, []) else none) else (bif Nat.beq pc 16 then some (.goto 4, 19, [20], 0, 0, []) else none)) else (bif Nat.blt pc 20 then (bif Nat.beq pc 19 then some (.iconst 0, 20, [], 0, 0, []) else none) else (bif Nat.beq pc 20 then some (.ireturn, 21, [3], 0, 0, []) else none)))))
theorem okX8_isLeftOut : ∀ pc Y, pfX8_isLeftOut pc = some Y → OKI m_X8_isLeftOut pc Y := fun pc Y => ((bt_node (bt_node (bt_node (bt_leaf (P := OKI m_X8_isLeftOut) oX8_isLeftOut_0) (bt_node (bt_leaf (P := OKI m_X8_isLeftOut) oX8_isLeftOut_1) (bt_leaf (P := OKI m_X8_isLeftOut) oX8_isLeftOut_3))) (bt_node (bt_node (bt_leaf (P := OKI m_X8_isLeftOut) oX8_isLeftOut_6) (bt_leaf (P := OKI m_X8_isLeftOut) oX8_isLeftOut_7)) (bt_node (bt_leaf (P := OKI m_X8_isLeftOut) oX8_isLeftOut_8) (bt_leaf (P := OKI m_X8_isLeftOut) oX8_isLeftOut_9)))) (bt_node (bt_node (bt_leaf (P := OKI m_X8_isLeftOut) oX8_isLeftOut_10) (bt_node (bt_leaf (P := OKI m_X8_isLeftOut) oX8_isLeftOut_11) (bt_leaf (P := OKI m_X8_isLeftOut) oX8_isLeftOut_12))) (bt_node (bt_node (bt_leaf (P := OKI m_X8_isLeftOut) oX8_isLeftOut_15) (bt_leaf (P := OKI m_X8_isLeftOut) oX8_isLeftOut_16)) (bt_node (bt_leaf (P := OKI m_X8_isLeftOut) oX8_isLeftOut_19) (bt_leaf (P := OKI m_X8_isLeftOut) oX8_isLeftOut_20))))) : pfX8_isLeftOut pc = some Y → OKI m_X8_isLeftOut pc Y)
def stpX8_isLeftOut (pc : Nat) : Option (List Bool) := (bif Nat.blt pc 20 then (bif Nat.beq pc 19 then some [false, false] else none) else (bif Nat.beq pc 20 then some [false, false] else none))
def bX8_isLeftOut_0 (d rc rs : Nat) (a1 : Int32) (a2 : Int32) (σ : XH) (Q : XV → XH → Prop) : Prop :=
  ((a2 < 12 → ((((a1 >>> (a2 &&& 31)) &&& 1) = 1 → Ex d rc rs m_X8_isLeftOut 20 [vU, vU] [vI 1] σ Q) ∧ (¬ ((a1 >>> (a2 &&& 31)) &&& 1) = 1 → Ex d rc rs m_X8_isLeftOut 19 [vU, vU] [] σ Q))) ∧ (¬ a2 < 12 → Ex d rc rs m_X8_isLeftOut 19 [vU, vU] [] σ Q))
theorem sX8_isLeftOut_0 {d rc rs : Nat} {a1 : Int32} {a2 : Int32} {σ : XH} {Q : XV → XH → Prop} (h : bX8_isLeftOut_0 d rc rs a1 a2 σ Q) : Ex d rc rs m_X8_isLeftOut 0 [vI a1, vI a2] [] σ Q :=
  xtree_sound (stop := stpX8_isLeftOut) okX8_isLeftOut 14 _ _ _ _ _ _ h
def bX8_isLeftOut_19 (d rc rs : Nat)  (σ : XH) (Q : XV → XH → Prop) : Prop :=
  Ex d rc rs m_X8_isLeftOut 20 [vU, vU] [vI 0] σ Q
theorem sX8_isLeftOut_19 {d rc rs : Nat}  {σ : XH} {Q : XV → XH → Prop} (h : bX8_isLeftOut_19 d rc rs  σ Q) : Ex d rc rs m_X8_isLeftOut 19 [vU, vU] [] σ Q :=
  xtree_sound (stop := stpX8_isLeftOut) okX8_isLeftOut 3 _ _ _ _ _ _ h
def bX8_isLeftOut_20 (d rc rs : Nat) (q0 : Int32) (σ : XH) (Q : XV → XH → Prop) : Prop :=
  ((q0 = 0 ∨ q0 = 1) ∧ Q (vI q0) σ)
theorem sX8_isLeftOut_20 {d rc rs : Nat} {q0 : Int32} {σ : XH} {Q : XV → XH → Prop} (h : bX8_isLeftOut_20 d rc rs q0 σ Q) : Ex d rc rs m_X8_isLeftOut 20 [vU, vU] [vI q0] σ Q :=
  xtree_sound (stop := stpX8_isLeftOut) okX8_isLeftOut 3 _ _ _ _ _ _ h
/-! SpotTimers$Tally.solves(I)Z -/
theorem dX8_solves_0 : decode cX8_solves 0 = .ok (.aload_n 0, 1) := by decide +kernel
theorem dX8_solves_1 : decode cX8_solves 1 = .ok (.lconst 0, 1) := by decide +kernel
theorem dX8_solves_2 : decode cX8_solves 2 = .ok (.putfield 37, 3) := by decide +kernel
theorem dX8_solves_5 : decode cX8_solves 5 = .ok (.aload_n 0, 1) := by decide +kernel
theorem dX8_solves_6 : decode cX8_solves 6 = .ok (.lconst 0, 1) := by decide +kernel
theorem dX8_solves_7 : decode cX8_solves 7 = .ok (.putfield 41, 3) := by decide +kernel
theorem dX8_solves_10 : decode cX8_solves 10 = .ok (.iconst 0, 1) := by decide +kernel
theorem dX8_solves_11 : decode cX8_solves 11 = .ok (.istore_n 2, 1) := by decide +kernel
theorem dX8_solves_12 : decode cX8_solves 12 = .ok (.iload_n 2, 1) := by decide +kernel
theorem dX8_solves_13 : decode cX8_solves 13 = .ok (.aload_n 0, 1) := by decide +kernel
theorem dX8_solves_14 : decode cX8_solves 14 = .ok (.getfield 33, 3) := by decide +kernel
theorem dX8_solves_17 : decode cX8_solves 17 = .ok (.if_icmp .ge 73, 3) := by decide +kernel
theorem dX8_solves_20 : decode cX8_solves 20 = .ok (.iload_n 1, 1) := by decide +kernel
theorem dX8_solves_21 : decode cX8_solves 21 = .ok (.iload_n 2, 1) := by decide +kernel
theorem dX8_solves_22 : decode cX8_solves 22 = .ok (.invokestatic 84, 3) := by decide +kernel
theorem dX8_solves_25 : decode cX8_solves 25 = .ok (.ifCond .ne 59, 3) := by decide +kernel
theorem dX8_solves_28 : decode cX8_solves 28 = .ok (.aload_n 0, 1) := by decide +kernel
theorem dX8_solves_29 : decode cX8_solves 29 = .ok (.getfield 18, 3) := by decide +kernel
theorem dX8_solves_32 : decode cX8_solves 32 = .ok (.iload_n 2, 1) := by decide +kernel
theorem dX8_solves_33 : decode cX8_solves 33 = .ok (.iaload, 1) := by decide +kernel
theorem dX8_solves_34 : decode cX8_solves 34 = .ok (.i2l, 1) := by decide +kernel
theorem dX8_solves_35 : decode cX8_solves 35 = .ok (.aload_n 0, 1) := by decide +kernel
theorem dX8_solves_36 : decode cX8_solves 36 = .ok (.getfield 21, 3) := by decide +kernel
theorem dX8_solves_39 : decode cX8_solves 39 = .ok (.iload_n 2, 1) := by decide +kernel
theorem dX8_solves_40 : decode cX8_solves 40 = .ok (.iaload, 1) := by decide +kernel
theorem dX8_solves_41 : decode cX8_solves 41 = .ok (.i2l, 1) := by decide +kernel
theorem dX8_solves_42 : decode cX8_solves 42 = .ok (.lmul, 1) := by decide +kernel
theorem dX8_solves_43 : decode cX8_solves 43 = .ok (.lstore_n 3, 1) := by decide +kernel
theorem dX8_solves_44 : decode cX8_solves 44 = .ok (.aload_n 0, 1) := by decide +kernel
theorem dX8_solves_45 : decode cX8_solves 45 = .ok (.dup, 1) := by decide +kernel
theorem dX8_solves_46 : decode cX8_solves 46 = .ok (.getfield 37, 3) := by decide +kernel
theorem dX8_solves_49 : decode cX8_solves 49 = .ok (.ldc2_w 88, 3) := by decide +kernel
theorem dX8_solves_52 : decode cX8_solves 52 = .ok (.lload_n 3, 1) := by decide +kernel
theorem dX8_solves_53 : decode cX8_solves 53 = .ok (.lmul, 1) := by decide +kernel
theorem dX8_solves_54 : decode cX8_solves 54 = .ok (.aload_n 0, 1) := by decide +kernel
theorem dX8_solves_55 : decode cX8_solves 55 = .ok (.getfield 24, 3) := by decide +kernel
theorem dX8_solves_58 : decode cX8_solves 58 = .ok (.iload_n 2, 1) := by decide +kernel
theorem dX8_solves_59 : decode cX8_solves 59 = .ok (.iaload, 1) := by decide +kernel
theorem dX8_solves_60 : decode cX8_solves 60 = .ok (.i2l, 1) := by decide +kernel
theorem dX8_solves_61 : decode cX8_solves 61 = .ok (.lmul, 1) := by decide +kernel
theorem dX8_solves_62 : decode cX8_solves 62 = .ok (.ladd, 1) := by decide +kernel
theorem dX8_solves_63 : decode cX8_solves 63 = .ok (.putfield 37, 3) := by decide +kernel
theorem dX8_solves_66 : decode cX8_solves 66 = .ok (.aload_n 0, 1) := by decide +kernel
theorem dX8_solves_67 : decode cX8_solves 67 = .ok (.dup, 1) := by decide +kernel
theorem dX8_solves_68 : decode cX8_solves 68 = .ok (.getfield 41, 3) := by decide +kernel
theorem dX8_solves_71 : decode cX8_solves 71 = .ok (.lload_n 3, 1) := by decide +kernel
theorem dX8_solves_72 : decode cX8_solves 72 = .ok (.aload_n 0, 1) := by decide +kernel
theorem dX8_solves_73 : decode cX8_solves 73 = .ok (.getfield 21, 3) := by decide +kernel
theorem dX8_solves_76 : decode cX8_solves 76 = .ok (.iload_n 2, 1) := by decide +kernel
theorem dX8_solves_77 : decode cX8_solves 77 = .ok (.iaload, 1) := by decide +kernel
theorem dX8_solves_78 : decode cX8_solves 78 = .ok (.i2l, 1) := by decide +kernel
theorem dX8_solves_79 : decode cX8_solves 79 = .ok (.lmul, 1) := by decide +kernel
theorem dX8_solves_80 : decode cX8_solves 80 = .ok (.ladd, 1) := by decide +kernel
theorem dX8_solves_81 : decode cX8_solves 81 = .ok (.putfield 41, 3) := by decide +kernel
theorem dX8_solves_84 : decode cX8_solves 84 = .ok (.iinc 2 1, 3) := by decide +kernel
theorem dX8_solves_87 : decode cX8_solves 87 = .ok (.goto (-75), 3) := by decide +kernel
theorem dX8_solves_90 : decode cX8_solves 90 = .ok (.aload_n 0, 1) := by decide +kernel
theorem dX8_solves_91 : decode cX8_solves 91 = .ok (.getfield 41, 3) := by decide +kernel
theorem dX8_solves_94 : decode cX8_solves 94 = .ok (.lconst 0, 1) := by decide +kernel
theorem dX8_solves_95 : decode cX8_solves 95 = .ok (.lcmp, 1) := by decide +kernel
theorem dX8_solves_96 : decode cX8_solves 96 = .ok (.ifCond .le 7, 3) := by decide +kernel
theorem dX8_solves_99 : decode cX8_solves 99 = .ok (.iconst 1, 1) := by decide +kernel
theorem dX8_solves_100 : decode cX8_solves 100 = .ok (.goto 4, 3) := by decide +kernel
theorem dX8_solves_103 : decode cX8_solves 103 = .ok (.iconst 0, 1) := by decide +kernel
theorem dX8_solves_104 : decode cX8_solves 104 = .ok (.ireturn, 1) := by decide +kernel
theorem oX8_solves_0 : OKI 53 0 (.aload_n 0, 1, [0], 0, 0, []) := And.intro dX8_solves_0 (And.intro rfl (rfl))
theorem oX8_solves_1 : OKI 53 1 (.lconst 0, 2, [], 0, 0, []) := And.intro dX8_solves_1 (And.intro rfl (by decide +kernel))
theorem oX8_solves_2 : OKI 53 2 (.putfield 37, 5, [9, 8, 1], 0, 0, []) := And.intro dX8_solves_2 (And.intro rfl (⟨(RX8, TX8, 10), "SpotTimers$Tally", rfl, by decide, tm_1 _ (List.mem_of_getElem? (i := 163) rfl) rfl, Or.inl rfl, Or.inl rfl, rfl⟩))
theorem oX8_solves_5 : OKI 53 5 (.aload_n 0, 6, [0], 0, 0, []) := And.intro dX8_solves_5 (And.intro rfl (rfl))
theorem oX8_solves_6 : OKI 53 6 (.lconst 0, 7, [], 0, 0, []) := And.intro dX8_solves_6 (And.intro rfl (by decide +kernel))
theorem oX8_solves_7 : OKI 53 7 (.putfield 41, 10, [9, 9, 1], 0, 0, []) := And.intro dX8_solves_7 (And.intro rfl (⟨(RX8, TX8, 10), "SpotTimers$Tally", rfl, by decide, tm_1 _ (List.mem_of_getElem? (i := 165) rfl) rfl, Or.inl rfl, Or.inl rfl, rfl⟩))
theorem oX8_solves_10 : OKI 53 10 (.iconst 0, 11, [], 0, 0, []) := And.intro dX8_solves_10 (And.intro rfl (by decide +kernel))
theorem oX8_solves_11 : OKI 53 11 (.istore_n 2, 12, [2], 0, 0, []) := And.intro dX8_solves_11 (And.intro rfl (And.intro rfl (by decide)))
theorem oX8_solves_12 : OKI 53 12 (.iload_n 2, 13, [2], 0, 0, []) := And.intro dX8_solves_12 (And.intro rfl (rfl))
theorem oX8_solves_13 : OKI 53 13 (.aload_n 0, 14, [0], 0, 0, []) := And.intro dX8_solves_13 (And.intro rfl (rfl))
theorem oX8_solves_14 : OKI 53 14 (.getfield 33, 17, [9, 7, 0], 0, 0, []) := And.intro dX8_solves_14 (And.intro rfl (⟨(RX8, TX8, 10), "SpotTimers$Tally", rfl, by decide, tm_1 _ (List.mem_of_getElem? (i := 161) rfl) rfl, Or.inl rfl, Or.inr (Or.inr (And.intro rfl (Or.inl rfl)))⟩))
theorem oX8_solves_17 : OKI 53 17 (.if_icmp .ge 73, 20, [90], 0, 0, []) := And.intro dX8_solves_17 (And.intro rfl (by decide))
theorem oX8_solves_20 : OKI 53 20 (.iload_n 1, 21, [1], 0, 0, []) := And.intro dX8_solves_20 (And.intro rfl (rfl))
theorem oX8_solves_21 : OKI 53 21 (.iload_n 2, 22, [2], 0, 0, []) := And.intro dX8_solves_21 (And.intro rfl (rfl))
theorem oX8_solves_22 : OKI 53 22 (.invokestatic 84, 25, [52, 2, 0, 0, 0, 1], 0, 0, []) := And.intro dX8_solves_22 (And.intro rfl (And.intro rfl (And.intro mo_X8_isLeftOut (And.intro (Or.inl (tm_4 _ (List.mem_of_getElem? (i := 217) rfl) rfl)) (tm_4 _ (List.mem_of_getElem? (i := 218) rfl) rfl)))))
theorem oX8_solves_25 : OKI 53 25 (.ifCond .ne 59, 28, [84], 0, 0, []) := And.intro dX8_solves_25 (And.intro rfl (by decide))
theorem oX8_solves_28 : OKI 53 28 (.aload_n 0, 29, [0], 0, 0, []) := And.intro dX8_solves_28 (And.intro rfl (rfl))
theorem oX8_solves_29 : OKI 53 29 (.getfield 18, 32, [9, 2, 2, 109, 0], 0, 0, []) := And.intro dX8_solves_29 (And.intro rfl (⟨(RX8, TX8, 10), "SpotTimers$Tally", rfl, by decide, tm_1 _ (List.mem_of_getElem? (i := 156) rfl) rfl, Or.inl rfl, rfl, rfl⟩))
theorem oX8_solves_32 : OKI 53 32 (.iload_n 2, 33, [2], 0, 0, []) := And.intro dX8_solves_32 (And.intro rfl (rfl))
theorem oX8_solves_33 : OKI 53 33 (.iaload, 34, [], 0, 0, []) := And.intro dX8_solves_33 rfl
theorem oX8_solves_34 : OKI 53 34 (.i2l, 35, [], 0, 0, []) := And.intro dX8_solves_34 rfl
theorem oX8_solves_35 : OKI 53 35 (.aload_n 0, 36, [0], 0, 0, []) := And.intro dX8_solves_35 (And.intro rfl (rfl))
theorem oX8_solves_36 : OKI 53 36 (.getfield 21, 39, [9, 3, 2, 110, 0], 0, 0, []) := And.intro dX8_solves_36 (And.intro rfl (⟨(RX8, TX8, 10), "SpotTimers$Tally", rfl, by decide, tm_1 _ (List.mem_of_getElem? (i := 157) rfl) rfl, Or.inl rfl, rfl, rfl⟩))
theorem oX8_solves_39 : OKI 53 39 (.iload_n 2, 40, [2], 0, 0, []) := And.intro dX8_solves_39 (And.intro rfl (rfl))
theorem oX8_solves_40 : OKI 53 40 (.iaload, 41, [], 0, 0, []) := And.intro dX8_solves_40 rfl
theorem oX8_solves_41 : OKI 53 41 (.i2l, 42, [], 0, 0, []) := And.intro dX8_solves_41 rfl
theorem oX8_solves_42 : OKI 53 42 (.lmul, 43, [], 0, 0, []) := And.intro dX8_solves_42 rfl
theorem oX8_solves_43 : OKI 53 43 (.lstore_n 3, 44, [3], 0, 0, []) := And.intro dX8_solves_43 (And.intro rfl (And.intro rfl (by decide)))
theorem oX8_solves_44 : OKI 53 44 (.aload_n 0, 45, [0], 0, 0, []) := And.intro dX8_solves_44 (And.intro rfl (rfl))
theorem oX8_solves_45 : OKI 53 45 (.dup, 46, [], 0, 0, []) := And.intro dX8_solves_45 rfl
theorem oX8_solves_46 : OKI 53 46 (.getfield 37, 49, [9, 8, 1], 0, 0, []) := And.intro dX8_solves_46 (And.intro rfl (⟨(RX8, TX8, 10), "SpotTimers$Tally", rfl, by decide, tm_1 _ (List.mem_of_getElem? (i := 163) rfl) rfl, Or.inl rfl, Or.inl (And.intro rfl rfl)⟩))
theorem oX8_solves_49 : OKI 53 49 (.ldc2_w 88, 52, [], 0, 100, []) := And.intro dX8_solves_49 (And.intro rfl (tm_4 _ (List.mem_of_getElem? (i := 220) rfl) rfl))
theorem oX8_solves_52 : OKI 53 52 (.lload_n 3, 53, [3], 0, 0, []) := And.intro dX8_solves_52 (And.intro rfl (rfl))
theorem oX8_solves_53 : OKI 53 53 (.lmul, 54, [], 0, 0, []) := And.intro dX8_solves_53 rfl
theorem oX8_solves_54 : OKI 53 54 (.aload_n 0, 55, [0], 0, 0, []) := And.intro dX8_solves_54 (And.intro rfl (rfl))
theorem oX8_solves_55 : OKI 53 55 (.getfield 24, 58, [9, 4, 2, 111, 0], 0, 0, []) := And.intro dX8_solves_55 (And.intro rfl (⟨(RX8, TX8, 10), "SpotTimers$Tally", rfl, by decide, tm_1 _ (List.mem_of_getElem? (i := 158) rfl) rfl, Or.inl rfl, rfl, rfl⟩))
theorem oX8_solves_58 : OKI 53 58 (.iload_n 2, 59, [2], 0, 0, []) := And.intro dX8_solves_58 (And.intro rfl (rfl))
theorem oX8_solves_59 : OKI 53 59 (.iaload, 60, [], 0, 0, []) := And.intro dX8_solves_59 rfl
theorem oX8_solves_60 : OKI 53 60 (.i2l, 61, [], 0, 0, []) := And.intro dX8_solves_60 rfl
theorem oX8_solves_61 : OKI 53 61 (.lmul, 62, [], 0, 0, []) := And.intro dX8_solves_61 rfl
theorem oX8_solves_62 : OKI 53 62 (.ladd, 63, [], 0, 0, []) := And.intro dX8_solves_62 rfl
theorem oX8_solves_63 : OKI 53 63 (.putfield 37, 66, [9, 8, 1], 0, 0, []) := And.intro dX8_solves_63 (And.intro rfl (⟨(RX8, TX8, 10), "SpotTimers$Tally", rfl, by decide, tm_1 _ (List.mem_of_getElem? (i := 163) rfl) rfl, Or.inl rfl, Or.inl rfl, rfl⟩))
theorem oX8_solves_66 : OKI 53 66 (.aload_n 0, 67, [0], 0, 0, []) := And.intro dX8_solves_66 (And.intro rfl (rfl))
theorem oX8_solves_67 : OKI 53 67 (.dup, 68, [], 0, 0, []) := And.intro dX8_solves_67 rfl
theorem oX8_solves_68 : OKI 53 68 (.getfield 41, 71, [9, 9, 1], 0, 0, []) := And.intro dX8_solves_68 (And.intro rfl (⟨(RX8, TX8, 10), "SpotTimers$Tally", rfl, by decide, tm_1 _ (List.mem_of_getElem? (i := 165) rfl) rfl, Or.inl rfl, Or.inl (And.intro rfl rfl)⟩))
theorem oX8_solves_71 : OKI 53 71 (.lload_n 3, 72, [3], 0, 0, []) := And.intro dX8_solves_71 (And.intro rfl (rfl))
theorem oX8_solves_72 : OKI 53 72 (.aload_n 0, 73, [0], 0, 0, []) := And.intro dX8_solves_72 (And.intro rfl (rfl))
theorem oX8_solves_73 : OKI 53 73 (.getfield 21, 76, [9, 3, 2, 110, 0], 0, 0, []) := And.intro dX8_solves_73 (And.intro rfl (⟨(RX8, TX8, 10), "SpotTimers$Tally", rfl, by decide, tm_1 _ (List.mem_of_getElem? (i := 157) rfl) rfl, Or.inl rfl, rfl, rfl⟩))
theorem oX8_solves_76 : OKI 53 76 (.iload_n 2, 77, [2], 0, 0, []) := And.intro dX8_solves_76 (And.intro rfl (rfl))
theorem oX8_solves_77 : OKI 53 77 (.iaload, 78, [], 0, 0, []) := And.intro dX8_solves_77 rfl
theorem oX8_solves_78 : OKI 53 78 (.i2l, 79, [], 0, 0, []) := And.intro dX8_solves_78 rfl
theorem oX8_solves_79 : OKI 53 79 (.lmul, 80, [], 0, 0, []) := And.intro dX8_solves_79 rfl
theorem oX8_solves_80 : OKI 53 80 (.ladd, 81, [], 0, 0, []) := And.intro dX8_solves_80 rfl
theorem oX8_solves_81 : OKI 53 81 (.putfield 41, 84, [9, 9, 1], 0, 0, []) := And.intro dX8_solves_81 (And.intro rfl (⟨(RX8, TX8, 10), "SpotTimers$Tally", rfl, by decide, tm_1 _ (List.mem_of_getElem? (i := 165) rfl) rfl, Or.inl rfl, Or.inl rfl, rfl⟩))
theorem oX8_solves_84 : OKI 53 84 (.iinc 2 1, 87, [2], 1, 0, []) := And.intro dX8_solves_84 (And.intro rfl (And.intro rfl (And.intro (by decide +kernel) (by decide))))
theorem oX8_solves_87 : OKI 53 87 (.goto (-75), 90, [12], 0, 0, []) := And.intro dX8_solves_87 (And.intro rfl (by decide))
theorem oX8_solves_90 : OKI 53 90 (.aload_n 0, 91, [0], 0, 0, []) := And.intro dX8_solves_90 (And.intro rfl (rfl))
theorem oX8_solves_91 : OKI 53 91 (.getfield 41, 94, [9, 9, 1], 0, 0, []) := And.intro dX8_solves_91 (And.intro rfl (⟨(RX8, TX8, 10), "SpotTimers$Tally", rfl, by decide, tm_1 _ (List.mem_of_getElem? (i := 165) rfl) rfl, Or.inl rfl, Or.inl (And.intro rfl rfl)⟩))
theorem oX8_solves_94 : OKI 53 94 (.lconst 0, 95, [], 0, 0, []) := And.intro dX8_solves_94 (And.intro rfl (by decide +kernel))
theorem oX8_solves_95 : OKI 53 95 (.lcmp, 96, [], 0, 0, []) := And.intro dX8_solves_95 rfl
theorem oX8_solves_96 : OKI 53 96 (.ifCond .le 7, 99, [103], 0, 0, []) := And.intro dX8_solves_96 (And.intro rfl (by decide))
theorem oX8_solves_99 : OKI 53 99 (.iconst 1, 100, [], 1, 0, []) := And.intro dX8_solves_99 (And.intro rfl (by decide +kernel))
theorem oX8_solves_100 : OKI 53 100 (.goto 4, 103, [104], 0, 0, []) := And.intro dX8_solves_100 (And.intro rfl (by decide))
theorem oX8_solves_103 : OKI 53 103 (.iconst 0, 104, [], 0, 0, []) := And.intro dX8_solves_103 (And.intro rfl (by decide +kernel))
theorem oX8_solves_104 : OKI 53 104 (.ireturn, 105, [3], 0, 0, []) := And.intro dX8_solves_104 (Or.inr (Or.inl (And.intro rfl rfl)))
def pfX8_solves (pc : Nat) : Option XE := (bif Nat.blt pc 52 then (bif Nat.blt pc 28 then (bif Nat.blt pc 12 then (bif Nat.blt pc 6 then (bif Nat.blt pc 2 then (bif Nat.blt pc 1 then (bif Nat.beq pc 0 then some (.aload_n 0, 1, [0], 0, 0, []) else none) else (bif Nat.beq pc 1 then some (.lconst 0, 2, [], 0, 0, []) else none)) else (bif Nat.blt pc 5 then (bif Nat.beq pc 2 then some (.putfield 37, 5, [9, 8, 1], 0, 0, []) else none) else (bif Nat.beq pc 5 then some (.aload_n 0, 6, [0], 0, 0, []) else none))) else (bif Nat.blt pc 10 then (bif Nat.blt pc 7 then (bif Nat.beq pc 6 then some (.lconst 0, 7, [], 0, 0, []) else none) else (bif Nat.beq pc 7 then some (.putfield 41, 10, [9, 9, 1], 0, 0, []) else none)) else (bif Nat.blt pc 11 then (bif Nat.beq pc 10 then some (.iconst 0, 11, [], 0, 0, []) else none) else (bif Nat.beq pc 11 then some (.istore_n 2, 12, [2], 0, 0, []) else none)))) else (bif Nat.blt pc 20 then (bif Nat.blt pc 14 then (bif Nat.blt pc 13 then (bif Nat.beq pc 12 then some (.iload_n 2, 13, [2], 0, 0, []) else none) else (bif Nat.beq pc 13 then some (.aload_n 0, 14, [0], 0, 0, []) else none)) else (bif Nat.blt pc 17 then (bif Nat.beq pc 14 then some (.getfield 33, 17, [9, 7, 0], 0, 0, []) else none) else (bif Nat.beq pc 17 then some (.if_icmp .ge 73, 20, [90], 0, 0, []) else none))) else (bif Nat.blt pc 22 then (bif Nat.blt pc 21 then (bif Nat.beq pc 20 then some (.iload_n 1, 21, [1], 0, 0, []) else none) else (bif Nat.beq pc 21 then some (.iload_n 2, 22, [2], 0, 0, []) else none)) else (bif Nat.blt pc 25 then (bif Nat.beq pc 22 then some (.invokestatic 84, 25, [52, 2, 0, 0, 0, 1], 0, 0, []) else none) else (bif Nat.beq pc 25 then some (.ifCond .ne 59, 28, [84], 0, 0, []) else none))))) else (bif Nat.blt pc 40 then (bif Nat.blt pc 34 then (bif Nat.blt pc 32 then (bif Nat.blt pc 29 then (bif Nat.beq pc 28 then some (.aload_n 0, 29, [0], 0, 0, []) else none) else (bif Nat.beq pc 29 then some (.getfield 18, 32, [9, 2, 2, 109, 0], 0, 0, []) else none)) else (bif Nat.blt pc 33 then (bif Nat.beq pc 32 then some (.iload_n 2, 33, [2], 0, 0, []) else none) else (bif Nat.beq pc 33 then some (.iaload, 34, [], 0, 0, []) else none))) else (bif Nat.blt pc 36 then (bif Nat.blt pc 35 then (bif Nat.beq pc 34 then some (.i2l, 35, [], 0, 0, []) else none) else (bif Nat.beq pc 35 then some (.aload_n 0, 36, [0], 0, 0, []) else none)) else (bif Nat.blt pc 39 then (bif Nat.beq pc 36 then some (.getfield 21, 39, [9, 3, 2, 110, 0], 0, 0, []) else none) else (bif Nat.beq pc 39 then some (.iload_n 2, 40, [2], 0, 0, []) else none)))) else (bif Nat.blt pc 44 then (bif Nat.blt pc 42 then (bif Nat.blt pc 41 then (bif Nat.beq pc 40 then some (.iaload, 41, [], 0, 0, []) else none) else (bif Nat.beq pc 41 then some (.i2l, 42, [], 0, 0, []) else none)) else (bif Nat.blt pc 43 then (bif Nat.beq pc 42 then some (.lmul, 43, [], 0, 0, []) else none) else (bif Nat.beq pc 43 then some (.lstore_n 3, 44, [3], 0, 0, []) else none))) else (bif Nat.blt pc 46 then (bif Nat.blt pc 45 then (bif Nat.beq pc 44 then some (.aload_n 0, 45, [0], 0, 0, []) else none) else (bif Nat.beq pc 45 then some (.dup, 46, [], 0, 0, []) else none)) else (bif Nat.blt pc 49 then (bif Nat.beq pc 46 then some (.getfield 37, 49, [9, 8, 1], 0, 0, []) else none) else (bif Nat.beq pc 49 then some (.ldc2_w 88, 52, [], 0, 100, []) else none)))))) else (bif Nat.blt pc 76 then (bif Nat.blt pc 62 then (bif Nat.blt pc 58 then (bif Nat.blt pc 54 then (bif Nat.blt pc 53 then (bif Nat.beq pc 52 then some (.lload_n 3, 53, [3], 0, 0, []) else none) else (bif Nat.beq pc 53 then some (.lmul, 54, [], 0, 0, []) else none)) else (bif Nat.blt pc 55 then (bif Nat.beq pc 54 then some (.aload_n 0, 55, [0], 0, 0, []) else none) else (bif Nat.beq pc 55 then some (.getfield 24, 58, [9, 4, 2, 111, 0], 0, 0, []) else none))) else (bif Nat.blt pc 60 then (bif Nat.blt pc 59 then (bif Nat.beq pc 58 then some (.iload_n 2, 59, [2], 0, 0, []) else none) else (bif Nat.beq pc 59 then some (.iaload, 60, [], 0, 0, []) else none)) else (bif Nat.blt pc 61 then (bif Nat.beq pc 60 then some (.i2l, 61, [], 0, 0, []) else none) else (bif Nat.beq pc 61 then some (.lmul, 62, [], 0, 0, []) else none)))) else (bif Nat.blt pc 68 then (bif Nat.blt pc 66 then (bif Nat.blt pc 63 then (bif Nat.beq pc 62 then some (.ladd, 63, [], 0, 0, []) else none) else (bif Nat.beq pc 63 then some (.putfield 37, 66, [9, 8, 1], 0, 0, []) else none)) else (bif Nat.blt pc 67 then (bif Nat.beq pc 66 then some (.aload_n 0, 67, [0], 0, 0, []) else none) else (bif Nat.beq pc 67 then some (.dup, 68, [], 0, 0, []) else none))) else (bif Nat.blt pc 72 then (bif Nat.blt pc 71 then (bif Nat.beq pc 68 then some (.getfield 41, 71, [9, 9, 1], 0, 0, []) else none) else (bif Nat.beq pc 71 then some (.lload_n 3, 72, [3], 0, 0, []) else none)) else (bif Nat.blt pc 73 then (bif Nat.beq pc 72 then some (.aload_n 0, 73, [0], 0, 0, []) else none) else (bif Nat.beq pc 73 then some (.getfield 21, 76, [9, 3, 2, 110, 0], 0, 0, []) else none))))) else (bif Nat.blt pc 90 then (bif Nat.blt pc 80 then (bif Nat.blt pc 78 then (bif Nat.blt pc 77 then (bif Nat.beq pc 76 then some (.iload_n 2, 77, [2], 0, 0, []) else none) else (bif Nat.beq pc 77 then some (.iaload, 78, [], 0, 0, []) else none)) else (bif Nat.blt pc 79 then (bif Nat.beq pc 78 then some (.i2l, 79, [], 0, 0, []) else none) else (bif Nat.beq pc 79 then some (.lmul, 80, [], 0, 0, []) else none))) else (bif Nat.blt pc 84 then (bif Nat.blt pc 81 then (bif Nat.beq pc 80 then some (.ladd, 81, [], 0, 0, []) else none) else (bif Nat.beq pc 81 then some (.putfield 41, 84, [9, 9, 1], 0, 0, []) else none)) else (bif Nat.blt pc 87 then (bif Nat.beq pc 84 then some (.iinc 2 1, 87, [2], 1, 0, []) else none) else (bif Nat.beq pc 87 then some (.goto (-75), 90, [12], 0, 0, []) else none)))) else (bif Nat.blt pc 96 then (bif Nat.blt pc 94 then (bif Nat.blt pc 91 then (bif Nat.beq pc 90 then some (.aload_n 0, 91, [0], 0, 0, []) else none) else (bif Nat.beq pc 91 then some (.getfield 41, 94, [9, 9, 1], 0, 0, []) else none)) else (bif Nat.blt pc 95 then (bif Nat.beq pc 94 then some (.lconst 0, 95, [], 0, 0, []) else none) else (bif Nat.beq pc 95 then some (.lcmp, 96, [], 0, 0, []) else none))) else (bif Nat.blt pc 100 then (bif Nat.blt pc 99 then (bif Nat.beq pc 96 then some (.ifCond .le 7, 99, [103], 0, 0, []) else none) else (bif Nat.beq pc 99 then some (.iconst 1, 100, [], 1, 0, []) else none)) else (bif Nat.blt pc 103 then (bif Nat.beq pc 100 then some (.goto 4, 103, [104], 0, 0, []) else none) else (bif Nat.blt pc 104 then (bif Nat.beq pc 103 then some (.iconst 0, 104, [], 0, 0, []) else none) else (bif Nat.beq pc 104 then some (.ireturn, 105, [3], 0, 0, []) else none))))))))
theorem okX8_solves : ∀ pc Y, pfX8_solves pc = some Y → OKI m_X8_solves pc Y := fun pc Y => ((bt_node (bt_node (bt_node (bt_node (bt_node (bt_node (bt_leaf (P := OKI m_X8_solves) oX8_solves_0) (bt_leaf (P := OKI m_X8_solves) oX8_solves_1)) (bt_node (bt_leaf (P := OKI m_X8_solves) oX8_solves_2) (bt_leaf (P := OKI m_X8_solves) oX8_solves_5))) (bt_node (bt_node (bt_leaf (P := OKI m_X8_solves) oX8_solves_6) (bt_leaf (P := OKI m_X8_solves) oX8_solves_7)) (bt_node (bt_leaf (P := OKI m_X8_solves) oX8_solves_10) (bt_leaf (P := OKI m_X8_solves) oX8_solves_11)))) (bt_node (bt_node (bt_node (bt_leaf (P := OKI m_X8_solves) oX8_solves_12) (bt_leaf (P := OKI m_X8_solves) oX8_solves_13)) (bt_node (bt_leaf (P := OKI m_X8_solves) oX8_solves_14) (bt_leaf (P := OKI m_X8_solves) oX8_solves_17))) (bt_node (bt_node (bt_leaf (P := OKI m_X8_solves) oX8_solves_20) (bt_leaf (P := OKI m_X8_solves) oX8_solves_21)) (bt_node (bt_leaf (P := OKI m_X8_solves) oX8_solves_22) (bt_leaf (P := OKI m_X8_solves) oX8_solves_25))))) (bt_node (bt_node (bt_node (bt_node (bt_leaf (P := OKI m_X8_solves) oX8_solves_28) (bt_leaf (P := OKI m_X8_solves) oX8_solves_29)) (bt_node (bt_leaf (P := OKI m_X8_solves) oX8_solves_32) (bt_leaf (P := OKI m_X8_solves) oX8_solves_33))) (bt_node (bt_node (bt_leaf (P := OKI m_X8_solves) oX8_solves_34) (bt_leaf (P := OKI m_X8_solves) oX8_solves_35)) (bt_node (bt_leaf (P := OKI m_X8_solves) oX8_solves_36) (bt_leaf (P := OKI m_X8_solves) oX8_solves_39)))) (bt_node (bt_node (bt_node (bt_leaf (P := OKI m_X8_solves) oX8_solves_40) (bt_leaf (P := OKI m_X8_solves) oX8_solves_41)) (bt_node (bt_leaf (P := OKI m_X8_solves) oX8_solves_42) (bt_leaf (P := OKI m_X8_solves) oX8_solves_43))) (bt_node (bt_node (bt_leaf (P := OKI m_X8_solves) oX8_solves_44) (bt_leaf (P := OKI m_X8_solves) oX8_solves_45)) (bt_node (bt_leaf (P := OKI m_X8_solves) oX8_solves_46) (bt_leaf (P := OKI m_X8_solves) oX8_solves_49)))))) (bt_node (bt_node (bt_node (bt_node (bt_node (bt_leaf (P := OKI m_X8_solves) oX8_solves_52) (bt_leaf (P := OKI m_X8_solves) oX8_solves_53)) (bt_node (bt_leaf (P := OKI m_X8_solves) oX8_solves_54) (bt_leaf (P := OKI m_X8_solves) oX8_solves_55))) (bt_node (bt_node (bt_leaf (P := OKI m_X8_solves) oX8_solves_58) (bt_leaf (P := OKI m_X8_solves) oX8_solves_59)) (bt_node (bt_leaf (P := OKI m_X8_solves) oX8_solves_60) (bt_leaf (P := OKI m_X8_solves) oX8_solves_61)))) (bt_node (bt_node (bt_node (bt_leaf (P := OKI m_X8_solves) oX8_solves_62) (bt_leaf (P := OKI m_X8_solves) oX8_solves_63)) (bt_node (bt_leaf (P := OKI m_X8_solves) oX8_solves_66) (bt_leaf (P := OKI m_X8_solves) oX8_solves_67))) (bt_node (bt_node (bt_leaf (P := OKI m_X8_solves) oX8_solves_68) (bt_leaf (P := OKI m_X8_solves) oX8_solves_71)) (bt_node (bt_leaf (P := OKI m_X8_solves) oX8_solves_72) (bt_leaf (P := OKI m_X8_solves) oX8_solves_73))))) (bt_node (bt_node (bt_node (bt_node (bt_leaf (P := OKI m_X8_solves) oX8_solves_76) (bt_leaf (P := OKI m_X8_solves) oX8_solves_77)) (bt_node (bt_leaf (P := OKI m_X8_solves) oX8_solves_78) (bt_leaf (P := OKI m_X8_solves) oX8_solves_79))) (bt_node (bt_node (bt_leaf (P := OKI m_X8_solves) oX8_solves_80) (bt_leaf (P := OKI m_X8_solves) oX8_solves_81)) (bt_node (bt_leaf (P := OKI m_X8_solves) oX8_solves_84) (bt_leaf (P := OKI m_X8_solves) oX8_solves_87)))) (bt_node (bt_node (bt_node (bt_leaf (P := OKI m_X8_solves) oX8_solves_90) (bt_leaf (P := OKI m_X8_solves) oX8_solves_91)) (bt_node (bt_leaf (P := OKI m_X8_solves) oX8_solves_94) (bt_leaf (P := OKI m_X8_solves) oX8_solves_95))) (bt_node (bt_node (bt_leaf (P := OKI m_X8_solves) oX8_solves_96) (bt_leaf (P := OKI m_X8_solves) oX8_solves_99)) (bt_node (bt_leaf (P := OKI m_X8_solves) oX8_solves_100) (bt_node (bt_leaf (P := OKI m_X8_solves) oX8_solves_103) (bt_leaf (P := OKI m_X8_solves) oX8_solves_104)))))))) : pfX8_solves pc = some Y → OKI m_X8_solves pc Y)
def stpX8_solves (pc : Nat) : Option (List Bool) := (bif Nat.blt pc 84 then (bif Nat.beq pc 12 then some [true, true, true, false, false] else none) else (bif Nat.blt pc 104 then (bif Nat.beq pc 84 then some [true, true, true, false, false] else none) else (bif Nat.beq pc 104 then some [false, false, false, false, false] else none)))
def bX8_solves_0 (d rc rs : Nat) (t : Nat) (a1 : Int32) (σ : XH) (Q : XV → XH → Prop) : Prop :=
  ((∀ h1, h1 = wL σ 9 t 8 0 → ((∀ h2, h2 = wL h1 9 t 9 0 → Ex d rc rs m_X8_solves 12 [vR (some (9, t)), vI a1, vI 0, vU, vU] [] h2 Q))))
theorem sX8_solves_0 {d rc rs : Nat} {t : Nat} {a1 : Int32} {σ : XH} {Q : XV → XH → Prop} (h : bX8_solves_0 d rc rs t a1 σ Q) : Ex d rc rs m_X8_solves 0 [vR (some (9, t)), vI a1, vU, vU, vU] [] σ Q :=
  xtree_sound (stop := stpX8_solves) okX8_solves 10 _ _ _ _ _ _ h
def bX8_solves_12 (d rc rs : Nat) (t : Nat) (l1 : Int32) (l2 : Int32) (σ : XH) (Q : XV → XH → Prop) : Prop :=
  (((l2 < (hi σ 9 t 7) → (1 ≤ d ∧ Ec (d - 1) 0 0 m_X8_isLeftOut [vI l1, vI l2] σ (kI fun x2 h1 => ((x2 = 0 → ((hr h1 9 t 2 = some (109, t) ∧ ((vp_in l2 (hn h1 109 t) ∧ ((hr h1 9 t 3 = some (110, t) ∧ ((vp_in l2 (hn h1 110 t) ∧ (((hr h1 9 t 4 = some (111, t) ∧ ((vp_in l2 (hn h1 111 t) ∧ ((∀ h3, h3 = wL h1 9 t 8 ((hl h1 9 t 8) + ((100 * (((hi h1 109 t l2.toNatClampNeg).toInt64) * ((hi h1 110 t l2.toNatClampNeg).toInt64))) * ((hi h1 111 t l2.toNatClampNeg).toInt64))) → (((hr h3 9 t 3 = some (110, t) ∧ ((vp_in l2 (hn h3 110 t) ∧ ((∀ h4, h4 = wL h3 9 t 9 ((hl h3 9 t 9) + ((((hi h1 109 t l2.toNatClampNeg).toInt64) * ((hi h1 110 t l2.toNatClampNeg).toInt64)) * ((hi h3 110 t l2.toNatClampNeg).toInt64))) → Ex d rc rs m_X8_solves 84 [vR (some (9, t)), vI l1, vI l2, vU, vU] [] h4 Q))))))))))))))))))))))) ∧ (¬ x2 = 0 → Ex d rc rs m_X8_solves 84 [vR (some (9, t)), vI l1, vI l2, vU, vU] [] h1 Q))))) ∧ (¬ l2 < (hi σ 9 t 7) → (((0 < (lg_cmp (hl σ 9 t 9) 0) → Ex d rc rs m_X8_solves 104 [vU, vU, vU, vU, vU] [vI 1] σ Q) ∧ (¬ 0 < (lg_cmp (hl σ 9 t 9) 0) → Ex d rc rs m_X8_solves 104 [vU, vU, vU, vU, vU] [vI 0] σ Q))))))
set_option maxRecDepth 40000 in
set_option maxHeartbeats 4000000 in
theorem sX8_solves_12 {d rc rs : Nat} {t : Nat} {l1 : Int32} {l2 : Int32} {σ : XH} {Q : XV → XH → Prop} (h : bX8_solves_12 d rc rs t l1 l2 σ Q) : Ex d rc rs m_X8_solves 12 [vR (some (9, t)), vI l1, vI l2, vU, vU] [] σ Q :=
  xtree_sound (stop := stpX8_solves) okX8_solves 48 _ _ _ _ _ _ h
def bX8_solves_84 (d rc rs : Nat) (t : Nat) (l1 : Int32) (l2 : Int32) (σ : XH) (Q : XV → XH → Prop) : Prop :=
  Ex d rc rs m_X8_solves 12 [vR (some (9, t)), vI l1, vI (l2 + 1), vU, vU] [] σ Q
theorem sX8_solves_84 {d rc rs : Nat} {t : Nat} {l1 : Int32} {l2 : Int32} {σ : XH} {Q : XV → XH → Prop} (h : bX8_solves_84 d rc rs t l1 l2 σ Q) : Ex d rc rs m_X8_solves 84 [vR (some (9, t)), vI l1, vI l2, vU, vU] [] σ Q :=
  xtree_sound (stop := stpX8_solves) okX8_solves 4 _ _ _ _ _ _ h
def bX8_solves_104 (d rc rs : Nat) (q0 : Int32) (σ : XH) (Q : XV → XH → Prop) : Prop :=
  ((q0 = 0 ∨ q0 = 1) ∧ Q (vI q0) σ)
theorem sX8_solves_104 {d rc rs : Nat} {q0 : Int32} {σ : XH} {Q : XV → XH → Prop} (h : bX8_solves_104 d rc rs q0 σ Q) : Ex d rc rs m_X8_solves 104 [vU, vU, vU, vU, vU] [vI q0] σ Q :=
  xtree_sound (stop := stpX8_solves) okX8_solves 3 _ _ _ _ _ _ h
/-! SpotTimers$Tally.bestDistance()I -/
theorem dX8_bestDistance_0 : decode cX8_bestDistance 0 = .ok (.aload_n 0, 1) := by decide +kernel
theorem dX8_bestDistance_1 : decode cX8_bestDistance 1 = .ok (.getfield 41, 3) := by decide +kernel
theorem dX8_bestDistance_4 : decode cX8_bestDistance 4 = .ok (.lconst 0, 1) := by decide +kernel
theorem dX8_bestDistance_5 : decode cX8_bestDistance 5 = .ok (.lcmp, 1) := by decide +kernel
theorem dX8_bestDistance_6 : decode cX8_bestDistance 6 = .ok (.ifCond .gt 5, 3) := by decide +kernel
theorem dX8_bestDistance_9 : decode cX8_bestDistance 9 = .ok (.iconst 0, 1) := by decide +kernel
theorem dX8_bestDistance_10 : decode cX8_bestDistance 10 = .ok (.ireturn, 1) := by decide +kernel
theorem dX8_bestDistance_11 : decode cX8_bestDistance 11 = .ok (.lconst 0, 1) := by decide +kernel
theorem dX8_bestDistance_12 : decode cX8_bestDistance 12 = .ok (.ldc2_w 90, 3) := by decide +kernel
theorem dX8_bestDistance_15 : decode cX8_bestDistance 15 = .ok (.aload_n 0, 1) := by decide +kernel
theorem dX8_bestDistance_16 : decode cX8_bestDistance 16 = .ok (.getfield 37, 3) := by decide +kernel
theorem dX8_bestDistance_19 : decode cX8_bestDistance 19 = .ok (.aload_n 0, 1) := by decide +kernel
theorem dX8_bestDistance_20 : decode cX8_bestDistance 20 = .ok (.getfield 41, 3) := by decide +kernel
theorem dX8_bestDistance_23 : decode cX8_bestDistance 23 = .ok (.invokestatic 92, 3) := by decide +kernel
theorem dX8_bestDistance_26 : decode cX8_bestDistance 26 = .ok (.invokestatic 96, 3) := by decide +kernel
theorem dX8_bestDistance_29 : decode cX8_bestDistance 29 = .ok (.invokestatic 99, 3) := by decide +kernel
theorem dX8_bestDistance_32 : decode cX8_bestDistance 32 = .ok (.l2i, 1) := by decide +kernel
theorem dX8_bestDistance_33 : decode cX8_bestDistance 33 = .ok (.ireturn, 1) := by decide +kernel
theorem oX8_bestDistance_0 : OKI 54 0 (.aload_n 0, 1, [0], 0, 0, []) := And.intro dX8_bestDistance_0 (And.intro rfl (rfl))
theorem oX8_bestDistance_1 : OKI 54 1 (.getfield 41, 4, [9, 9, 1], 0, 0, []) := And.intro dX8_bestDistance_1 (And.intro rfl (⟨(RX8, TX8, 10), "SpotTimers$Tally", rfl, by decide, tm_1 _ (List.mem_of_getElem? (i := 165) rfl) rfl, Or.inl rfl, Or.inl (And.intro rfl rfl)⟩))
theorem oX8_bestDistance_4 : OKI 54 4 (.lconst 0, 5, [], 0, 0, []) := And.intro dX8_bestDistance_4 (And.intro rfl (by decide +kernel))
theorem oX8_bestDistance_5 : OKI 54 5 (.lcmp, 6, [], 0, 0, []) := And.intro dX8_bestDistance_5 rfl
theorem oX8_bestDistance_6 : OKI 54 6 (.ifCond .gt 5, 9, [11], 0, 0, []) := And.intro dX8_bestDistance_6 (And.intro rfl (by decide))
theorem oX8_bestDistance_9 : OKI 54 9 (.iconst 0, 10, [], 0, 0, []) := And.intro dX8_bestDistance_9 (And.intro rfl (by decide +kernel))
theorem oX8_bestDistance_10 : OKI 54 10 (.ireturn, 11, [0], 0, 0, []) := And.intro dX8_bestDistance_10 (Or.inl (And.intro rfl rfl))
theorem oX8_bestDistance_11 : OKI 54 11 (.lconst 0, 12, [], 0, 0, []) := And.intro dX8_bestDistance_11 (And.intro rfl (by decide +kernel))
theorem oX8_bestDistance_12 : OKI 54 12 (.ldc2_w 90, 15, [], 0, 99999, []) := And.intro dX8_bestDistance_12 (And.intro rfl (tm_4 _ (List.mem_of_getElem? (i := 236) rfl) rfl))
theorem oX8_bestDistance_15 : OKI 54 15 (.aload_n 0, 16, [0], 0, 0, []) := And.intro dX8_bestDistance_15 (And.intro rfl (rfl))
theorem oX8_bestDistance_16 : OKI 54 16 (.getfield 37, 19, [9, 8, 1], 0, 0, []) := And.intro dX8_bestDistance_16 (And.intro rfl (⟨(RX8, TX8, 10), "SpotTimers$Tally", rfl, by decide, tm_1 _ (List.mem_of_getElem? (i := 163) rfl) rfl, Or.inl rfl, Or.inl (And.intro rfl rfl)⟩))
theorem oX8_bestDistance_19 : OKI 54 19 (.aload_n 0, 20, [0], 0, 0, []) := And.intro dX8_bestDistance_19 (And.intro rfl (rfl))
theorem oX8_bestDistance_20 : OKI 54 20 (.getfield 41, 23, [9, 9, 1], 0, 0, []) := And.intro dX8_bestDistance_20 (And.intro rfl (⟨(RX8, TX8, 10), "SpotTimers$Tally", rfl, by decide, tm_1 _ (List.mem_of_getElem? (i := 165) rfl) rfl, Or.inl rfl, Or.inl (And.intro rfl rfl)⟩))
theorem oX8_bestDistance_23 : OKI 54 23 (.invokestatic 92, 26, [249, 2, 0, 0, 0, 2], 0, 0, []) := And.intro dX8_bestDistance_23 (And.intro rfl (And.intro rfl (And.intro mo_J9_floorDiv_f86c9 (And.intro (Or.inl (tm_4 _ (List.mem_of_getElem? (i := 237) rfl) rfl)) (tm_3 _ (List.mem_of_getElem? (i := 21) rfl) rfl)))))
theorem oX8_bestDistance_26 : OKI 54 26 (.invokestatic 96, 29, [255, 2, 0, 0, 0, 2], 0, 0, []) := And.intro dX8_bestDistance_26 (And.intro rfl (And.intro rfl (And.intro mo_J9_min_f86c9 (And.intro (Or.inl (tm_4 _ (List.mem_of_getElem? (i := 238) rfl) rfl)) (tm_4 _ (List.mem_of_getElem? (i := 239) rfl) rfl)))))
theorem oX8_bestDistance_29 : OKI 54 29 (.invokestatic 99, 32, [253, 2, 0, 0, 0, 2], 0, 0, []) := And.intro dX8_bestDistance_29 (And.intro rfl (And.intro rfl (And.intro mo_J9_max_f86c9 (And.intro (Or.inl (tm_5 _ (List.mem_of_getElem? (i := 1) rfl) rfl)) (tm_5 _ (List.mem_of_getElem? (i := 2) rfl) rfl)))))
theorem oX8_bestDistance_32 : OKI 54 32 (.l2i, 33, [], 0, 0, []) := And.intro dX8_bestDistance_32 rfl
theorem oX8_bestDistance_33 : OKI 54 33 (.ireturn, 34, [0], 0, 0, []) := And.intro dX8_bestDistance_33 (Or.inl (And.intro rfl rfl))
def pfX8_bestDistance (pc : Nat) : Option XE := (bif Nat.blt pc 15 then (bif Nat.blt pc 6 then (bif Nat.blt pc 4 then (bif Nat.blt pc 1 then (bif Nat.beq pc 0 then some (.aload_n 0, 1, [0], 0, 0, []) else none) else (bif Nat.beq pc 1 then some (.getfield 41, 4, [9, 9, 1], 0, 0, []) else none)) else (bif Nat.blt pc 5 then (bif Nat.beq pc 4 then some (.lconst 0, 5, [], 0, 0, []) else none) else (bif Nat.beq pc 5 then some (.lcmp, 6, [], 0, 0, []) else none))) else (bif Nat.blt pc 10 then (bif Nat.blt pc 9 then (bif Nat.beq pc 6 then some (.ifCond .gt 5, 9, [11], 0, 0, []) else none) else (bif Nat.beq pc 9 then some (.iconst 0, 10, [], 0, 0, []) else none)) else (bif Nat.blt pc 11 then (bif Nat.beq pc 10 then some (.ireturn, 11, [0], 0, 0, []) else none) else (bif Nat.blt pc 12 then (bif Nat.beq pc 11 then some (.lconst 0, 12, [], 0, 0, []) else none) else (bif Nat.beq pc 12 then some (.ldc2_w 90, 15, [], 0, 99999, []) else none))))) else (bif Nat.blt pc 23 then (bif Nat.blt pc 19 then (bif Nat.blt pc 16 then (bif Nat.beq pc 15 then some (.aload_n 0, 16, [0], 0, 0, []) else none) else (bif Nat.beq pc 16 then some (.getfield 37, 19, [9, 8, 1], 0, 0, []) else none)) else (bif Nat.blt pc 20 then (bif Nat.beq pc 19 then some (.aload_n 0, 20, [0], 0, 0, []) else none) else (bif Nat.beq pc 20 then some (.getfield 41, 23, [9, 9, 1], 0, 0, []) else none))) else (bif Nat.blt pc 29 then (bif Nat.blt pc 26 then (bif Nat.beq pc 23 then some (.invokestatic 92, 26, [249, 2, 0, 0, 0, 2], 0, 0, []) else none) else (bif Nat.beq pc 26 then some (.invokestatic 96, 29, [255, 2, 0, 0, 0, 2], 0, 0, []) else none)) else (bif Nat.blt pc 32 then (bif Nat.beq pc 29 then some (.invokestatic 99, 32, [253, 2, 0, 0, 0, 2], 0, 0, []) else none) else (bif Nat.blt pc 33 then (bif Nat.beq pc 32 then some (.l2i, 33, [], 0, 0, []) else none) else (bif Nat.beq pc 33 then some (.ireturn, 34, [0], 0, 0, []) else none))))))
theorem okX8_bestDistance : ∀ pc Y, pfX8_bestDistance pc = some Y → OKI m_X8_bestDistance pc Y := fun pc Y => ((bt_node (bt_node (bt_node (bt_node (bt_leaf (P := OKI m_X8_bestDistance) oX8_bestDistance_0) (bt_leaf (P := OKI m_X8_bestDistance) oX8_bestDistance_1)) (bt_node (bt_leaf (P := OKI m_X8_bestDistance) oX8_bestDistance_4) (bt_leaf (P := OKI m_X8_bestDistance) oX8_bestDistance_5))) (bt_node (bt_node (bt_leaf (P := OKI m_X8_bestDistance) oX8_bestDistance_6) (bt_leaf (P := OKI m_X8_bestDistance) oX8_bestDistance_9)) (bt_node (bt_leaf (P := OKI m_X8_bestDistance) oX8_bestDistance_10) (bt_node (bt_leaf (P := OKI m_X8_bestDistance) oX8_bestDistance_11) (bt_leaf (P := OKI m_X8_bestDistance) oX8_bestDistance_12))))) (bt_node (bt_node (bt_node (bt_leaf (P := OKI m_X8_bestDistance) oX8_bestDistance_15) (bt_leaf (P := OKI m_X8_bestDistance) oX8_bestDistance_16)) (bt_node (bt_leaf (P := OKI m_X8_bestDistance) oX8_bestDistance_19) (bt_leaf (P := OKI m_X8_bestDistance) oX8_bestDistance_20))) (bt_node (bt_node (bt_leaf (P := OKI m_X8_bestDistance) oX8_bestDistance_23) (bt_leaf (P := OKI m_X8_bestDistance) oX8_bestDistance_26)) (bt_node (bt_leaf (P := OKI m_X8_bestDistance) oX8_bestDistance_29) (bt_node (bt_leaf (P := OKI m_X8_bestDistance) oX8_bestDistance_32) (bt_leaf (P := OKI m_X8_bestDistance) oX8_bestDistance_33)))))) : pfX8_bestDistance pc = some Y → OKI m_X8_bestDistance pc Y)
def stpX8_bestDistance (_ : Nat) : Option (List Bool) := none
def bX8_bestDistance_0 (d rc rs : Nat) (t : Nat)  (σ : XH) (Q : XV → XH → Prop) : Prop :=
  (((0 < (lg_cmp (hl σ 9 t 9) 0) → (((1 ≤ d ∧ Ec (d - 1) 0 0 m_J9_floorDiv_f86c9 [vL (hl σ 9 t 8), vL (hl σ 9 t 9)] σ (kL fun x2 h1 => (1 ≤ d ∧ Ec (d - 1) 0 0 m_J9_min_f86c9 [vL 99999, vL x2] h1 (kL fun x4 h3 => (1 ≤ d ∧ Ec (d - 1) 0 0 m_J9_max_f86c9 [vL 0, vL x4] h3 (kL fun x6 h5 => Q (vI x6.toInt32) h5))))))))) ∧ (¬ 0 < (lg_cmp (hl σ 9 t 9) 0) → Q (vI 0) σ)))
theorem sX8_bestDistance_0 {d rc rs : Nat} {t : Nat}  {σ : XH} {Q : XV → XH → Prop} (h : bX8_bestDistance_0 d rc rs t  σ Q) : Ex d rc rs m_X8_bestDistance 0 [vR (some (9, t))] [] σ Q :=
  xtree_sound (stop := stpX8_bestDistance) okX8_bestDistance 18 _ _ _ _ _ _ h
/-! SpotTimers$Tally.restAt(II)I -/
theorem dX8_restAt_0 : decode cX8_restAt 0 = .ok (.iload_n 1, 1) := by decide +kernel
theorem dX8_restAt_1 : decode cX8_restAt 1 = .ok (.ifCond .lt 34, 3) := by decide +kernel
theorem dX8_restAt_4 : decode cX8_restAt 4 = .ok (.iload_n 1, 1) := by decide +kernel
theorem dX8_restAt_5 : decode cX8_restAt 5 = .ok (.aload_n 0, 1) := by decide +kernel
theorem dX8_restAt_6 : decode cX8_restAt 6 = .ok (.getfield 33, 3) := by decide +kernel
theorem dX8_restAt_9 : decode cX8_restAt 9 = .ok (.if_icmp .ge 26, 3) := by decide +kernel
theorem dX8_restAt_12 : decode cX8_restAt 12 = .ok (.aload_n 0, 1) := by decide +kernel
theorem dX8_restAt_13 : decode cX8_restAt 13 = .ok (.getfield 24, 3) := by decide +kernel
theorem dX8_restAt_16 : decode cX8_restAt 16 = .ok (.iload_n 1, 1) := by decide +kernel
theorem dX8_restAt_17 : decode cX8_restAt 17 = .ok (.iaload, 1) := by decide +kernel
theorem dX8_restAt_18 : decode cX8_restAt 18 = .ok (.aload_n 0, 1) := by decide +kernel
theorem dX8_restAt_19 : decode cX8_restAt 19 = .ok (.getfield 21, 3) := by decide +kernel
theorem dX8_restAt_22 : decode cX8_restAt 22 = .ok (.iload_n 1, 1) := by decide +kernel
theorem dX8_restAt_23 : decode cX8_restAt 23 = .ok (.iaload, 1) := by decide +kernel
theorem dX8_restAt_24 : decode cX8_restAt 24 = .ok (.iload_n 2, 1) := by decide +kernel
theorem dX8_restAt_25 : decode cX8_restAt 25 = .ok (.imul, 1) := by decide +kernel
theorem dX8_restAt_26 : decode cX8_restAt 26 = .ok (.bipush 100, 2) := by decide +kernel
theorem dX8_restAt_28 : decode cX8_restAt 28 = .ok (.invokestatic 101, 3) := by decide +kernel
theorem dX8_restAt_31 : decode cX8_restAt 31 = .ok (.isub, 1) := by decide +kernel
theorem dX8_restAt_32 : decode cX8_restAt 32 = .ok (.goto 5, 3) := by decide +kernel
theorem dX8_restAt_35 : decode cX8_restAt 35 = .ok (.ldc 103, 2) := by decide +kernel
theorem dX8_restAt_37 : decode cX8_restAt 37 = .ok (.ireturn, 1) := by decide +kernel
theorem oX8_restAt_0 : OKI 55 0 (.iload_n 1, 1, [1], 0, 0, []) := And.intro dX8_restAt_0 (And.intro rfl (rfl))
theorem oX8_restAt_1 : OKI 55 1 (.ifCond .lt 34, 4, [35], 0, 0, []) := And.intro dX8_restAt_1 (And.intro rfl (by decide))
theorem oX8_restAt_4 : OKI 55 4 (.iload_n 1, 5, [1], 0, 0, []) := And.intro dX8_restAt_4 (And.intro rfl (rfl))
theorem oX8_restAt_5 : OKI 55 5 (.aload_n 0, 6, [0], 0, 0, []) := And.intro dX8_restAt_5 (And.intro rfl (rfl))
theorem oX8_restAt_6 : OKI 55 6 (.getfield 33, 9, [9, 7, 0], 0, 0, []) := And.intro dX8_restAt_6 (And.intro rfl (⟨(RX8, TX8, 10), "SpotTimers$Tally", rfl, by decide, tm_1 _ (List.mem_of_getElem? (i := 161) rfl) rfl, Or.inl rfl, Or.inr (Or.inr (And.intro rfl (Or.inl rfl)))⟩))
theorem oX8_restAt_9 : OKI 55 9 (.if_icmp .ge 26, 12, [35], 0, 0, []) := And.intro dX8_restAt_9 (And.intro rfl (by decide))
theorem oX8_restAt_12 : OKI 55 12 (.aload_n 0, 13, [0], 0, 0, []) := And.intro dX8_restAt_12 (And.intro rfl (rfl))
theorem oX8_restAt_13 : OKI 55 13 (.getfield 24, 16, [9, 4, 2, 111, 0], 0, 0, []) := And.intro dX8_restAt_13 (And.intro rfl (⟨(RX8, TX8, 10), "SpotTimers$Tally", rfl, by decide, tm_1 _ (List.mem_of_getElem? (i := 158) rfl) rfl, Or.inl rfl, rfl, rfl⟩))
theorem oX8_restAt_16 : OKI 55 16 (.iload_n 1, 17, [1], 0, 0, []) := And.intro dX8_restAt_16 (And.intro rfl (rfl))
theorem oX8_restAt_17 : OKI 55 17 (.iaload, 18, [], 0, 0, []) := And.intro dX8_restAt_17 rfl
theorem oX8_restAt_18 : OKI 55 18 (.aload_n 0, 19, [0], 0, 0, []) := And.intro dX8_restAt_18 (And.intro rfl (rfl))
theorem oX8_restAt_19 : OKI 55 19 (.getfield 21, 22, [9, 3, 2, 110, 0], 0, 0, []) := And.intro dX8_restAt_19 (And.intro rfl (⟨(RX8, TX8, 10), "SpotTimers$Tally", rfl, by decide, tm_1 _ (List.mem_of_getElem? (i := 157) rfl) rfl, Or.inl rfl, rfl, rfl⟩))
theorem oX8_restAt_22 : OKI 55 22 (.iload_n 1, 23, [1], 0, 0, []) := And.intro dX8_restAt_22 (And.intro rfl (rfl))
theorem oX8_restAt_23 : OKI 55 23 (.iaload, 24, [], 0, 0, []) := And.intro dX8_restAt_23 rfl
theorem oX8_restAt_24 : OKI 55 24 (.iload_n 2, 25, [2], 0, 0, []) := And.intro dX8_restAt_24 (And.intro rfl (rfl))
theorem oX8_restAt_25 : OKI 55 25 (.imul, 26, [], 0, 0, []) := And.intro dX8_restAt_25 rfl
theorem oX8_restAt_26 : OKI 55 26 (.bipush 100, 28, [], 100, 0, []) := And.intro dX8_restAt_26 (And.intro rfl (by decide +kernel))
theorem oX8_restAt_28 : OKI 55 28 (.invokestatic 101, 31, [248, 2, 0, 0, 0, 1], 0, 0, []) := And.intro dX8_restAt_28 (And.intro rfl (And.intro rfl (And.intro mo_J9_floorDiv_7cf53 (And.intro (Or.inl (tm_5 _ (List.mem_of_getElem? (i := 12) rfl) rfl)) (tm_2 _ (List.mem_of_getElem? (i := 62) rfl) rfl)))))
theorem oX8_restAt_31 : OKI 55 31 (.isub, 32, [], 0, 0, []) := And.intro dX8_restAt_31 rfl
theorem oX8_restAt_32 : OKI 55 32 (.goto 5, 35, [37], 0, 0, []) := And.intro dX8_restAt_32 (And.intro rfl (by decide))
theorem oX8_restAt_35 : OKI 55 35 (.ldc 103, 37, [], (-1000000000), 0, []) := And.intro dX8_restAt_35 (And.intro rfl (tm_5 _ (List.mem_of_getElem? (i := 13) rfl) rfl))
theorem oX8_restAt_37 : OKI 55 37 (.ireturn, 38, [0], 0, 0, []) := And.intro dX8_restAt_37 (Or.inl (And.intro rfl rfl))
def pfX8_restAt (pc : Nat) : Option XE := (bif Nat.blt pc 19 then (bif Nat.blt pc 9 then (bif Nat.blt pc 4 then (bif Nat.blt pc 1 then (bif Nat.beq pc 0 then some (.iload_n 1, 1, [1], 0, 0, []) else none) else (bif Nat.beq pc 1 then some (.ifCond .lt 34, 4, [35], 0, 0, []) else none)) else (bif Nat.blt pc 5 then (bif Nat.beq pc 4 then some (.iload_n 1, 5, [1], 0, 0, []) else none) else (bif Nat.blt pc 6 then (bif Nat.beq pc 5 then some (.aload_n 0, 6, [0], 0, 0, []) else none) else (bif Nat.beq pc 6 then some (.getfield 33, 9, [9, 7, 0], 0, 0, []) else none)))) else (bif Nat.blt pc 16 then (bif Nat.blt pc 12 then (bif Nat.beq pc 9 then some (.if_icmp .ge 26, 12, [35], 0, 0, []) else none) else (bif Nat.blt pc 13 then (bif Nat.beq pc 12 then some (.aload_n 0, 13, [0], 0, 0, []) else none) else (bif Nat.beq pc 13 then some (.getfield 24, 16, [9, 4, 2, 111, 0], 0, 0, []) else none))) else (bif Nat.blt pc 17 then (bif Nat.beq pc 16 then some (.iload_n 1, 17, [1], 0, 0, []) else none) else (bif Nat.blt pc 18 then (bif Nat.beq pc 17 then some (.iaload, 18, [], 0, 0, []) else none) else (bif Nat.beq pc 18 then some (.aload_n 0, 19, [0], 0, 0, []) else none))))) else (bif Nat.blt pc 26 then (bif Nat.blt pc 23 then (bif Nat.blt pc 22 then (bif Nat.beq pc 19 then some (.getfield 21, 22, [9, 3, 2, 110, 0], 0, 0, []) else none) else (bif Nat.beq pc 22 then some (.iload_n 1, 23, [1], 0, 0, []) else none)) else (bif Nat.blt pc 24 then (bif Nat.beq pc 23 then some (.iaload, 24, [], 0, 0, []) else none) else (bif Nat.blt pc 25 then (bif Nat.beq pc 24 then some (.iload_n 2, 25, [2], 0, 0, []) else none) else (bif Nat.beq pc 25 then some (.imul, 26, [], 0, 0, []) else none)))) else (bif Nat.blt pc 32 then (bif Nat.blt pc 28 then (bif Nat.beq pc 26 then some (.bipush 100, 28, [], 100, 0, []) else none) else (bif Nat.blt pc 31 then (bif Nat.beq pc 28 then some (.invokestatic 101, 31, [248, 2, 0, 0, 0, 1], 0, 0, []) else none) else (bif Nat.beq pc 31 then some (.isub, 32, [], 0, 0, []) else none))) else (bif Nat.blt pc 35 then (bif Nat.beq pc 32 then some (.goto 5, 35, [37], 0, 0, []) else none) else (bif Nat.blt pc 37 then (bif Nat.beq pc 35 then some (.ldc 103, 37, [], (-1000000000), 0, []) else none) else (bif Nat.beq pc 37 then some (.ireturn, 38, [0], 0, 0, []) else none))))))
theorem okX8_restAt : ∀ pc Y, pfX8_restAt pc = some Y → OKI m_X8_restAt pc Y := fun pc Y => ((bt_node (bt_node (bt_node (bt_node (bt_leaf (P := OKI m_X8_restAt) oX8_restAt_0) (bt_leaf (P := OKI m_X8_restAt) oX8_restAt_1)) (bt_node (bt_leaf (P := OKI m_X8_restAt) oX8_restAt_4) (bt_node (bt_leaf (P := OKI m_X8_restAt) oX8_restAt_5) (bt_leaf (P := OKI m_X8_restAt) oX8_restAt_6)))) (bt_node (bt_node (bt_leaf (P := OKI m_X8_restAt) oX8_restAt_9) (bt_node (bt_leaf (P := OKI m_X8_restAt) oX8_restAt_12) (bt_leaf (P := OKI m_X8_restAt) oX8_restAt_13))) (bt_node (bt_leaf (P := OKI m_X8_restAt) oX8_restAt_16) (bt_node (bt_leaf (P := OKI m_X8_restAt) oX8_restAt_17) (bt_leaf (P := OKI m_X8_restAt) oX8_restAt_18))))) (bt_node (bt_node (bt_node (bt_leaf (P := OKI m_X8_restAt) oX8_restAt_19) (bt_leaf (P := OKI m_X8_restAt) oX8_restAt_22)) (bt_node (bt_leaf (P := OKI m_X8_restAt) oX8_restAt_23) (bt_node (bt_leaf (P := OKI m_X8_restAt) oX8_restAt_24) (bt_leaf (P := OKI m_X8_restAt) oX8_restAt_25)))) (bt_node (bt_node (bt_leaf (P := OKI m_X8_restAt) oX8_restAt_26) (bt_node (bt_leaf (P := OKI m_X8_restAt) oX8_restAt_28) (bt_leaf (P := OKI m_X8_restAt) oX8_restAt_31))) (bt_node (bt_leaf (P := OKI m_X8_restAt) oX8_restAt_32) (bt_node (bt_leaf (P := OKI m_X8_restAt) oX8_restAt_35) (bt_leaf (P := OKI m_X8_restAt) oX8_restAt_37)))))) : pfX8_restAt pc = some Y → OKI m_X8_restAt pc Y)
def stpX8_restAt (pc : Nat) : Option (List Bool) := (bif Nat.blt pc 37 then (bif Nat.beq pc 35 then some [false, false, false] else none) else (bif Nat.beq pc 37 then some [false, false, false] else none))
def bX8_restAt_0 (d rc rs : Nat) (t : Nat) (a1 : Int32) (a2 : Int32) (σ : XH) (Q : XV → XH → Prop) : Prop :=
  ((a1 < 0 → Ex d rc rs m_X8_restAt 35 [vU, vU, vU] [] σ Q) ∧ (¬ a1 < 0 → (((a1 < (hi σ 9 t 7) → ((hr σ 9 t 4 = some (111, t) ∧ ((vp_in a1 (hn σ 111 t) ∧ ((hr σ 9 t 3 = some (110, t) ∧ ((vp_in a1 (hn σ 110 t) ∧ (1 ≤ d ∧ Ec (d - 1) 0 0 m_J9_floorDiv_7cf53 [vI ((hi σ 110 t a1.toNatClampNeg) * a2), vI 100] σ (kI fun x2 h1 => Ex d rc rs m_X8_restAt 37 [vU, vU, vU] [vI ((hi σ 111 t a1.toNatClampNeg) - x2)] h1 Q))))))))))) ∧ (¬ a1 < (hi σ 9 t 7) → Ex d rc rs m_X8_restAt 35 [vU, vU, vU] [] σ Q)))))
theorem sX8_restAt_0 {d rc rs : Nat} {t : Nat} {a1 : Int32} {a2 : Int32} {σ : XH} {Q : XV → XH → Prop} (h : bX8_restAt_0 d rc rs t a1 a2 σ Q) : Ex d rc rs m_X8_restAt 0 [vR (some (9, t)), vI a1, vI a2] [] σ Q :=
  xtree_sound (stop := stpX8_restAt) okX8_restAt 22 _ _ _ _ _ _ h
def bX8_restAt_35 (d rc rs : Nat)  (σ : XH) (Q : XV → XH → Prop) : Prop :=
  Ex d rc rs m_X8_restAt 37 [vU, vU, vU] [vI (-1000000000)] σ Q
theorem sX8_restAt_35 {d rc rs : Nat}  {σ : XH} {Q : XV → XH → Prop} (h : bX8_restAt_35 d rc rs  σ Q) : Ex d rc rs m_X8_restAt 35 [vU, vU, vU] [] σ Q :=
  xtree_sound (stop := stpX8_restAt) okX8_restAt 3 _ _ _ _ _ _ h
def bX8_restAt_37 (d rc rs : Nat) (q0 : Int32) (σ : XH) (Q : XV → XH → Prop) : Prop :=
  Q (vI q0) σ
theorem sX8_restAt_37 {d rc rs : Nat} {q0 : Int32} {σ : XH} {Q : XV → XH → Prop} (h : bX8_restAt_37 d rc rs q0 σ Q) : Ex d rc rs m_X8_restAt 37 [vU, vU, vU] [vI q0] σ Q :=
  xtree_sound (stop := stpX8_restAt) okX8_restAt 3 _ _ _ _ _ _ h
/-! SpotTimers$Tally.together(I)J -/
theorem dX8_together_0 : decode cX8_together 0 = .ok (.lconst 0, 1) := by decide +kernel
theorem dX8_together_1 : decode cX8_together 1 = .ok (.lstore_n 2, 1) := by decide +kernel
theorem dX8_together_2 : decode cX8_together 2 = .ok (.iconst 0, 1) := by decide +kernel
theorem dX8_together_3 : decode cX8_together 3 = .ok (.istore 4, 2) := by decide +kernel
theorem dX8_together_5 : decode cX8_together 5 = .ok (.iload 4, 2) := by decide +kernel
theorem dX8_together_7 : decode cX8_together 7 = .ok (.aload_n 0, 1) := by decide +kernel
theorem dX8_together_8 : decode cX8_together 8 = .ok (.getfield 33, 3) := by decide +kernel
theorem dX8_together_11 : decode cX8_together 11 = .ok (.if_icmp .ge 36, 3) := by decide +kernel
theorem dX8_together_14 : decode cX8_together 14 = .ok (.aload_n 0, 1) := by decide +kernel
theorem dX8_together_15 : decode cX8_together 15 = .ok (.iload 4, 2) := by decide +kernel
theorem dX8_together_17 : decode cX8_together 17 = .ok (.iload_n 1, 1) := by decide +kernel
theorem dX8_together_18 : decode cX8_together 18 = .ok (.invokevirtual 104, 3) := by decide +kernel
theorem dX8_together_21 : decode cX8_together 21 = .ok (.i2l, 1) := by decide +kernel
theorem dX8_together_22 : decode cX8_together 22 = .ok (.lstore 5, 2) := by decide +kernel
theorem dX8_together_24 : decode cX8_together 24 = .ok (.lload_n 2, 1) := by decide +kernel
theorem dX8_together_25 : decode cX8_together 25 = .ok (.aload_n 0, 1) := by decide +kernel
theorem dX8_together_26 : decode cX8_together 26 = .ok (.getfield 18, 3) := by decide +kernel
theorem dX8_together_29 : decode cX8_together 29 = .ok (.iload 4, 2) := by decide +kernel
theorem dX8_together_31 : decode cX8_together 31 = .ok (.iaload, 1) := by decide +kernel
theorem dX8_together_32 : decode cX8_together 32 = .ok (.i2l, 1) := by decide +kernel
theorem dX8_together_33 : decode cX8_together 33 = .ok (.lload 5, 2) := by decide +kernel
theorem dX8_together_35 : decode cX8_together 35 = .ok (.lmul, 1) := by decide +kernel
theorem dX8_together_36 : decode cX8_together 36 = .ok (.lload 5, 2) := by decide +kernel
theorem dX8_together_38 : decode cX8_together 38 = .ok (.lmul, 1) := by decide +kernel
theorem dX8_together_39 : decode cX8_together 39 = .ok (.ladd, 1) := by decide +kernel
theorem dX8_together_40 : decode cX8_together 40 = .ok (.lstore_n 2, 1) := by decide +kernel
theorem dX8_together_41 : decode cX8_together 41 = .ok (.iinc 4 1, 3) := by decide +kernel
theorem dX8_together_44 : decode cX8_together 44 = .ok (.goto (-39), 3) := by decide +kernel
theorem dX8_together_47 : decode cX8_together 47 = .ok (.lload_n 2, 1) := by decide +kernel
theorem dX8_together_48 : decode cX8_together 48 = .ok (.lreturn, 1) := by decide +kernel
theorem oX8_together_0 : OKI 56 0 (.lconst 0, 1, [], 0, 0, []) := And.intro dX8_together_0 (And.intro rfl (by decide +kernel))
theorem oX8_together_1 : OKI 56 1 (.lstore_n 2, 2, [2], 0, 0, []) := And.intro dX8_together_1 (And.intro rfl (And.intro rfl (by decide)))
theorem oX8_together_2 : OKI 56 2 (.iconst 0, 3, [], 0, 0, []) := And.intro dX8_together_2 (And.intro rfl (by decide +kernel))
theorem oX8_together_3 : OKI 56 3 (.istore 4, 5, [4], 0, 0, []) := And.intro dX8_together_3 (And.intro rfl (And.intro rfl (by decide)))
theorem oX8_together_5 : OKI 56 5 (.iload 4, 7, [4], 0, 0, []) := And.intro dX8_together_5 (And.intro rfl (rfl))
theorem oX8_together_7 : OKI 56 7 (.aload_n 0, 8, [0], 0, 0, []) := And.intro dX8_together_7 (And.intro rfl (rfl))
theorem oX8_together_8 : OKI 56 8 (.getfield 33, 11, [9, 7, 0], 0, 0, []) := And.intro dX8_together_8 (And.intro rfl (⟨(RX8, TX8, 10), "SpotTimers$Tally", rfl, by decide, tm_1 _ (List.mem_of_getElem? (i := 161) rfl) rfl, Or.inl rfl, Or.inr (Or.inr (And.intro rfl (Or.inl rfl)))⟩))
theorem oX8_together_11 : OKI 56 11 (.if_icmp .ge 36, 14, [47], 0, 0, []) := And.intro dX8_together_11 (And.intro rfl (by decide))
theorem oX8_together_14 : OKI 56 14 (.aload_n 0, 15, [0], 0, 0, []) := And.intro dX8_together_14 (And.intro rfl (rfl))
theorem oX8_together_15 : OKI 56 15 (.iload 4, 17, [4], 0, 0, []) := And.intro dX8_together_15 (And.intro rfl (rfl))
theorem oX8_together_17 : OKI 56 17 (.iload_n 1, 18, [1], 0, 0, []) := And.intro dX8_together_17 (And.intro rfl (rfl))
theorem oX8_together_18 : OKI 56 18 (.invokevirtual 104, 21, [55, 3, 10, 0, 0, 1], 0, 0, []) := And.intro dX8_together_18 (And.intro rfl (And.intro (by decide) (And.intro (by decide) (And.intro mo_X8_restAt (And.intro (tm_5 _ (List.mem_of_getElem? (i := 8) rfl) rfl) (And.intro (tm_5 _ (List.mem_of_getElem? (i := 9) rfl) rfl) (And.intro (tm_5 _ (List.mem_of_getElem? (i := 10) rfl) rfl) (Or.inl ⟨(RX8, TX8, 10), rfl, rfl⟩))))))))
theorem oX8_together_21 : OKI 56 21 (.i2l, 22, [], 0, 0, []) := And.intro dX8_together_21 rfl
theorem oX8_together_22 : OKI 56 22 (.lstore 5, 24, [5], 0, 0, []) := And.intro dX8_together_22 (And.intro rfl (And.intro rfl (by decide)))
theorem oX8_together_24 : OKI 56 24 (.lload_n 2, 25, [2], 0, 0, []) := And.intro dX8_together_24 (And.intro rfl (rfl))
theorem oX8_together_25 : OKI 56 25 (.aload_n 0, 26, [0], 0, 0, []) := And.intro dX8_together_25 (And.intro rfl (rfl))
theorem oX8_together_26 : OKI 56 26 (.getfield 18, 29, [9, 2, 2, 109, 0], 0, 0, []) := And.intro dX8_together_26 (And.intro rfl (⟨(RX8, TX8, 10), "SpotTimers$Tally", rfl, by decide, tm_1 _ (List.mem_of_getElem? (i := 156) rfl) rfl, Or.inl rfl, rfl, rfl⟩))
theorem oX8_together_29 : OKI 56 29 (.iload 4, 31, [4], 0, 0, []) := And.intro dX8_together_29 (And.intro rfl (rfl))
theorem oX8_together_31 : OKI 56 31 (.iaload, 32, [], 0, 0, []) := And.intro dX8_together_31 rfl
theorem oX8_together_32 : OKI 56 32 (.i2l, 33, [], 0, 0, []) := And.intro dX8_together_32 rfl
theorem oX8_together_33 : OKI 56 33 (.lload 5, 35, [5], 0, 0, []) := And.intro dX8_together_33 (And.intro rfl (rfl))
theorem oX8_together_35 : OKI 56 35 (.lmul, 36, [], 0, 0, []) := And.intro dX8_together_35 rfl
theorem oX8_together_36 : OKI 56 36 (.lload 5, 38, [5], 0, 0, []) := And.intro dX8_together_36 (And.intro rfl (rfl))
theorem oX8_together_38 : OKI 56 38 (.lmul, 39, [], 0, 0, []) := And.intro dX8_together_38 rfl
theorem oX8_together_39 : OKI 56 39 (.ladd, 40, [], 0, 0, []) := And.intro dX8_together_39 rfl
theorem oX8_together_40 : OKI 56 40 (.lstore_n 2, 41, [2], 0, 0, []) := And.intro dX8_together_40 (And.intro rfl (And.intro rfl (by decide)))
theorem oX8_together_41 : OKI 56 41 (.iinc 4 1, 44, [4], 1, 0, []) := And.intro dX8_together_41 (And.intro rfl (And.intro rfl (And.intro (by decide +kernel) (by decide))))
theorem oX8_together_44 : OKI 56 44 (.goto (-39), 47, [5], 0, 0, []) := And.intro dX8_together_44 (And.intro rfl (by decide))
theorem oX8_together_47 : OKI 56 47 (.lload_n 2, 48, [2], 0, 0, []) := And.intro dX8_together_47 (And.intro rfl (rfl))
theorem oX8_together_48 : OKI 56 48 (.lreturn, 49, [], 0, 0, []) := And.intro dX8_together_48 rfl
def pfX8_together (pc : Nat) : Option XE := (bif Nat.blt pc 25 then (bif Nat.blt pc 11 then (bif Nat.blt pc 3 then (bif Nat.blt pc 1 then (bif Nat.beq pc 0 then some (.lconst 0, 1, [], 0, 0, []) else none) else (bif Nat.blt pc 2 then (bif Nat.beq pc 1 then some (.lstore_n 2, 2, [2], 0, 0, []) else none) else (bif Nat.beq pc 2 then some (.iconst 0, 3, [], 0, 0, []) else none))) else (bif Nat.blt pc 7 then (bif Nat.blt pc 5 then (bif Nat.beq pc 3 then some (.istore 4, 5, [4], 0, 0, []) else none) else (bif Nat.beq pc 5 then some (.iload 4, 7, [4], 0, 0, []) else none)) else (bif Nat.blt pc 8 then (bif Nat.beq pc 7 then some (.aload_n 0, 8, [0], 0, 0, []) else none) else (bif Nat.beq pc 8 then some (.getfield 33, 11, [9, 7, 0], 0, 0, []) else none)))) else (bif Nat.blt pc 18 then (bif Nat.blt pc 15 then (bif Nat.blt pc 14 then (bif Nat.beq pc 11 then some (.if_icmp .ge 36, 14, [47], 0, 0, []) else none) else (bif Nat.beq pc 14 then some (.aload_n 0, 15, [0], 0, 0, []) else none)) else (bif Nat.blt pc 17 then (bif Nat.beq pc 15 then some (.iload 4, 17, [4], 0, 0, []) else none) else (bif Nat.beq pc 17 then some (.iload_n 1, 18, [1], 0, 0, []) else none))) else (bif Nat.blt pc 22 then (bif Nat.blt pc 21 then (bif Nat.beq pc 18 then some (.invokevirtual 104, 21, [55, 3, 10, 0, 0, 1], 0, 0, []) else none) else (bif Nat.beq pc 21 then some (.i2l, 22, [], 0, 0, []) else none)) else (bif Nat.blt pc 24 then (bif Nat.beq pc 22 then some (.lstore 5, 24, [5], 0, 0, []) else none) else (bif Nat.beq pc 24 then some (.lload_n 2, 25, [2], 0, 0, []) else none))))) else (bif Nat.blt pc 36 then (bif Nat.blt pc 31 then (bif Nat.blt pc 26 then (bif Nat.beq pc 25 then some (.aload_n 0, 26, [0], 0, 0, []) else none) else (bif Nat.blt pc 29 then (bif Nat.beq pc 26 then some (.getfield 18, 29, [9, 2, 2, 109, 0], 0, 0, []) else none) else (bif Nat.beq pc 29 then some (.iload 4, 31, [4], 0, 0, []) else none))) else (bif Nat.blt pc 33 then (bif Nat.blt pc 32 then (bif Nat.beq pc 31 then some (.iaload, 32, [], 0, 0, []) else none) else (bif Nat.beq pc 32 then some (.i2l, 33, [], 0, 0, []) else none)) else (bif Nat.blt pc 35 then (bif Nat.beq pc 33 then some (.lload 5, 35, [5], 0, 0, []) else none) else (bif Nat.beq pc 35 then some (.lmul, 36, [], 0, 0, []) else none)))) else (bif Nat.blt pc 41 then (bif Nat.blt pc 39 then (bif Nat.blt pc 38 then (bif Nat.beq pc 36 then some (.lload 5, 38, [5], 0, 0, []) else none) else (bif Nat.beq pc 38 then some (.lmul, 39, [], 0, 0, []) else none)) else (bif Nat.blt pc 40 then (bif Nat.beq pc 39 then some (.ladd, 40, [], 0, 0, []) else none) else (bif Nat.beq pc 40 then some (.lstore_n 2, 41, [2], 0, 0, []) else none))) else (bif Nat.blt pc 47 then (bif Nat.blt pc 44 then (bif Nat.beq pc 41 then some (.iinc 4 1, 44, [4], 1, 0, []) else none) else (bif Nat.beq pc 44 then some (.goto (-39), 47, [5], 0, 0, []) else none)) else (bif Nat.blt pc 48 then (bif Nat.beq pc 47 then some (.lload_n 2, 48, [2], 0, 0, []) else none) else (bif Nat.beq pc 48 then some (.lreturn, 49, [], 0, 0, []) else none))))))
theorem okX8_together : ∀ pc Y, pfX8_together pc = some Y → OKI m_X8_together pc Y := fun pc Y => ((bt_node (bt_node (bt_node (bt_node (bt_leaf (P := OKI m_X8_together) oX8_together_0) (bt_node (bt_leaf (P := OKI m_X8_together) oX8_together_1) (bt_leaf (P := OKI m_X8_together) oX8_together_2))) (bt_node (bt_node (bt_leaf (P := OKI m_X8_together) oX8_together_3) (bt_leaf (P := OKI m_X8_together) oX8_together_5)) (bt_node (bt_leaf (P := OKI m_X8_together) oX8_together_7) (bt_leaf (P := OKI m_X8_together) oX8_together_8)))) (bt_node (bt_node (bt_node (bt_leaf (P := OKI m_X8_together) oX8_together_11) (bt_leaf (P := OKI m_X8_together) oX8_together_14)) (bt_node (bt_leaf (P := OKI m_X8_together) oX8_together_15) (bt_leaf (P := OKI m_X8_together) oX8_together_17))) (bt_node (bt_node (bt_leaf (P := OKI m_X8_together) oX8_together_18) (bt_leaf (P := OKI m_X8_together) oX8_together_21)) (bt_node (bt_leaf (P := OKI m_X8_together) oX8_together_22) (bt_leaf (P := OKI m_X8_together) oX8_together_24))))) (bt_node (bt_node (bt_node (bt_leaf (P := OKI m_X8_together) oX8_together_25) (bt_node (bt_leaf (P := OKI m_X8_together) oX8_together_26) (bt_leaf (P := OKI m_X8_together) oX8_together_29))) (bt_node (bt_node (bt_leaf (P := OKI m_X8_together) oX8_together_31) (bt_leaf (P := OKI m_X8_together) oX8_together_32)) (bt_node (bt_leaf (P := OKI m_X8_together) oX8_together_33) (bt_leaf (P := OKI m_X8_together) oX8_together_35)))) (bt_node (bt_node (bt_node (bt_leaf (P := OKI m_X8_together) oX8_together_36) (bt_leaf (P := OKI m_X8_together) oX8_together_38)) (bt_node (bt_leaf (P := OKI m_X8_together) oX8_together_39) (bt_leaf (P := OKI m_X8_together) oX8_together_40))) (bt_node (bt_node (bt_leaf (P := OKI m_X8_together) oX8_together_41) (bt_leaf (P := OKI m_X8_together) oX8_together_44)) (bt_node (bt_leaf (P := OKI m_X8_together) oX8_together_47) (bt_leaf (P := OKI m_X8_together) oX8_together_48)))))) : pfX8_together pc = some Y → OKI m_X8_together pc Y)
def stpX8_together (pc : Nat) : Option (List Bool) := (bif Nat.beq pc 5 then some [true, true, true, false, true, false, false] else none)
def bX8_together_0 (d rc rs : Nat) (t : Nat) (a1 : Int32) (σ : XH) (Q : XV → XH → Prop) : Prop :=
  Ex d rc rs m_X8_together 5 [vR (some (9, t)), vI a1, vL 0, vU, vI 0, vU, vU] [] σ Q
theorem sX8_together_0 {d rc rs : Nat} {t : Nat} {a1 : Int32} {σ : XH} {Q : XV → XH → Prop} (h : bX8_together_0 d rc rs t a1 σ Q) : Ex d rc rs m_X8_together 0 [vR (some (9, t)), vI a1, vU, vU, vU, vU, vU] [] σ Q :=
  xtree_sound (stop := stpX8_together) okX8_together 6 _ _ _ _ _ _ h
def bX8_together_5 (d rc rs : Nat) (t : Nat) (l1 : Int32) (l2 : Int64) (l4 : Int32) (σ : XH) (Q : XV → XH → Prop) : Prop :=
  (((l4 < (hi σ 9 t 7) → ((1 ≤ d ∧ Ec (d - 1) 0 0 m_X8_restAt [vR (some (9, t)), vI l4, vI l1] σ (kI fun x2 h1 => ((hr h1 9 t 2 = some (109, t) ∧ ((vp_in l4 (hn h1 109 t) ∧ Ex d rc rs m_X8_together 5 [vR (some (9, t)), vI l1, vL (l2 + ((((hi h1 109 t l4.toNatClampNeg).toInt64) * x2.toInt64) * x2.toInt64)), vU, vI (l4 + 1), vU, vU] [] h1 Q)))))))) ∧ (¬ l4 < (hi σ 9 t 7) → Q (vL l2) σ)))
theorem sX8_together_5 {d rc rs : Nat} {t : Nat} {l1 : Int32} {l2 : Int64} {l4 : Int32} {σ : XH} {Q : XV → XH → Prop} (h : bX8_together_5 d rc rs t l1 l2 l4 σ Q) : Ex d rc rs m_X8_together 5 [vR (some (9, t)), vI l1, vL l2, vU, vI l4, vU, vU] [] σ Q :=
  xtree_sound (stop := stpX8_together) okX8_together 26 _ _ _ _ _ _ h
/-! SpotTimers$Tally.restsTogether(I)J -/
theorem dX8_restsTogether_0 : decode cX8_restsTogether 0 = .ok (.lconst 0, 1) := by decide +kernel
theorem dX8_restsTogether_1 : decode cX8_restsTogether 1 = .ok (.lstore_n 2, 1) := by decide +kernel
theorem dX8_restsTogether_2 : decode cX8_restsTogether 2 = .ok (.iconst 0, 1) := by decide +kernel
theorem dX8_restsTogether_3 : decode cX8_restsTogether 3 = .ok (.istore 4, 2) := by decide +kernel
theorem dX8_restsTogether_5 : decode cX8_restsTogether 5 = .ok (.iload 4, 2) := by decide +kernel
theorem dX8_restsTogether_7 : decode cX8_restsTogether 7 = .ok (.aload_n 0, 1) := by decide +kernel
theorem dX8_restsTogether_8 : decode cX8_restsTogether 8 = .ok (.getfield 33, 3) := by decide +kernel
theorem dX8_restsTogether_11 : decode cX8_restsTogether 11 = .ok (.if_icmp .ge 23, 3) := by decide +kernel
theorem dX8_restsTogether_14 : decode cX8_restsTogether 14 = .ok (.lload_n 2, 1) := by decide +kernel
theorem dX8_restsTogether_15 : decode cX8_restsTogether 15 = .ok (.aload_n 0, 1) := by decide +kernel
theorem dX8_restsTogether_16 : decode cX8_restsTogether 16 = .ok (.iload 4, 2) := by decide +kernel
theorem dX8_restsTogether_18 : decode cX8_restsTogether 18 = .ok (.iload_n 1, 1) := by decide +kernel
theorem dX8_restsTogether_19 : decode cX8_restsTogether 19 = .ok (.invokevirtual 104, 3) := by decide +kernel
theorem dX8_restsTogether_22 : decode cX8_restsTogether 22 = .ok (.invokestatic 107, 3) := by decide +kernel
theorem dX8_restsTogether_25 : decode cX8_restsTogether 25 = .ok (.i2l, 1) := by decide +kernel
theorem dX8_restsTogether_26 : decode cX8_restsTogether 26 = .ok (.ladd, 1) := by decide +kernel
theorem dX8_restsTogether_27 : decode cX8_restsTogether 27 = .ok (.lstore_n 2, 1) := by decide +kernel
theorem dX8_restsTogether_28 : decode cX8_restsTogether 28 = .ok (.iinc 4 1, 3) := by decide +kernel
theorem dX8_restsTogether_31 : decode cX8_restsTogether 31 = .ok (.goto (-26), 3) := by decide +kernel
theorem dX8_restsTogether_34 : decode cX8_restsTogether 34 = .ok (.lload_n 2, 1) := by decide +kernel
theorem dX8_restsTogether_35 : decode cX8_restsTogether 35 = .ok (.lreturn, 1) := by decide +kernel
theorem oX8_restsTogether_0 : OKI 57 0 (.lconst 0, 1, [], 0, 0, []) := And.intro dX8_restsTogether_0 (And.intro rfl (by decide +kernel))
theorem oX8_restsTogether_1 : OKI 57 1 (.lstore_n 2, 2, [2], 0, 0, []) := And.intro dX8_restsTogether_1 (And.intro rfl (And.intro rfl (by decide)))
theorem oX8_restsTogether_2 : OKI 57 2 (.iconst 0, 3, [], 0, 0, []) := And.intro dX8_restsTogether_2 (And.intro rfl (by decide +kernel))
theorem oX8_restsTogether_3 : OKI 57 3 (.istore 4, 5, [4], 0, 0, []) := And.intro dX8_restsTogether_3 (And.intro rfl (And.intro rfl (by decide)))
theorem oX8_restsTogether_5 : OKI 57 5 (.iload 4, 7, [4], 0, 0, []) := And.intro dX8_restsTogether_5 (And.intro rfl (rfl))
theorem oX8_restsTogether_7 : OKI 57 7 (.aload_n 0, 8, [0], 0, 0, []) := And.intro dX8_restsTogether_7 (And.intro rfl (rfl))
theorem oX8_restsTogether_8 : OKI 57 8 (.getfield 33, 11, [9, 7, 0], 0, 0, []) := And.intro dX8_restsTogether_8 (And.intro rfl (⟨(RX8, TX8, 10), "SpotTimers$Tally", rfl, by decide, tm_1 _ (List.mem_of_getElem? (i := 161) rfl) rfl, Or.inl rfl, Or.inr (Or.inr (And.intro rfl (Or.inl rfl)))⟩))
theorem oX8_restsTogether_11 : OKI 57 11 (.if_icmp .ge 23, 14, [34], 0, 0, []) := And.intro dX8_restsTogether_11 (And.intro rfl (by decide))
theorem oX8_restsTogether_14 : OKI 57 14 (.lload_n 2, 15, [2], 0, 0, []) := And.intro dX8_restsTogether_14 (And.intro rfl (rfl))
theorem oX8_restsTogether_15 : OKI 57 15 (.aload_n 0, 16, [0], 0, 0, []) := And.intro dX8_restsTogether_15 (And.intro rfl (rfl))
theorem oX8_restsTogether_16 : OKI 57 16 (.iload 4, 18, [4], 0, 0, []) := And.intro dX8_restsTogether_16 (And.intro rfl (rfl))
theorem oX8_restsTogether_18 : OKI 57 18 (.iload_n 1, 19, [1], 0, 0, []) := And.intro dX8_restsTogether_18 (And.intro rfl (rfl))
theorem oX8_restsTogether_19 : OKI 57 19 (.invokevirtual 104, 22, [55, 3, 10, 0, 0, 1], 0, 0, []) := And.intro dX8_restsTogether_19 (And.intro rfl (And.intro (by decide) (And.intro (by decide) (And.intro mo_X8_restAt (And.intro (tm_5 _ (List.mem_of_getElem? (i := 8) rfl) rfl) (And.intro (tm_5 _ (List.mem_of_getElem? (i := 9) rfl) rfl) (And.intro (tm_5 _ (List.mem_of_getElem? (i := 10) rfl) rfl) (Or.inl ⟨(RX8, TX8, 10), rfl, rfl⟩))))))))
theorem oX8_restsTogether_22 : OKI 57 22 (.invokestatic 107, 25, [250, 1, 0, 0, 0, 1], 0, 0, []) := And.intro dX8_restsTogether_22 (And.intro rfl (And.intro rfl (And.intro mo_J9_abs_0f7a4 (And.intro (Or.inl (tm_5 _ (List.mem_of_getElem? (i := 40) rfl) rfl)) (tm_5 _ (List.mem_of_getElem? (i := 41) rfl) rfl)))))
theorem oX8_restsTogether_25 : OKI 57 25 (.i2l, 26, [], 0, 0, []) := And.intro dX8_restsTogether_25 rfl
theorem oX8_restsTogether_26 : OKI 57 26 (.ladd, 27, [], 0, 0, []) := And.intro dX8_restsTogether_26 rfl
theorem oX8_restsTogether_27 : OKI 57 27 (.lstore_n 2, 28, [2], 0, 0, []) := And.intro dX8_restsTogether_27 (And.intro rfl (And.intro rfl (by decide)))
theorem oX8_restsTogether_28 : OKI 57 28 (.iinc 4 1, 31, [4], 1, 0, []) := And.intro dX8_restsTogether_28 (And.intro rfl (And.intro rfl (And.intro (by decide +kernel) (by decide))))
theorem oX8_restsTogether_31 : OKI 57 31 (.goto (-26), 34, [5], 0, 0, []) := And.intro dX8_restsTogether_31 (And.intro rfl (by decide))
theorem oX8_restsTogether_34 : OKI 57 34 (.lload_n 2, 35, [2], 0, 0, []) := And.intro dX8_restsTogether_34 (And.intro rfl (rfl))
theorem oX8_restsTogether_35 : OKI 57 35 (.lreturn, 36, [], 0, 0, []) := And.intro dX8_restsTogether_35 rfl
def pfX8_restsTogether (pc : Nat) : Option XE := (bif Nat.blt pc 16 then (bif Nat.blt pc 7 then (bif Nat.blt pc 2 then (bif Nat.blt pc 1 then (bif Nat.beq pc 0 then some (.lconst 0, 1, [], 0, 0, []) else none) else (bif Nat.beq pc 1 then some (.lstore_n 2, 2, [2], 0, 0, []) else none)) else (bif Nat.blt pc 3 then (bif Nat.beq pc 2 then some (.iconst 0, 3, [], 0, 0, []) else none) else (bif Nat.blt pc 5 then (bif Nat.beq pc 3 then some (.istore 4, 5, [4], 0, 0, []) else none) else (bif Nat.beq pc 5 then some (.iload 4, 7, [4], 0, 0, []) else none)))) else (bif Nat.blt pc 11 then (bif Nat.blt pc 8 then (bif Nat.beq pc 7 then some (.aload_n 0, 8, [0], 0, 0, []) else none) else (bif Nat.beq pc 8 then some (.getfield 33, 11, [9, 7, 0], 0, 0, []) else none)) else (bif Nat.blt pc 14 then (bif Nat.beq pc 11 then some (.if_icmp .ge 23, 14, [34], 0, 0, []) else none) else (bif Nat.blt pc 15 then (bif Nat.beq pc 14 then some (.lload_n 2, 15, [2], 0, 0, []) else none) else (bif Nat.beq pc 15 then some (.aload_n 0, 16, [0], 0, 0, []) else none))))) else (bif Nat.blt pc 26 then (bif Nat.blt pc 19 then (bif Nat.blt pc 18 then (bif Nat.beq pc 16 then some (.iload 4, 18, [4], 0, 0, []) else none) else (bif Nat.beq pc 18 then some (.iload_n 1, 19, [1], 0, 0, []) else none)) else (bif Nat.blt pc 22 then (bif Nat.beq pc 19 then some (.invokevirtual 104, 22, [55, 3, 10, 0, 0, 1], 0, 0, []) else none) else (bif Nat.blt pc 25 then (bif Nat.beq pc 22 then some (.invokestatic 107, 25, [250, 1, 0, 0, 0, 1], 0, 0, []) else none) else (bif Nat.beq pc 25 then some (.i2l, 26, [], 0, 0, []) else none)))) else (bif Nat.blt pc 31 then (bif Nat.blt pc 27 then (bif Nat.beq pc 26 then some (.ladd, 27, [], 0, 0, []) else none) else (bif Nat.blt pc 28 then (bif Nat.beq pc 27 then some (.lstore_n 2, 28, [2], 0, 0, []) else none) else (bif Nat.beq pc 28 then some (.iinc 4 1, 31, [4], 1, 0, []) else none))) else (bif Nat.blt pc 34 then (bif Nat.beq pc 31 then some (.goto (-26), 34, [5], 0, 0, []) else none) else (bif Nat.blt pc 35 then (bif Nat.beq pc 34 then some (.lload_n 2, 35, [2], 0, 0, []) else none) else (bif Nat.beq pc 35 then some (.lreturn, 36, [], 0, 0, []) else none))))))
theorem okX8_restsTogether : ∀ pc Y, pfX8_restsTogether pc = some Y → OKI m_X8_restsTogether pc Y := fun pc Y => ((bt_node (bt_node (bt_node (bt_node (bt_leaf (P := OKI m_X8_restsTogether) oX8_restsTogether_0) (bt_leaf (P := OKI m_X8_restsTogether) oX8_restsTogether_1)) (bt_node (bt_leaf (P := OKI m_X8_restsTogether) oX8_restsTogether_2) (bt_node (bt_leaf (P := OKI m_X8_restsTogether) oX8_restsTogether_3) (bt_leaf (P := OKI m_X8_restsTogether) oX8_restsTogether_5)))) (bt_node (bt_node (bt_leaf (P := OKI m_X8_restsTogether) oX8_restsTogether_7) (bt_leaf (P := OKI m_X8_restsTogether) oX8_restsTogether_8)) (bt_node (bt_leaf (P := OKI m_X8_restsTogether) oX8_restsTogether_11) (bt_node (bt_leaf (P := OKI m_X8_restsTogether) oX8_restsTogether_14) (bt_leaf (P := OKI m_X8_restsTogether) oX8_restsTogether_15))))) (bt_node (bt_node (bt_node (bt_leaf (P := OKI m_X8_restsTogether) oX8_restsTogether_16) (bt_leaf (P := OKI m_X8_restsTogether) oX8_restsTogether_18)) (bt_node (bt_leaf (P := OKI m_X8_restsTogether) oX8_restsTogether_19) (bt_node (bt_leaf (P := OKI m_X8_restsTogether) oX8_restsTogether_22) (bt_leaf (P := OKI m_X8_restsTogether) oX8_restsTogether_25)))) (bt_node (bt_node (bt_leaf (P := OKI m_X8_restsTogether) oX8_restsTogether_26) (bt_node (bt_leaf (P := OKI m_X8_restsTogether) oX8_restsTogether_27) (bt_leaf (P := OKI m_X8_restsTogether) oX8_restsTogether_28))) (bt_node (bt_leaf (P := OKI m_X8_restsTogether) oX8_restsTogether_31) (bt_node (bt_leaf (P := OKI m_X8_restsTogether) oX8_restsTogether_34) (bt_leaf (P := OKI m_X8_restsTogether) oX8_restsTogether_35)))))) : pfX8_restsTogether pc = some Y → OKI m_X8_restsTogether pc Y)
def stpX8_restsTogether (pc : Nat) : Option (List Bool) := (bif Nat.beq pc 5 then some [true, true, true, false, true] else none)
def bX8_restsTogether_0 (d rc rs : Nat) (t : Nat) (a1 : Int32) (σ : XH) (Q : XV → XH → Prop) : Prop :=
  Ex d rc rs m_X8_restsTogether 5 [vR (some (9, t)), vI a1, vL 0, vU, vI 0] [] σ Q
theorem sX8_restsTogether_0 {d rc rs : Nat} {t : Nat} {a1 : Int32} {σ : XH} {Q : XV → XH → Prop} (h : bX8_restsTogether_0 d rc rs t a1 σ Q) : Ex d rc rs m_X8_restsTogether 0 [vR (some (9, t)), vI a1, vU, vU, vU] [] σ Q :=
  xtree_sound (stop := stpX8_restsTogether) okX8_restsTogether 6 _ _ _ _ _ _ h
def bX8_restsTogether_5 (d rc rs : Nat) (t : Nat) (l1 : Int32) (l2 : Int64) (l4 : Int32) (σ : XH) (Q : XV → XH → Prop) : Prop :=
  (((l4 < (hi σ 9 t 7) → ((1 ≤ d ∧ Ec (d - 1) 0 0 m_X8_restAt [vR (some (9, t)), vI l4, vI l1] σ (kI fun x2 h1 => (1 ≤ d ∧ Ec (d - 1) 0 0 m_J9_abs_0f7a4 [vI x2] h1 (kI fun x4 h3 => Ex d rc rs m_X8_restsTogether 5 [vR (some (9, t)), vI l1, vL (l2 + x4.toInt64), vU, vI (l4 + 1)] [] h3 Q)))))) ∧ (¬ l4 < (hi σ 9 t 7) → Q (vL l2) σ)))
theorem sX8_restsTogether_5 {d rc rs : Nat} {t : Nat} {l1 : Int32} {l2 : Int64} {l4 : Int32} {σ : XH} {Q : XV → XH → Prop} (h : bX8_restsTogether_5 d rc rs t l1 l2 l4 σ Q) : Ex d rc rs m_X8_restsTogether 5 [vR (some (9, t)), vI l1, vL l2, vU, vI l4] [] σ Q :=
  xtree_sound (stop := stpX8_restsTogether) okX8_restsTogether 17 _ _ _ _ _ _ h
/-! SpotTimers$Tally.fewestLeftOut(I)I -/
theorem dX8_fewestLeftOut_0 : decode cX8_fewestLeftOut 0 = .ok (.aload_n 0, 1) := by decide +kernel
theorem dX8_fewestLeftOut_1 : decode cX8_fewestLeftOut 1 = .ok (.getfield 33, 3) := by decide +kernel
theorem dX8_fewestLeftOut_4 : decode cX8_fewestLeftOut 4 = .ok (.bipush 12, 2) := by decide +kernel
theorem dX8_fewestLeftOut_6 : decode cX8_fewestLeftOut 6 = .ok (.if_icmp .le 5, 3) := by decide +kernel
theorem dX8_fewestLeftOut_9 : decode cX8_fewestLeftOut 9 = .ok (.iconst 0, 1) := by decide +kernel
theorem dX8_fewestLeftOut_10 : decode cX8_fewestLeftOut 10 = .ok (.ireturn, 1) := by decide +kernel
theorem dX8_fewestLeftOut_11 : decode cX8_fewestLeftOut 11 = .ok (.iconst 1, 1) := by decide +kernel
theorem dX8_fewestLeftOut_12 : decode cX8_fewestLeftOut 12 = .ok (.aload_n 0, 1) := by decide +kernel
theorem dX8_fewestLeftOut_13 : decode cX8_fewestLeftOut 13 = .ok (.getfield 33, 3) := by decide +kernel
theorem dX8_fewestLeftOut_16 : decode cX8_fewestLeftOut 16 = .ok (.ishl, 1) := by decide +kernel
theorem dX8_fewestLeftOut_17 : decode cX8_fewestLeftOut 17 = .ok (.iconst 1, 1) := by decide +kernel
theorem dX8_fewestLeftOut_18 : decode cX8_fewestLeftOut 18 = .ok (.isub, 1) := by decide +kernel
theorem dX8_fewestLeftOut_19 : decode cX8_fewestLeftOut 19 = .ok (.istore_n 2, 1) := by decide +kernel
theorem dX8_fewestLeftOut_20 : decode cX8_fewestLeftOut 20 = .ok (.iconst 0, 1) := by decide +kernel
theorem dX8_fewestLeftOut_21 : decode cX8_fewestLeftOut 21 = .ok (.istore_n 3, 1) := by decide +kernel
theorem dX8_fewestLeftOut_22 : decode cX8_fewestLeftOut 22 = .ok (.iload_n 3, 1) := by decide +kernel
theorem dX8_fewestLeftOut_23 : decode cX8_fewestLeftOut 23 = .ok (.iconst 1, 1) := by decide +kernel
theorem dX8_fewestLeftOut_24 : decode cX8_fewestLeftOut 24 = .ok (.aload_n 0, 1) := by decide +kernel
theorem dX8_fewestLeftOut_25 : decode cX8_fewestLeftOut 25 = .ok (.getfield 33, 3) := by decide +kernel
theorem dX8_fewestLeftOut_28 : decode cX8_fewestLeftOut 28 = .ok (.ishl, 1) := by decide +kernel
theorem dX8_fewestLeftOut_29 : decode cX8_fewestLeftOut 29 = .ok (.if_icmp .ge 31, 3) := by decide +kernel
theorem dX8_fewestLeftOut_32 : decode cX8_fewestLeftOut 32 = .ok (.iload_n 3, 1) := by decide +kernel
theorem dX8_fewestLeftOut_33 : decode cX8_fewestLeftOut 33 = .ok (.invokestatic 110, 3) := by decide +kernel
theorem dX8_fewestLeftOut_36 : decode cX8_fewestLeftOut 36 = .ok (.iload_n 2, 1) := by decide +kernel
theorem dX8_fewestLeftOut_37 : decode cX8_fewestLeftOut 37 = .ok (.invokestatic 110, 3) := by decide +kernel
theorem dX8_fewestLeftOut_40 : decode cX8_fewestLeftOut 40 = .ok (.if_icmp .ge 14, 3) := by decide +kernel
theorem dX8_fewestLeftOut_43 : decode cX8_fewestLeftOut 43 = .ok (.aload_n 0, 1) := by decide +kernel
theorem dX8_fewestLeftOut_44 : decode cX8_fewestLeftOut 44 = .ok (.iload_n 3, 1) := by decide +kernel
theorem dX8_fewestLeftOut_45 : decode cX8_fewestLeftOut 45 = .ok (.iload_n 1, 1) := by decide +kernel
theorem dX8_fewestLeftOut_46 : decode cX8_fewestLeftOut 46 = .ok (.invokevirtual 115, 3) := by decide +kernel
theorem dX8_fewestLeftOut_49 : decode cX8_fewestLeftOut 49 = .ok (.ifCond .eq 5, 3) := by decide +kernel
theorem dX8_fewestLeftOut_52 : decode cX8_fewestLeftOut 52 = .ok (.iload_n 3, 1) := by decide +kernel
theorem dX8_fewestLeftOut_53 : decode cX8_fewestLeftOut 53 = .ok (.istore_n 2, 1) := by decide +kernel
theorem dX8_fewestLeftOut_54 : decode cX8_fewestLeftOut 54 = .ok (.iinc 3 1, 3) := by decide +kernel
theorem dX8_fewestLeftOut_57 : decode cX8_fewestLeftOut 57 = .ok (.goto (-35), 3) := by decide +kernel
theorem dX8_fewestLeftOut_60 : decode cX8_fewestLeftOut 60 = .ok (.iload_n 2, 1) := by decide +kernel
theorem dX8_fewestLeftOut_61 : decode cX8_fewestLeftOut 61 = .ok (.ireturn, 1) := by decide +kernel
theorem oX8_fewestLeftOut_0 : OKI 58 0 (.aload_n 0, 1, [0], 0, 0, []) := And.intro dX8_fewestLeftOut_0 (And.intro rfl (rfl))
theorem oX8_fewestLeftOut_1 : OKI 58 1 (.getfield 33, 4, [9, 7, 0], 0, 0, []) := And.intro dX8_fewestLeftOut_1 (And.intro rfl (⟨(RX8, TX8, 10), "SpotTimers$Tally", rfl, by decide, tm_1 _ (List.mem_of_getElem? (i := 161) rfl) rfl, Or.inl rfl, Or.inr (Or.inr (And.intro rfl (Or.inl rfl)))⟩))
theorem oX8_fewestLeftOut_4 : OKI 58 4 (.bipush 12, 6, [], 12, 0, []) := And.intro dX8_fewestLeftOut_4 (And.intro rfl (by decide +kernel))
theorem oX8_fewestLeftOut_6 : OKI 58 6 (.if_icmp .le 5, 9, [11], 0, 0, []) := And.intro dX8_fewestLeftOut_6 (And.intro rfl (by decide))
theorem oX8_fewestLeftOut_9 : OKI 58 9 (.iconst 0, 10, [], 0, 0, []) := And.intro dX8_fewestLeftOut_9 (And.intro rfl (by decide +kernel))
theorem oX8_fewestLeftOut_10 : OKI 58 10 (.ireturn, 11, [0], 0, 0, []) := And.intro dX8_fewestLeftOut_10 (Or.inl (And.intro rfl rfl))
theorem oX8_fewestLeftOut_11 : OKI 58 11 (.iconst 1, 12, [], 1, 0, []) := And.intro dX8_fewestLeftOut_11 (And.intro rfl (by decide +kernel))
theorem oX8_fewestLeftOut_12 : OKI 58 12 (.aload_n 0, 13, [0], 0, 0, []) := And.intro dX8_fewestLeftOut_12 (And.intro rfl (rfl))
theorem oX8_fewestLeftOut_13 : OKI 58 13 (.getfield 33, 16, [9, 7, 0], 0, 0, []) := And.intro dX8_fewestLeftOut_13 (And.intro rfl (⟨(RX8, TX8, 10), "SpotTimers$Tally", rfl, by decide, tm_1 _ (List.mem_of_getElem? (i := 161) rfl) rfl, Or.inl rfl, Or.inr (Or.inr (And.intro rfl (Or.inl rfl)))⟩))
theorem oX8_fewestLeftOut_16 : OKI 58 16 (.ishl, 17, [], 0, 0, []) := And.intro dX8_fewestLeftOut_16 rfl
theorem oX8_fewestLeftOut_17 : OKI 58 17 (.iconst 1, 18, [], 1, 0, []) := And.intro dX8_fewestLeftOut_17 (And.intro rfl (by decide +kernel))
theorem oX8_fewestLeftOut_18 : OKI 58 18 (.isub, 19, [], 0, 0, []) := And.intro dX8_fewestLeftOut_18 rfl
theorem oX8_fewestLeftOut_19 : OKI 58 19 (.istore_n 2, 20, [2], 0, 0, []) := And.intro dX8_fewestLeftOut_19 (And.intro rfl (And.intro rfl (by decide)))
theorem oX8_fewestLeftOut_20 : OKI 58 20 (.iconst 0, 21, [], 0, 0, []) := And.intro dX8_fewestLeftOut_20 (And.intro rfl (by decide +kernel))
theorem oX8_fewestLeftOut_21 : OKI 58 21 (.istore_n 3, 22, [3], 0, 0, []) := And.intro dX8_fewestLeftOut_21 (And.intro rfl (And.intro rfl (by decide)))
theorem oX8_fewestLeftOut_22 : OKI 58 22 (.iload_n 3, 23, [3], 0, 0, []) := And.intro dX8_fewestLeftOut_22 (And.intro rfl (rfl))
theorem oX8_fewestLeftOut_23 : OKI 58 23 (.iconst 1, 24, [], 1, 0, []) := And.intro dX8_fewestLeftOut_23 (And.intro rfl (by decide +kernel))
theorem oX8_fewestLeftOut_24 : OKI 58 24 (.aload_n 0, 25, [0], 0, 0, []) := And.intro dX8_fewestLeftOut_24 (And.intro rfl (rfl))
theorem oX8_fewestLeftOut_25 : OKI 58 25 (.getfield 33, 28, [9, 7, 0], 0, 0, []) := And.intro dX8_fewestLeftOut_25 (And.intro rfl (⟨(RX8, TX8, 10), "SpotTimers$Tally", rfl, by decide, tm_1 _ (List.mem_of_getElem? (i := 161) rfl) rfl, Or.inl rfl, Or.inr (Or.inr (And.intro rfl (Or.inl rfl)))⟩))
theorem oX8_fewestLeftOut_28 : OKI 58 28 (.ishl, 29, [], 0, 0, []) := And.intro dX8_fewestLeftOut_28 rfl
theorem oX8_fewestLeftOut_29 : OKI 58 29 (.if_icmp .ge 31, 32, [60], 0, 0, []) := And.intro dX8_fewestLeftOut_29 (And.intro rfl (by decide))
theorem oX8_fewestLeftOut_32 : OKI 58 32 (.iload_n 3, 33, [3], 0, 0, []) := And.intro dX8_fewestLeftOut_32 (And.intro rfl (rfl))
theorem oX8_fewestLeftOut_33 : OKI 58 33 (.invokestatic 110, 36, [247, 1, 0, 0, 0, 1], 0, 0, []) := And.intro dX8_fewestLeftOut_33 (And.intro rfl (And.intro rfl (And.intro mo_J6_bitCount_0f7a4 (And.intro (Or.inl (tm_5 _ (List.mem_of_getElem? (i := 28) rfl) rfl)) (tm_5 _ (List.mem_of_getElem? (i := 29) rfl) rfl)))))
theorem oX8_fewestLeftOut_36 : OKI 58 36 (.iload_n 2, 37, [2], 0, 0, []) := And.intro dX8_fewestLeftOut_36 (And.intro rfl (rfl))
theorem oX8_fewestLeftOut_37 : OKI 58 37 (.invokestatic 110, 40, [247, 1, 0, 0, 0, 1], 0, 0, []) := And.intro dX8_fewestLeftOut_37 (And.intro rfl (And.intro rfl (And.intro mo_J6_bitCount_0f7a4 (And.intro (Or.inl (tm_5 _ (List.mem_of_getElem? (i := 28) rfl) rfl)) (tm_5 _ (List.mem_of_getElem? (i := 29) rfl) rfl)))))
theorem oX8_fewestLeftOut_40 : OKI 58 40 (.if_icmp .ge 14, 43, [54], 0, 0, []) := And.intro dX8_fewestLeftOut_40 (And.intro rfl (by decide))
theorem oX8_fewestLeftOut_43 : OKI 58 43 (.aload_n 0, 44, [0], 0, 0, []) := And.intro dX8_fewestLeftOut_43 (And.intro rfl (rfl))
theorem oX8_fewestLeftOut_44 : OKI 58 44 (.iload_n 3, 45, [3], 0, 0, []) := And.intro dX8_fewestLeftOut_44 (And.intro rfl (rfl))
theorem oX8_fewestLeftOut_45 : OKI 58 45 (.iload_n 1, 46, [1], 0, 0, []) := And.intro dX8_fewestLeftOut_45 (And.intro rfl (rfl))
theorem oX8_fewestLeftOut_46 : OKI 58 46 (.invokevirtual 115, 49, [59, 3, 10, 0, 0, 1], 0, 0, []) := And.intro dX8_fewestLeftOut_46 (And.intro rfl (And.intro (by decide) (And.intro (by decide) (And.intro mo_X8_agrees (And.intro (tm_5 _ (List.mem_of_getElem? (i := 34) rfl) rfl) (And.intro (tm_5 _ (List.mem_of_getElem? (i := 36) rfl) rfl) (And.intro (pm_2 _ (List.mem_of_getElem? (i := 15) rfl)) (Or.inl ⟨(RX8, TX8, 10), rfl, rfl⟩))))))))
theorem oX8_fewestLeftOut_49 : OKI 58 49 (.ifCond .eq 5, 52, [54], 0, 0, []) := And.intro dX8_fewestLeftOut_49 (And.intro rfl (by decide))
theorem oX8_fewestLeftOut_52 : OKI 58 52 (.iload_n 3, 53, [3], 0, 0, []) := And.intro dX8_fewestLeftOut_52 (And.intro rfl (rfl))
theorem oX8_fewestLeftOut_53 : OKI 58 53 (.istore_n 2, 54, [2], 0, 0, []) := And.intro dX8_fewestLeftOut_53 (And.intro rfl (And.intro rfl (by decide)))
theorem oX8_fewestLeftOut_54 : OKI 58 54 (.iinc 3 1, 57, [3], 1, 0, []) := And.intro dX8_fewestLeftOut_54 (And.intro rfl (And.intro rfl (And.intro (by decide +kernel) (by decide))))
theorem oX8_fewestLeftOut_57 : OKI 58 57 (.goto (-35), 60, [22], 0, 0, []) := And.intro dX8_fewestLeftOut_57 (And.intro rfl (by decide))
theorem oX8_fewestLeftOut_60 : OKI 58 60 (.iload_n 2, 61, [2], 0, 0, []) := And.intro dX8_fewestLeftOut_60 (And.intro rfl (rfl))
theorem oX8_fewestLeftOut_61 : OKI 58 61 (.ireturn, 62, [0], 0, 0, []) := And.intro dX8_fewestLeftOut_61 (Or.inl (And.intro rfl rfl))
def pfX8_fewestLeftOut (pc : Nat) : Option XE := (bif Nat.blt pc 25 then (bif Nat.blt pc 16 then (bif Nat.blt pc 9 then (bif Nat.blt pc 4 then (bif Nat.blt pc 1 then (bif Nat.beq pc 0 then some (.aload_n 0, 1, [0], 0, 0, []) else none) else (bif Nat.beq pc 1 then some (.getfield 33, 4, [9, 7, 0], 0, 0, []) else none)) else (bif Nat.blt pc 6 then (bif Nat.beq pc 4 then some (.bipush 12, 6, [], 12, 0, []) else none) else (bif Nat.beq pc 6 then some (.if_icmp .le 5, 9, [11], 0, 0, []) else none))) else (bif Nat.blt pc 11 then (bif Nat.blt pc 10 then (bif Nat.beq pc 9 then some (.iconst 0, 10, [], 0, 0, []) else none) else (bif Nat.beq pc 10 then some (.ireturn, 11, [0], 0, 0, []) else none)) else (bif Nat.blt pc 12 then (bif Nat.beq pc 11 then some (.iconst 1, 12, [], 1, 0, []) else none) else (bif Nat.blt pc 13 then (bif Nat.beq pc 12 then some (.aload_n 0, 13, [0], 0, 0, []) else none) else (bif Nat.beq pc 13 then some (.getfield 33, 16, [9, 7, 0], 0, 0, []) else none))))) else (bif Nat.blt pc 20 then (bif Nat.blt pc 18 then (bif Nat.blt pc 17 then (bif Nat.beq pc 16 then some (.ishl, 17, [], 0, 0, []) else none) else (bif Nat.beq pc 17 then some (.iconst 1, 18, [], 1, 0, []) else none)) else (bif Nat.blt pc 19 then (bif Nat.beq pc 18 then some (.isub, 19, [], 0, 0, []) else none) else (bif Nat.beq pc 19 then some (.istore_n 2, 20, [2], 0, 0, []) else none))) else (bif Nat.blt pc 22 then (bif Nat.blt pc 21 then (bif Nat.beq pc 20 then some (.iconst 0, 21, [], 0, 0, []) else none) else (bif Nat.beq pc 21 then some (.istore_n 3, 22, [3], 0, 0, []) else none)) else (bif Nat.blt pc 23 then (bif Nat.beq pc 22 then some (.iload_n 3, 23, [3], 0, 0, []) else none) else (bif Nat.blt pc 24 then (bif Nat.beq pc 23 then some (.iconst 1, 24, [], 1, 0, []) else none) else (bif Nat.beq pc 24 then some (.aload_n 0, 25, [0], 0, 0, []) else none)))))) else (bif Nat.blt pc 44 then (bif Nat.blt pc 33 then (bif Nat.blt pc 29 then (bif Nat.blt pc 28 then (bif Nat.beq pc 25 then some (.getfield 33, 28, [9, 7, 0], 0, 0, []) else none) else (bif Nat.beq pc 28 then some (.ishl, 29, [], 0, 0, []) else none)) else (bif Nat.blt pc 32 then (bif Nat.beq pc 29 then some (.if_icmp .ge 31, 32, [60], 0, 0, []) else none) else (bif Nat.beq pc 32 then some (.iload_n 3, 33, [3], 0, 0, []) else none))) else (bif Nat.blt pc 37 then (bif Nat.blt pc 36 then (bif Nat.beq pc 33 then some (.invokestatic 110, 36, [247, 1, 0, 0, 0, 1], 0, 0, []) else none) else (bif Nat.beq pc 36 then some (.iload_n 2, 37, [2], 0, 0, []) else none)) else (bif Nat.blt pc 40 then (bif Nat.beq pc 37 then some (.invokestatic 110, 40, [247, 1, 0, 0, 0, 1], 0, 0, []) else none) else (bif Nat.blt pc 43 then (bif Nat.beq pc 40 then some (.if_icmp .ge 14, 43, [54], 0, 0, []) else none) else (bif Nat.beq pc 43 then some (.aload_n 0, 44, [0], 0, 0, []) else none))))) else (bif Nat.blt pc 53 then (bif Nat.blt pc 46 then (bif Nat.blt pc 45 then (bif Nat.beq pc 44 then some (.iload_n 3, 45, [3], 0, 0, []) else none) else (bif Nat.beq pc 45 then some (.iload_n 1, 46, [1], 0, 0, []) else none)) else (bif Nat.blt pc 49 then (bif Nat.beq pc 46 then some (.invokevirtual 115, 49, [59, 3, 10, 0, 0, 1], 0, 0, []) else none) else (bif Nat.blt pc 52 then (bif Nat.beq pc 49 then some (.ifCond .eq 5, 52, [54], 0, 0, []) else none) else (bif Nat.beq pc 52 then some (.iload_n 3, 53, [3], 0, 0, []) else none)))) else (bif Nat.blt pc 57 then (bif Nat.blt pc 54 then (bif Nat.beq pc 53 then some (.istore_n 2, 54, [2], 0, 0, []) else none) else (bif Nat.beq pc 54 then some (.iinc 3 1, 57, [3], 1, 0, []) else none)) else (bif Nat.blt pc 60 then (bif Nat.beq pc 57 then some (.goto (-35), 60, [22], 0, 0, []) else none) else (bif Nat.blt pc 61 then (bif Nat.beq pc 60 then some (.iload_n 2, 61, [2], 0, 0, []) else none) else (bif Nat.beq pc 61 then some (.ireturn, 62, [0], 0, 0, []) else none)))))))
theorem okX8_fewestLeftOut : ∀ pc Y, pfX8_fewestLeftOut pc = some Y → OKI m_X8_fewestLeftOut pc Y := fun pc Y => ((bt_node (bt_node (bt_node (bt_node (bt_node (bt_leaf (P := OKI m_X8_fewestLeftOut) oX8_fewestLeftOut_0) (bt_leaf (P := OKI m_X8_fewestLeftOut) oX8_fewestLeftOut_1)) (bt_node (bt_leaf (P := OKI m_X8_fewestLeftOut) oX8_fewestLeftOut_4) (bt_leaf (P := OKI m_X8_fewestLeftOut) oX8_fewestLeftOut_6))) (bt_node (bt_node (bt_leaf (P := OKI m_X8_fewestLeftOut) oX8_fewestLeftOut_9) (bt_leaf (P := OKI m_X8_fewestLeftOut) oX8_fewestLeftOut_10)) (bt_node (bt_leaf (P := OKI m_X8_fewestLeftOut) oX8_fewestLeftOut_11) (bt_node (bt_leaf (P := OKI m_X8_fewestLeftOut) oX8_fewestLeftOut_12) (bt_leaf (P := OKI m_X8_fewestLeftOut) oX8_fewestLeftOut_13))))) (bt_node (bt_node (bt_node (bt_leaf (P := OKI m_X8_fewestLeftOut) oX8_fewestLeftOut_16) (bt_leaf (P := OKI m_X8_fewestLeftOut) oX8_fewestLeftOut_17)) (bt_node (bt_leaf (P := OKI m_X8_fewestLeftOut) oX8_fewestLeftOut_18) (bt_leaf (P := OKI m_X8_fewestLeftOut) oX8_fewestLeftOut_19))) (bt_node (bt_node (bt_leaf (P := OKI m_X8_fewestLeftOut) oX8_fewestLeftOut_20) (bt_leaf (P := OKI m_X8_fewestLeftOut) oX8_fewestLeftOut_21)) (bt_node (bt_leaf (P := OKI m_X8_fewestLeftOut) oX8_fewestLeftOut_22) (bt_node (bt_leaf (P := OKI m_X8_fewestLeftOut) oX8_fewestLeftOut_23) (bt_leaf (P := OKI m_X8_fewestLeftOut) oX8_fewestLeftOut_24)))))) (bt_node (bt_node (bt_node (bt_node (bt_leaf (P := OKI m_X8_fewestLeftOut) oX8_fewestLeftOut_25) (bt_leaf (P := OKI m_X8_fewestLeftOut) oX8_fewestLeftOut_28)) (bt_node (bt_leaf (P := OKI m_X8_fewestLeftOut) oX8_fewestLeftOut_29) (bt_leaf (P := OKI m_X8_fewestLeftOut) oX8_fewestLeftOut_32))) (bt_node (bt_node (bt_leaf (P := OKI m_X8_fewestLeftOut) oX8_fewestLeftOut_33) (bt_leaf (P := OKI m_X8_fewestLeftOut) oX8_fewestLeftOut_36)) (bt_node (bt_leaf (P := OKI m_X8_fewestLeftOut) oX8_fewestLeftOut_37) (bt_node (bt_leaf (P := OKI m_X8_fewestLeftOut) oX8_fewestLeftOut_40) (bt_leaf (P := OKI m_X8_fewestLeftOut) oX8_fewestLeftOut_43))))) (bt_node (bt_node (bt_node (bt_leaf (P := OKI m_X8_fewestLeftOut) oX8_fewestLeftOut_44) (bt_leaf (P := OKI m_X8_fewestLeftOut) oX8_fewestLeftOut_45)) (bt_node (bt_leaf (P := OKI m_X8_fewestLeftOut) oX8_fewestLeftOut_46) (bt_node (bt_leaf (P := OKI m_X8_fewestLeftOut) oX8_fewestLeftOut_49) (bt_leaf (P := OKI m_X8_fewestLeftOut) oX8_fewestLeftOut_52)))) (bt_node (bt_node (bt_leaf (P := OKI m_X8_fewestLeftOut) oX8_fewestLeftOut_53) (bt_leaf (P := OKI m_X8_fewestLeftOut) oX8_fewestLeftOut_54)) (bt_node (bt_leaf (P := OKI m_X8_fewestLeftOut) oX8_fewestLeftOut_57) (bt_node (bt_leaf (P := OKI m_X8_fewestLeftOut) oX8_fewestLeftOut_60) (bt_leaf (P := OKI m_X8_fewestLeftOut) oX8_fewestLeftOut_61))))))) : pfX8_fewestLeftOut pc = some Y → OKI m_X8_fewestLeftOut pc Y)
def stpX8_fewestLeftOut (pc : Nat) : Option (List Bool) := (bif Nat.blt pc 54 then (bif Nat.beq pc 22 then some [true, true, true, true] else none) else (bif Nat.beq pc 54 then some [true, true, true, true] else none))
def bX8_fewestLeftOut_0 (d rc rs : Nat) (t : Nat) (a1 : Int32) (σ : XH) (Q : XV → XH → Prop) : Prop :=
  (((12 < (hi σ 9 t 7) → Q (vI 0) σ) ∧ (¬ 12 < (hi σ 9 t 7) → (Ex d rc rs m_X8_fewestLeftOut 22 [vR (some (9, t)), vI a1, vI ((1 <<< ((hi σ 9 t 7) &&& 31)) - 1), vI 0] [] σ Q))))
theorem sX8_fewestLeftOut_0 {d rc rs : Nat} {t : Nat} {a1 : Int32} {σ : XH} {Q : XV → XH → Prop} (h : bX8_fewestLeftOut_0 d rc rs t a1 σ Q) : Ex d rc rs m_X8_fewestLeftOut 0 [vR (some (9, t)), vI a1, vU, vU] [] σ Q :=
  xtree_sound (stop := stpX8_fewestLeftOut) okX8_fewestLeftOut 15 _ _ _ _ _ _ h
def bX8_fewestLeftOut_22 (d rc rs : Nat) (t : Nat) (l1 : Int32) (l2 : Int32) (l3 : Int32) (σ : XH) (Q : XV → XH → Prop) : Prop :=
  (((l3 < (1 <<< ((hi σ 9 t 7) &&& 31)) → (1 ≤ d ∧ Ec (d - 1) 0 0 m_J6_bitCount_0f7a4 [vI l3] σ (kI fun x2 h1 => (1 ≤ d ∧ Ec (d - 1) 0 0 m_J6_bitCount_0f7a4 [vI l2] h1 (kI fun x4 h3 => ((x2 < x4 → ((1 ≤ d ∧ Ec (d - 1) 0 0 m_X8_agrees [vR (some (9, t)), vI l3, vI l1] h3 (kI fun x6 h5 => ((x6 = 0 → Ex d rc rs m_X8_fewestLeftOut 54 [vR (some (9, t)), vI l1, vI l2, vI l3] [] h5 Q) ∧ (¬ x6 = 0 → Ex d rc rs m_X8_fewestLeftOut 54 [vR (some (9, t)), vI l1, vI l3, vI l3] [] h5 Q)))))) ∧ (¬ x2 < x4 → Ex d rc rs m_X8_fewestLeftOut 54 [vR (some (9, t)), vI l1, vI l2, vI l3] [] h3 Q))))))) ∧ (¬ l3 < (1 <<< ((hi σ 9 t 7) &&& 31)) → Q (vI l2) σ)))
theorem sX8_fewestLeftOut_22 {d rc rs : Nat} {t : Nat} {l1 : Int32} {l2 : Int32} {l3 : Int32} {σ : XH} {Q : XV → XH → Prop} (h : bX8_fewestLeftOut_22 d rc rs t l1 l2 l3 σ Q) : Ex d rc rs m_X8_fewestLeftOut 22 [vR (some (9, t)), vI l1, vI l2, vI l3] [] σ Q :=
  xtree_sound (stop := stpX8_fewestLeftOut) okX8_fewestLeftOut 20 _ _ _ _ _ _ h
def bX8_fewestLeftOut_54 (d rc rs : Nat) (t : Nat) (l1 : Int32) (l2 : Int32) (l3 : Int32) (σ : XH) (Q : XV → XH → Prop) : Prop :=
  Ex d rc rs m_X8_fewestLeftOut 22 [vR (some (9, t)), vI l1, vI l2, vI (l3 + 1)] [] σ Q
theorem sX8_fewestLeftOut_54 {d rc rs : Nat} {t : Nat} {l1 : Int32} {l2 : Int32} {l3 : Int32} {σ : XH} {Q : XV → XH → Prop} (h : bX8_fewestLeftOut_54 d rc rs t l1 l2 l3 σ Q) : Ex d rc rs m_X8_fewestLeftOut 54 [vR (some (9, t)), vI l1, vI l2, vI l3] [] σ Q :=
  xtree_sound (stop := stpX8_fewestLeftOut) okX8_fewestLeftOut 4 _ _ _ _ _ _ h
/-! SpotTimers$Tally.agrees(II)Z -/
theorem dX8_agrees_0 : decode cX8_agrees 0 = .ok (.aload_n 0, 1) := by decide +kernel
theorem dX8_agrees_1 : decode cX8_agrees 1 = .ok (.iload_n 1, 1) := by decide +kernel
theorem dX8_agrees_2 : decode cX8_agrees 2 = .ok (.invokevirtual 118, 3) := by decide +kernel
theorem dX8_agrees_5 : decode cX8_agrees 5 = .ok (.ifCond .ne 5, 3) := by decide +kernel
theorem dX8_agrees_8 : decode cX8_agrees 8 = .ok (.iconst 1, 1) := by decide +kernel
theorem dX8_agrees_9 : decode cX8_agrees 9 = .ok (.ireturn, 1) := by decide +kernel
theorem dX8_agrees_10 : decode cX8_agrees 10 = .ok (.aload_n 0, 1) := by decide +kernel
theorem dX8_agrees_11 : decode cX8_agrees 11 = .ok (.invokevirtual 122, 3) := by decide +kernel
theorem dX8_agrees_14 : decode cX8_agrees 14 = .ok (.istore_n 3, 1) := by decide +kernel
theorem dX8_agrees_15 : decode cX8_agrees 15 = .ok (.iconst 0, 1) := by decide +kernel
theorem dX8_agrees_16 : decode cX8_agrees 16 = .ok (.istore 4, 2) := by decide +kernel
theorem dX8_agrees_18 : decode cX8_agrees 18 = .ok (.iload 4, 2) := by decide +kernel
theorem dX8_agrees_20 : decode cX8_agrees 20 = .ok (.aload_n 0, 1) := by decide +kernel
theorem dX8_agrees_21 : decode cX8_agrees 21 = .ok (.getfield 33, 3) := by decide +kernel
theorem dX8_agrees_24 : decode cX8_agrees 24 = .ok (.if_icmp .ge 34, 3) := by decide +kernel
theorem dX8_agrees_27 : decode cX8_agrees 27 = .ok (.iload_n 1, 1) := by decide +kernel
theorem dX8_agrees_28 : decode cX8_agrees 28 = .ok (.iload 4, 2) := by decide +kernel
theorem dX8_agrees_30 : decode cX8_agrees 30 = .ok (.invokestatic 84, 3) := by decide +kernel
theorem dX8_agrees_33 : decode cX8_agrees 33 = .ok (.ifCond .ne 19, 3) := by decide +kernel
theorem dX8_agrees_36 : decode cX8_agrees 36 = .ok (.aload_n 0, 1) := by decide +kernel
theorem dX8_agrees_37 : decode cX8_agrees 37 = .ok (.iload 4, 2) := by decide +kernel
theorem dX8_agrees_39 : decode cX8_agrees 39 = .ok (.iload_n 3, 1) := by decide +kernel
theorem dX8_agrees_40 : decode cX8_agrees 40 = .ok (.invokevirtual 104, 3) := by decide +kernel
theorem dX8_agrees_43 : decode cX8_agrees 43 = .ok (.invokestatic 107, 3) := by decide +kernel
theorem dX8_agrees_46 : decode cX8_agrees 46 = .ok (.iload_n 2, 1) := by decide +kernel
theorem dX8_agrees_47 : decode cX8_agrees 47 = .ok (.if_icmp .le 5, 3) := by decide +kernel
theorem dX8_agrees_50 : decode cX8_agrees 50 = .ok (.iconst 0, 1) := by decide +kernel
theorem dX8_agrees_51 : decode cX8_agrees 51 = .ok (.ireturn, 1) := by decide +kernel
theorem dX8_agrees_52 : decode cX8_agrees 52 = .ok (.iinc 4 1, 3) := by decide +kernel
theorem dX8_agrees_55 : decode cX8_agrees 55 = .ok (.goto (-37), 3) := by decide +kernel
theorem dX8_agrees_58 : decode cX8_agrees 58 = .ok (.iconst 1, 1) := by decide +kernel
theorem dX8_agrees_59 : decode cX8_agrees 59 = .ok (.ireturn, 1) := by decide +kernel
theorem oX8_agrees_0 : OKI 59 0 (.aload_n 0, 1, [0], 0, 0, []) := And.intro dX8_agrees_0 (And.intro rfl (rfl))
theorem oX8_agrees_1 : OKI 59 1 (.iload_n 1, 2, [1], 0, 0, []) := And.intro dX8_agrees_1 (And.intro rfl (rfl))
theorem oX8_agrees_2 : OKI 59 2 (.invokevirtual 118, 5, [53, 2, 10, 0, 0, 1], 0, 0, []) := And.intro dX8_agrees_2 (And.intro rfl (And.intro (by decide) (And.intro (by decide) (And.intro mo_X8_solves (And.intro (tm_5 _ (List.mem_of_getElem? (i := 38) rfl) rfl) (And.intro (tm_4 _ (List.mem_of_getElem? (i := 214) rfl) rfl) (And.intro (tm_4 _ (List.mem_of_getElem? (i := 215) rfl) rfl) (Or.inl ⟨(RX8, TX8, 10), rfl, rfl⟩))))))))
theorem oX8_agrees_5 : OKI 59 5 (.ifCond .ne 5, 8, [10], 0, 0, []) := And.intro dX8_agrees_5 (And.intro rfl (by decide))
theorem oX8_agrees_8 : OKI 59 8 (.iconst 1, 9, [], 1, 0, []) := And.intro dX8_agrees_8 (And.intro rfl (by decide +kernel))
theorem oX8_agrees_9 : OKI 59 9 (.ireturn, 10, [3], 0, 0, []) := And.intro dX8_agrees_9 (Or.inr (Or.inl (And.intro rfl rfl)))
theorem oX8_agrees_10 : OKI 59 10 (.aload_n 0, 11, [0], 0, 0, []) := And.intro dX8_agrees_10 (And.intro rfl (rfl))
theorem oX8_agrees_11 : OKI 59 11 (.invokevirtual 122, 14, [54, 1, 10, 0, 0, 1], 0, 0, []) := And.intro dX8_agrees_11 (And.intro rfl (And.intro (by decide) (And.intro (by decide) (And.intro mo_X8_bestDistance (And.intro (tm_5 _ (List.mem_of_getElem? (i := 39) rfl) rfl) (And.intro (tm_4 _ (List.mem_of_getElem? (i := 233) rfl) rfl) (And.intro (tm_4 _ (List.mem_of_getElem? (i := 234) rfl) rfl) (Or.inl ⟨(RX8, TX8, 10), rfl, rfl⟩))))))))
theorem oX8_agrees_14 : OKI 59 14 (.istore_n 3, 15, [3], 0, 0, []) := And.intro dX8_agrees_14 (And.intro rfl (And.intro rfl (by decide)))
theorem oX8_agrees_15 : OKI 59 15 (.iconst 0, 16, [], 0, 0, []) := And.intro dX8_agrees_15 (And.intro rfl (by decide +kernel))
theorem oX8_agrees_16 : OKI 59 16 (.istore 4, 18, [4], 0, 0, []) := And.intro dX8_agrees_16 (And.intro rfl (And.intro rfl (by decide)))
theorem oX8_agrees_18 : OKI 59 18 (.iload 4, 20, [4], 0, 0, []) := And.intro dX8_agrees_18 (And.intro rfl (rfl))
theorem oX8_agrees_20 : OKI 59 20 (.aload_n 0, 21, [0], 0, 0, []) := And.intro dX8_agrees_20 (And.intro rfl (rfl))
theorem oX8_agrees_21 : OKI 59 21 (.getfield 33, 24, [9, 7, 0], 0, 0, []) := And.intro dX8_agrees_21 (And.intro rfl (⟨(RX8, TX8, 10), "SpotTimers$Tally", rfl, by decide, tm_1 _ (List.mem_of_getElem? (i := 161) rfl) rfl, Or.inl rfl, Or.inr (Or.inr (And.intro rfl (Or.inl rfl)))⟩))
theorem oX8_agrees_24 : OKI 59 24 (.if_icmp .ge 34, 27, [58], 0, 0, []) := And.intro dX8_agrees_24 (And.intro rfl (by decide))
theorem oX8_agrees_27 : OKI 59 27 (.iload_n 1, 28, [1], 0, 0, []) := And.intro dX8_agrees_27 (And.intro rfl (rfl))
theorem oX8_agrees_28 : OKI 59 28 (.iload 4, 30, [4], 0, 0, []) := And.intro dX8_agrees_28 (And.intro rfl (rfl))
theorem oX8_agrees_30 : OKI 59 30 (.invokestatic 84, 33, [52, 2, 0, 0, 0, 1], 0, 0, []) := And.intro dX8_agrees_30 (And.intro rfl (And.intro rfl (And.intro mo_X8_isLeftOut (And.intro (Or.inl (tm_4 _ (List.mem_of_getElem? (i := 217) rfl) rfl)) (tm_4 _ (List.mem_of_getElem? (i := 218) rfl) rfl)))))
theorem oX8_agrees_33 : OKI 59 33 (.ifCond .ne 19, 36, [52], 0, 0, []) := And.intro dX8_agrees_33 (And.intro rfl (by decide))
theorem oX8_agrees_36 : OKI 59 36 (.aload_n 0, 37, [0], 0, 0, []) := And.intro dX8_agrees_36 (And.intro rfl (rfl))
theorem oX8_agrees_37 : OKI 59 37 (.iload 4, 39, [4], 0, 0, []) := And.intro dX8_agrees_37 (And.intro rfl (rfl))
theorem oX8_agrees_39 : OKI 59 39 (.iload_n 3, 40, [3], 0, 0, []) := And.intro dX8_agrees_39 (And.intro rfl (rfl))
theorem oX8_agrees_40 : OKI 59 40 (.invokevirtual 104, 43, [55, 3, 10, 0, 0, 1], 0, 0, []) := And.intro dX8_agrees_40 (And.intro rfl (And.intro (by decide) (And.intro (by decide) (And.intro mo_X8_restAt (And.intro (tm_5 _ (List.mem_of_getElem? (i := 8) rfl) rfl) (And.intro (tm_5 _ (List.mem_of_getElem? (i := 9) rfl) rfl) (And.intro (tm_5 _ (List.mem_of_getElem? (i := 10) rfl) rfl) (Or.inl ⟨(RX8, TX8, 10), rfl, rfl⟩))))))))
theorem oX8_agrees_43 : OKI 59 43 (.invokestatic 107, 46, [250, 1, 0, 0, 0, 1], 0, 0, []) := And.intro dX8_agrees_43 (And.intro rfl (And.intro rfl (And.intro mo_J9_abs_0f7a4 (And.intro (Or.inl (tm_5 _ (List.mem_of_getElem? (i := 40) rfl) rfl)) (tm_5 _ (List.mem_of_getElem? (i := 41) rfl) rfl)))))
theorem oX8_agrees_46 : OKI 59 46 (.iload_n 2, 47, [2], 0, 0, []) := And.intro dX8_agrees_46 (And.intro rfl (rfl))
theorem oX8_agrees_47 : OKI 59 47 (.if_icmp .le 5, 50, [52], 0, 0, []) := And.intro dX8_agrees_47 (And.intro rfl (by decide))
theorem oX8_agrees_50 : OKI 59 50 (.iconst 0, 51, [], 0, 0, []) := And.intro dX8_agrees_50 (And.intro rfl (by decide +kernel))
theorem oX8_agrees_51 : OKI 59 51 (.ireturn, 52, [3], 0, 0, []) := And.intro dX8_agrees_51 (Or.inr (Or.inl (And.intro rfl rfl)))
theorem oX8_agrees_52 : OKI 59 52 (.iinc 4 1, 55, [4], 1, 0, []) := And.intro dX8_agrees_52 (And.intro rfl (And.intro rfl (And.intro (by decide +kernel) (by decide))))
theorem oX8_agrees_55 : OKI 59 55 (.goto (-37), 58, [18], 0, 0, []) := And.intro dX8_agrees_55 (And.intro rfl (by decide))
theorem oX8_agrees_58 : OKI 59 58 (.iconst 1, 59, [], 1, 0, []) := And.intro dX8_agrees_58 (And.intro rfl (by decide +kernel))
theorem oX8_agrees_59 : OKI 59 59 (.ireturn, 60, [3], 0, 0, []) := And.intro dX8_agrees_59 (Or.inr (Or.inl (And.intro rfl rfl)))
def pfX8_agrees (pc : Nat) : Option XE := (bif Nat.blt pc 28 then (bif Nat.blt pc 14 then (bif Nat.blt pc 8 then (bif Nat.blt pc 2 then (bif Nat.blt pc 1 then (bif Nat.beq pc 0 then some (.aload_n 0, 1, [0], 0, 0, []) else none) else (bif Nat.beq pc 1 then some (.iload_n 1, 2, [1], 0, 0, []) else none)) else (bif Nat.blt pc 5 then (bif Nat.beq pc 2 then some (.invokevirtual 118, 5, [53, 2, 10, 0, 0, 1], 0, 0, []) else none) else (bif Nat.beq pc 5 then some (.ifCond .ne 5, 8, [10], 0, 0, []) else none))) else (bif Nat.blt pc 10 then (bif Nat.blt pc 9 then (bif Nat.beq pc 8 then some (.iconst 1, 9, [], 1, 0, []) else none) else (bif Nat.beq pc 9 then some (.ireturn, 10, [3], 0, 0, []) else none)) else (bif Nat.blt pc 11 then (bif Nat.beq pc 10 then some (.aload_n 0, 11, [0], 0, 0, []) else none) else (bif Nat.beq pc 11 then some (.invokevirtual 122, 14, [54, 1, 10, 0, 0, 1], 0, 0, []) else none)))) else (bif Nat.blt pc 20 then (bif Nat.blt pc 16 then (bif Nat.blt pc 15 then (bif Nat.beq pc 14 then some (.istore_n 3, 15, [3], 0, 0, []) else none) else (bif Nat.beq pc 15 then some (.iconst 0, 16, [], 0, 0, []) else none)) else (bif Nat.blt pc 18 then (bif Nat.beq pc 16 then some (.istore 4, 18, [4], 0, 0, []) else none) else (bif Nat.beq pc 18 then some (.iload 4, 20, [4], 0, 0, []) else none))) else (bif Nat.blt pc 24 then (bif Nat.blt pc 21 then (bif Nat.beq pc 20 then some (.aload_n 0, 21, [0], 0, 0, []) else none) else (bif Nat.beq pc 21 then some (.getfield 33, 24, [9, 7, 0], 0, 0, []) else none)) else (bif Nat.blt pc 27 then (bif Nat.beq pc 24 then some (.if_icmp .ge 34, 27, [58], 0, 0, []) else none) else (bif Nat.beq pc 27 then some (.iload_n 1, 28, [1], 0, 0, []) else none))))) else (bif Nat.blt pc 46 then (bif Nat.blt pc 37 then (bif Nat.blt pc 33 then (bif Nat.blt pc 30 then (bif Nat.beq pc 28 then some (.iload 4, 30, [4], 0, 0, []) else none) else (bif Nat.beq pc 30 then some (.invokestatic 84, 33, [52, 2, 0, 0, 0, 1], 0, 0, []) else none)) else (bif Nat.blt pc 36 then (bif Nat.beq pc 33 then some (.ifCond .ne 19, 36, [52], 0, 0, []) else none) else (bif Nat.beq pc 36 then some (.aload_n 0, 37, [0], 0, 0, []) else none))) else (bif Nat.blt pc 40 then (bif Nat.blt pc 39 then (bif Nat.beq pc 37 then some (.iload 4, 39, [4], 0, 0, []) else none) else (bif Nat.beq pc 39 then some (.iload_n 3, 40, [3], 0, 0, []) else none)) else (bif Nat.blt pc 43 then (bif Nat.beq pc 40 then some (.invokevirtual 104, 43, [55, 3, 10, 0, 0, 1], 0, 0, []) else none) else (bif Nat.beq pc 43 then some (.invokestatic 107, 46, [250, 1, 0, 0, 0, 1], 0, 0, []) else none)))) else (bif Nat.blt pc 52 then (bif Nat.blt pc 50 then (bif Nat.blt pc 47 then (bif Nat.beq pc 46 then some (.iload_n 2, 47, [2], 0, 0, []) else none) else (bif Nat.beq pc 47 then some (.if_icmp .le 5, 50, [52], 0, 0, []) else none)) else (bif Nat.blt pc 51 then (bif Nat.beq pc 50 then some (.iconst 0, 51, [], 0, 0, []) else none) else (bif Nat.beq pc 51 then some (.ireturn, 52, [3], 0, 0, []) else none))) else (bif Nat.blt pc 58 then (bif Nat.blt pc 55 then (bif Nat.beq pc 52 then some (.iinc 4 1, 55, [4], 1, 0, []) else none) else (bif Nat.beq pc 55 then some (.goto (-37), 58, [18], 0, 0, []) else none)) else (bif Nat.blt pc 59 then (bif Nat.beq pc 58 then some (.iconst 1, 59, [], 1, 0, []) else none) else (bif Nat.beq pc 59 then some (.ireturn, 60, [3], 0, 0, []) else none))))))
theorem okX8_agrees : ∀ pc Y, pfX8_agrees pc = some Y → OKI m_X8_agrees pc Y := fun pc Y => ((bt_node (bt_node (bt_node (bt_node (bt_node (bt_leaf (P := OKI m_X8_agrees) oX8_agrees_0) (bt_leaf (P := OKI m_X8_agrees) oX8_agrees_1)) (bt_node (bt_leaf (P := OKI m_X8_agrees) oX8_agrees_2) (bt_leaf (P := OKI m_X8_agrees) oX8_agrees_5))) (bt_node (bt_node (bt_leaf (P := OKI m_X8_agrees) oX8_agrees_8) (bt_leaf (P := OKI m_X8_agrees) oX8_agrees_9)) (bt_node (bt_leaf (P := OKI m_X8_agrees) oX8_agrees_10) (bt_leaf (P := OKI m_X8_agrees) oX8_agrees_11)))) (bt_node (bt_node (bt_node (bt_leaf (P := OKI m_X8_agrees) oX8_agrees_14) (bt_leaf (P := OKI m_X8_agrees) oX8_agrees_15)) (bt_node (bt_leaf (P := OKI m_X8_agrees) oX8_agrees_16) (bt_leaf (P := OKI m_X8_agrees) oX8_agrees_18))) (bt_node (bt_node (bt_leaf (P := OKI m_X8_agrees) oX8_agrees_20) (bt_leaf (P := OKI m_X8_agrees) oX8_agrees_21)) (bt_node (bt_leaf (P := OKI m_X8_agrees) oX8_agrees_24) (bt_leaf (P := OKI m_X8_agrees) oX8_agrees_27))))) (bt_node (bt_node (bt_node (bt_node (bt_leaf (P := OKI m_X8_agrees) oX8_agrees_28) (bt_leaf (P := OKI m_X8_agrees) oX8_agrees_30)) (bt_node (bt_leaf (P := OKI m_X8_agrees) oX8_agrees_33) (bt_leaf (P := OKI m_X8_agrees) oX8_agrees_36))) (bt_node (bt_node (bt_leaf (P := OKI m_X8_agrees) oX8_agrees_37) (bt_leaf (P := OKI m_X8_agrees) oX8_agrees_39)) (bt_node (bt_leaf (P := OKI m_X8_agrees) oX8_agrees_40) (bt_leaf (P := OKI m_X8_agrees) oX8_agrees_43)))) (bt_node (bt_node (bt_node (bt_leaf (P := OKI m_X8_agrees) oX8_agrees_46) (bt_leaf (P := OKI m_X8_agrees) oX8_agrees_47)) (bt_node (bt_leaf (P := OKI m_X8_agrees) oX8_agrees_50) (bt_leaf (P := OKI m_X8_agrees) oX8_agrees_51))) (bt_node (bt_node (bt_leaf (P := OKI m_X8_agrees) oX8_agrees_52) (bt_leaf (P := OKI m_X8_agrees) oX8_agrees_55)) (bt_node (bt_leaf (P := OKI m_X8_agrees) oX8_agrees_58) (bt_leaf (P := OKI m_X8_agrees) oX8_agrees_59)))))) : pfX8_agrees pc = some Y → OKI m_X8_agrees pc Y)
def stpX8_agrees (pc : Nat) : Option (List Bool) := (bif Nat.blt pc 52 then (bif Nat.beq pc 18 then some [true, true, true, true, true] else none) else (bif Nat.beq pc 52 then some [true, true, true, true, true] else none))
def bX8_agrees_0 (d rc rs : Nat) (t : Nat) (a1 : Int32) (a2 : Int32) (σ : XH) (Q : XV → XH → Prop) : Prop :=
  ((1 ≤ d ∧ Ec (d - 1) 0 0 m_X8_solves [vR (some (9, t)), vI a1] σ (kI fun x2 h1 => ((x2 = 0 → (((1 : Int32) = 0 ∨ (1 : Int32) = 1) ∧ Q (vI 1) h1)) ∧ (¬ x2 = 0 → ((1 ≤ d ∧ Ec (d - 1) 0 0 m_X8_bestDistance [vR (some (9, t))] h1 (kI fun x4 h3 => Ex d rc rs m_X8_agrees 18 [vR (some (9, t)), vI a1, vI a2, vI x4, vI 0] [] h3 Q))))))))
theorem sX8_agrees_0 {d rc rs : Nat} {t : Nat} {a1 : Int32} {a2 : Int32} {σ : XH} {Q : XV → XH → Prop} (h : bX8_agrees_0 d rc rs t a1 a2 σ Q) : Ex d rc rs m_X8_agrees 0 [vR (some (9, t)), vI a1, vI a2, vU, vU] [] σ Q :=
  xtree_sound (stop := stpX8_agrees) okX8_agrees 11 _ _ _ _ _ _ h
def bX8_agrees_18 (d rc rs : Nat) (t : Nat) (l1 : Int32) (l2 : Int32) (l3 : Int32) (l4 : Int32) (σ : XH) (Q : XV → XH → Prop) : Prop :=
  (((l4 < (hi σ 9 t 7) → (1 ≤ d ∧ Ec (d - 1) 0 0 m_X8_isLeftOut [vI l1, vI l4] σ (kI fun x2 h1 => ((x2 = 0 → ((1 ≤ d ∧ Ec (d - 1) 0 0 m_X8_restAt [vR (some (9, t)), vI l4, vI l3] h1 (kI fun x4 h3 => (1 ≤ d ∧ Ec (d - 1) 0 0 m_J9_abs_0f7a4 [vI x4] h3 (kI fun x6 h5 => ((l2 < x6 → (((0 : Int32) = 0 ∨ (0 : Int32) = 1) ∧ Q (vI 0) h5)) ∧ (¬ l2 < x6 → Ex d rc rs m_X8_agrees 52 [vR (some (9, t)), vI l1, vI l2, vI l3, vI l4] [] h5 Q)))))))) ∧ (¬ x2 = 0 → Ex d rc rs m_X8_agrees 52 [vR (some (9, t)), vI l1, vI l2, vI l3, vI l4] [] h1 Q))))) ∧ (¬ l4 < (hi σ 9 t 7) → (((1 : Int32) = 0 ∨ (1 : Int32) = 1) ∧ Q (vI 1) σ))))
theorem sX8_agrees_18 {d rc rs : Nat} {t : Nat} {l1 : Int32} {l2 : Int32} {l3 : Int32} {l4 : Int32} {σ : XH} {Q : XV → XH → Prop} (h : bX8_agrees_18 d rc rs t l1 l2 l3 l4 σ Q) : Ex d rc rs m_X8_agrees 18 [vR (some (9, t)), vI l1, vI l2, vI l3, vI l4] [] σ Q :=
  xtree_sound (stop := stpX8_agrees) okX8_agrees 19 _ _ _ _ _ _ h
def bX8_agrees_52 (d rc rs : Nat) (t : Nat) (l1 : Int32) (l2 : Int32) (l3 : Int32) (l4 : Int32) (σ : XH) (Q : XV → XH → Prop) : Prop :=
  Ex d rc rs m_X8_agrees 18 [vR (some (9, t)), vI l1, vI l2, vI l3, vI (l4 + 1)] [] σ Q
theorem sX8_agrees_52 {d rc rs : Nat} {t : Nat} {l1 : Int32} {l2 : Int32} {l3 : Int32} {l4 : Int32} {σ : XH} {Q : XV → XH → Prop} (h : bX8_agrees_52 d rc rs t l1 l2 l3 l4 σ Q) : Ex d rc rs m_X8_agrees 52 [vR (some (9, t)), vI l1, vI l2, vI l3, vI l4] [] σ Q :=
  xtree_sound (stop := stpX8_agrees) okX8_agrees 4 _ _ _ _ _ _ h
/-! SpotTimers$Tally.waysBelow(JI)I -/
theorem dX8_waysBelow_0 : decode cX8_waysBelow 0 = .ok (.aload_n 0, 1) := by decide +kernel
theorem dX8_waysBelow_1 : decode cX8_waysBelow 1 = .ok (.getfield 30, 3) := by decide +kernel
theorem dX8_waysBelow_4 : decode cX8_waysBelow 4 = .ok (.iconst 0, 1) := by decide +kernel
theorem dX8_waysBelow_5 : decode cX8_waysBelow 5 = .ok (.invokestatic 44, 3) := by decide +kernel
theorem dX8_waysBelow_8 : decode cX8_waysBelow 8 = .ok (.aload_n 0, 1) := by decide +kernel
theorem dX8_waysBelow_9 : decode cX8_waysBelow 9 = .ok (.getfield 30, 3) := by decide +kernel
theorem dX8_waysBelow_12 : decode cX8_waysBelow 12 = .ok (.iconst 0, 1) := by decide +kernel
theorem dX8_waysBelow_13 : decode cX8_waysBelow 13 = .ok (.iconst 1, 1) := by decide +kernel
theorem dX8_waysBelow_14 : decode cX8_waysBelow 14 = .ok (.iastore, 1) := by decide +kernel
theorem dX8_waysBelow_15 : decode cX8_waysBelow 15 = .ok (.iconst 0, 1) := by decide +kernel
theorem dX8_waysBelow_16 : decode cX8_waysBelow 16 = .ok (.istore 4, 2) := by decide +kernel
theorem dX8_waysBelow_18 : decode cX8_waysBelow 18 = .ok (.iload 4, 2) := by decide +kernel
theorem dX8_waysBelow_20 : decode cX8_waysBelow 20 = .ok (.aload_n 0, 1) := by decide +kernel
theorem dX8_waysBelow_21 : decode cX8_waysBelow 21 = .ok (.getfield 33, 3) := by decide +kernel
theorem dX8_waysBelow_24 : decode cX8_waysBelow 24 = .ok (.if_icmp .ge 69, 3) := by decide +kernel
theorem dX8_waysBelow_27 : decode cX8_waysBelow 27 = .ok (.aload_n 0, 1) := by decide +kernel
theorem dX8_waysBelow_28 : decode cX8_waysBelow 28 = .ok (.getfield 30, 3) := by decide +kernel
theorem dX8_waysBelow_31 : decode cX8_waysBelow 31 = .ok (.arraylength, 1) := by decide +kernel
theorem dX8_waysBelow_32 : decode cX8_waysBelow 32 = .ok (.iconst 1, 1) := by decide +kernel
theorem dX8_waysBelow_33 : decode cX8_waysBelow 33 = .ok (.isub, 1) := by decide +kernel
theorem dX8_waysBelow_34 : decode cX8_waysBelow 34 = .ok (.istore 5, 2) := by decide +kernel
theorem dX8_waysBelow_36 : decode cX8_waysBelow 36 = .ok (.iload 5, 2) := by decide +kernel
theorem dX8_waysBelow_38 : decode cX8_waysBelow 38 = .ok (.iconst 1, 1) := by decide +kernel
theorem dX8_waysBelow_39 : decode cX8_waysBelow 39 = .ok (.if_icmp .lt 48, 3) := by decide +kernel
theorem dX8_waysBelow_42 : decode cX8_waysBelow 42 = .ok (.aload_n 0, 1) := by decide +kernel
theorem dX8_waysBelow_43 : decode cX8_waysBelow 43 = .ok (.getfield 30, 3) := by decide +kernel
theorem dX8_waysBelow_46 : decode cX8_waysBelow 46 = .ok (.iload 5, 2) := by decide +kernel
theorem dX8_waysBelow_48 : decode cX8_waysBelow 48 = .ok (.dup2, 1) := by decide +kernel
theorem dX8_waysBelow_49 : decode cX8_waysBelow 49 = .ok (.iaload, 1) := by decide +kernel
theorem dX8_waysBelow_50 : decode cX8_waysBelow 50 = .ok (.aload_n 0, 1) := by decide +kernel
theorem dX8_waysBelow_51 : decode cX8_waysBelow 51 = .ok (.getfield 30, 3) := by decide +kernel
theorem dX8_waysBelow_54 : decode cX8_waysBelow 54 = .ok (.iload 5, 2) := by decide +kernel
theorem dX8_waysBelow_56 : decode cX8_waysBelow 56 = .ok (.iconst 1, 1) := by decide +kernel
theorem dX8_waysBelow_57 : decode cX8_waysBelow 57 = .ok (.isub, 1) := by decide +kernel
theorem dX8_waysBelow_58 : decode cX8_waysBelow 58 = .ok (.iaload, 1) := by decide +kernel
theorem dX8_waysBelow_59 : decode cX8_waysBelow 59 = .ok (.iload 5, 2) := by decide +kernel
theorem dX8_waysBelow_61 : decode cX8_waysBelow 61 = .ok (.iconst 2, 1) := by decide +kernel
theorem dX8_waysBelow_62 : decode cX8_waysBelow 62 = .ok (.if_icmp .lt 15, 3) := by decide +kernel
theorem dX8_waysBelow_65 : decode cX8_waysBelow 65 = .ok (.aload_n 0, 1) := by decide +kernel
theorem dX8_waysBelow_66 : decode cX8_waysBelow 66 = .ok (.getfield 30, 3) := by decide +kernel
theorem dX8_waysBelow_69 : decode cX8_waysBelow 69 = .ok (.iload 5, 2) := by decide +kernel
theorem dX8_waysBelow_71 : decode cX8_waysBelow 71 = .ok (.iconst 2, 1) := by decide +kernel
theorem dX8_waysBelow_72 : decode cX8_waysBelow 72 = .ok (.isub, 1) := by decide +kernel
theorem dX8_waysBelow_73 : decode cX8_waysBelow 73 = .ok (.iaload, 1) := by decide +kernel
theorem dX8_waysBelow_74 : decode cX8_waysBelow 74 = .ok (.goto 4, 3) := by decide +kernel
theorem dX8_waysBelow_77 : decode cX8_waysBelow 77 = .ok (.iconst 0, 1) := by decide +kernel
theorem dX8_waysBelow_78 : decode cX8_waysBelow 78 = .ok (.iadd, 1) := by decide +kernel
theorem dX8_waysBelow_79 : decode cX8_waysBelow 79 = .ok (.iadd, 1) := by decide +kernel
theorem dX8_waysBelow_80 : decode cX8_waysBelow 80 = .ok (.iastore, 1) := by decide +kernel
theorem dX8_waysBelow_81 : decode cX8_waysBelow 81 = .ok (.iinc 5 (-1), 3) := by decide +kernel
theorem dX8_waysBelow_84 : decode cX8_waysBelow 84 = .ok (.goto (-48), 3) := by decide +kernel
theorem dX8_waysBelow_87 : decode cX8_waysBelow 87 = .ok (.iinc 4 1, 3) := by decide +kernel
theorem dX8_waysBelow_90 : decode cX8_waysBelow 90 = .ok (.goto (-72), 3) := by decide +kernel
theorem dX8_waysBelow_93 : decode cX8_waysBelow 93 = .ok (.iconst 0, 1) := by decide +kernel
theorem dX8_waysBelow_94 : decode cX8_waysBelow 94 = .ok (.istore 4, 2) := by decide +kernel
theorem dX8_waysBelow_96 : decode cX8_waysBelow 96 = .ok (.iconst 0, 1) := by decide +kernel
theorem dX8_waysBelow_97 : decode cX8_waysBelow 97 = .ok (.istore 5, 2) := by decide +kernel
theorem dX8_waysBelow_99 : decode cX8_waysBelow 99 = .ok (.iload 5, 2) := by decide +kernel
theorem dX8_waysBelow_101 : decode cX8_waysBelow 101 = .ok (.aload_n 0, 1) := by decide +kernel
theorem dX8_waysBelow_102 : decode cX8_waysBelow 102 = .ok (.getfield 30, 3) := by decide +kernel
theorem dX8_waysBelow_105 : decode cX8_waysBelow 105 = .ok (.arraylength, 1) := by decide +kernel
theorem dX8_waysBelow_106 : decode cX8_waysBelow 106 = .ok (.if_icmp .ge 32, 3) := by decide +kernel
theorem dX8_waysBelow_109 : decode cX8_waysBelow 109 = .ok (.iload 5, 2) := by decide +kernel
theorem dX8_waysBelow_111 : decode cX8_waysBelow 111 = .ok (.i2l, 1) := by decide +kernel
theorem dX8_waysBelow_112 : decode cX8_waysBelow 112 = .ok (.iload_n 3, 1) := by decide +kernel
theorem dX8_waysBelow_113 : decode cX8_waysBelow 113 = .ok (.i2l, 1) := by decide +kernel
theorem dX8_waysBelow_114 : decode cX8_waysBelow 114 = .ok (.lmul, 1) := by decide +kernel
theorem dX8_waysBelow_115 : decode cX8_waysBelow 115 = .ok (.lload_n 1, 1) := by decide +kernel
theorem dX8_waysBelow_116 : decode cX8_waysBelow 116 = .ok (.lcmp, 1) := by decide +kernel
theorem dX8_waysBelow_117 : decode cX8_waysBelow 117 = .ok (.ifCond .ge 15, 3) := by decide +kernel
theorem dX8_waysBelow_120 : decode cX8_waysBelow 120 = .ok (.iload 4, 2) := by decide +kernel
theorem dX8_waysBelow_122 : decode cX8_waysBelow 122 = .ok (.aload_n 0, 1) := by decide +kernel
theorem dX8_waysBelow_123 : decode cX8_waysBelow 123 = .ok (.getfield 30, 3) := by decide +kernel
theorem dX8_waysBelow_126 : decode cX8_waysBelow 126 = .ok (.iload 5, 2) := by decide +kernel
theorem dX8_waysBelow_128 : decode cX8_waysBelow 128 = .ok (.iaload, 1) := by decide +kernel
theorem dX8_waysBelow_129 : decode cX8_waysBelow 129 = .ok (.iadd, 1) := by decide +kernel
theorem dX8_waysBelow_130 : decode cX8_waysBelow 130 = .ok (.istore 4, 2) := by decide +kernel
theorem dX8_waysBelow_132 : decode cX8_waysBelow 132 = .ok (.iinc 5 1, 3) := by decide +kernel
theorem dX8_waysBelow_135 : decode cX8_waysBelow 135 = .ok (.goto (-36), 3) := by decide +kernel
theorem dX8_waysBelow_138 : decode cX8_waysBelow 138 = .ok (.iload 4, 2) := by decide +kernel
theorem dX8_waysBelow_140 : decode cX8_waysBelow 140 = .ok (.ireturn, 1) := by decide +kernel
theorem oX8_waysBelow_0 : OKI 60 0 (.aload_n 0, 1, [0], 0, 0, []) := And.intro dX8_waysBelow_0 (And.intro rfl (rfl))
theorem oX8_waysBelow_1 : OKI 60 1 (.getfield 30, 4, [9, 6, 2, 113, 0], 0, 0, []) := And.intro dX8_waysBelow_1 (And.intro rfl (⟨(RX8, TX8, 10), "SpotTimers$Tally", rfl, by decide, tm_1 _ (List.mem_of_getElem? (i := 160) rfl) rfl, Or.inl rfl, rfl, rfl⟩))
theorem oX8_waysBelow_4 : OKI 60 4 (.iconst 0, 5, [], 0, 0, []) := And.intro dX8_waysBelow_4 (And.intro rfl (by decide +kernel))
theorem oX8_waysBelow_5 : OKI 60 5 (.invokestatic 44, 8, [276, 2, 0, 0, 0, 0], 0, 0, []) := And.intro dX8_waysBelow_5 (And.intro rfl (And.intro rfl (And.intro mo_J7_fill_53178 (And.intro (Or.inl (tm_3 _ (List.mem_of_getElem? (i := 226) rfl) rfl)) (tm_3 _ (List.mem_of_getElem? (i := 227) rfl) rfl)))))
theorem oX8_waysBelow_8 : OKI 60 8 (.aload_n 0, 9, [0], 0, 0, []) := And.intro dX8_waysBelow_8 (And.intro rfl (rfl))
theorem oX8_waysBelow_9 : OKI 60 9 (.getfield 30, 12, [9, 6, 2, 113, 0], 0, 0, []) := And.intro dX8_waysBelow_9 (And.intro rfl (⟨(RX8, TX8, 10), "SpotTimers$Tally", rfl, by decide, tm_1 _ (List.mem_of_getElem? (i := 160) rfl) rfl, Or.inl rfl, rfl, rfl⟩))
theorem oX8_waysBelow_12 : OKI 60 12 (.iconst 0, 13, [], 0, 0, []) := And.intro dX8_waysBelow_12 (And.intro rfl (by decide +kernel))
theorem oX8_waysBelow_13 : OKI 60 13 (.iconst 1, 14, [], 1, 0, []) := And.intro dX8_waysBelow_13 (And.intro rfl (by decide +kernel))
theorem oX8_waysBelow_14 : OKI 60 14 (.iastore, 15, [], 0, 0, []) := And.intro dX8_waysBelow_14 rfl
theorem oX8_waysBelow_15 : OKI 60 15 (.iconst 0, 16, [], 0, 0, []) := And.intro dX8_waysBelow_15 (And.intro rfl (by decide +kernel))
theorem oX8_waysBelow_16 : OKI 60 16 (.istore 4, 18, [4], 0, 0, []) := And.intro dX8_waysBelow_16 (And.intro rfl (And.intro rfl (by decide)))
theorem oX8_waysBelow_18 : OKI 60 18 (.iload 4, 20, [4], 0, 0, []) := And.intro dX8_waysBelow_18 (And.intro rfl (rfl))
theorem oX8_waysBelow_20 : OKI 60 20 (.aload_n 0, 21, [0], 0, 0, []) := And.intro dX8_waysBelow_20 (And.intro rfl (rfl))
theorem oX8_waysBelow_21 : OKI 60 21 (.getfield 33, 24, [9, 7, 0], 0, 0, []) := And.intro dX8_waysBelow_21 (And.intro rfl (⟨(RX8, TX8, 10), "SpotTimers$Tally", rfl, by decide, tm_1 _ (List.mem_of_getElem? (i := 161) rfl) rfl, Or.inl rfl, Or.inr (Or.inr (And.intro rfl (Or.inl rfl)))⟩))
theorem oX8_waysBelow_24 : OKI 60 24 (.if_icmp .ge 69, 27, [93], 0, 0, []) := And.intro dX8_waysBelow_24 (And.intro rfl (by decide))
theorem oX8_waysBelow_27 : OKI 60 27 (.aload_n 0, 28, [0], 0, 0, []) := And.intro dX8_waysBelow_27 (And.intro rfl (rfl))
theorem oX8_waysBelow_28 : OKI 60 28 (.getfield 30, 31, [9, 6, 2, 113, 0], 0, 0, []) := And.intro dX8_waysBelow_28 (And.intro rfl (⟨(RX8, TX8, 10), "SpotTimers$Tally", rfl, by decide, tm_1 _ (List.mem_of_getElem? (i := 160) rfl) rfl, Or.inl rfl, rfl, rfl⟩))
theorem oX8_waysBelow_31 : OKI 60 31 (.arraylength, 32, [], 0, 0, []) := And.intro dX8_waysBelow_31 rfl
theorem oX8_waysBelow_32 : OKI 60 32 (.iconst 1, 33, [], 1, 0, []) := And.intro dX8_waysBelow_32 (And.intro rfl (by decide +kernel))
theorem oX8_waysBelow_33 : OKI 60 33 (.isub, 34, [], 0, 0, []) := And.intro dX8_waysBelow_33 rfl
theorem oX8_waysBelow_34 : OKI 60 34 (.istore 5, 36, [5], 0, 0, []) := And.intro dX8_waysBelow_34 (And.intro rfl (And.intro rfl (by decide)))
theorem oX8_waysBelow_36 : OKI 60 36 (.iload 5, 38, [5], 0, 0, []) := And.intro dX8_waysBelow_36 (And.intro rfl (rfl))
theorem oX8_waysBelow_38 : OKI 60 38 (.iconst 1, 39, [], 1, 0, []) := And.intro dX8_waysBelow_38 (And.intro rfl (by decide +kernel))
theorem oX8_waysBelow_39 : OKI 60 39 (.if_icmp .lt 48, 42, [87], 0, 0, []) := And.intro dX8_waysBelow_39 (And.intro rfl (by decide))
theorem oX8_waysBelow_42 : OKI 60 42 (.aload_n 0, 43, [0], 0, 0, []) := And.intro dX8_waysBelow_42 (And.intro rfl (rfl))
theorem oX8_waysBelow_43 : OKI 60 43 (.getfield 30, 46, [9, 6, 2, 113, 0], 0, 0, []) := And.intro dX8_waysBelow_43 (And.intro rfl (⟨(RX8, TX8, 10), "SpotTimers$Tally", rfl, by decide, tm_1 _ (List.mem_of_getElem? (i := 160) rfl) rfl, Or.inl rfl, rfl, rfl⟩))
theorem oX8_waysBelow_46 : OKI 60 46 (.iload 5, 48, [5], 0, 0, []) := And.intro dX8_waysBelow_46 (And.intro rfl (rfl))
theorem oX8_waysBelow_48 : OKI 60 48 (.dup2, 49, [], 0, 0, []) := And.intro dX8_waysBelow_48 rfl
theorem oX8_waysBelow_49 : OKI 60 49 (.iaload, 50, [], 0, 0, []) := And.intro dX8_waysBelow_49 rfl
theorem oX8_waysBelow_50 : OKI 60 50 (.aload_n 0, 51, [0], 0, 0, []) := And.intro dX8_waysBelow_50 (And.intro rfl (rfl))
theorem oX8_waysBelow_51 : OKI 60 51 (.getfield 30, 54, [9, 6, 2, 113, 0], 0, 0, []) := And.intro dX8_waysBelow_51 (And.intro rfl (⟨(RX8, TX8, 10), "SpotTimers$Tally", rfl, by decide, tm_1 _ (List.mem_of_getElem? (i := 160) rfl) rfl, Or.inl rfl, rfl, rfl⟩))
theorem oX8_waysBelow_54 : OKI 60 54 (.iload 5, 56, [5], 0, 0, []) := And.intro dX8_waysBelow_54 (And.intro rfl (rfl))
theorem oX8_waysBelow_56 : OKI 60 56 (.iconst 1, 57, [], 1, 0, []) := And.intro dX8_waysBelow_56 (And.intro rfl (by decide +kernel))
theorem oX8_waysBelow_57 : OKI 60 57 (.isub, 58, [], 0, 0, []) := And.intro dX8_waysBelow_57 rfl
theorem oX8_waysBelow_58 : OKI 60 58 (.iaload, 59, [], 0, 0, []) := And.intro dX8_waysBelow_58 rfl
theorem oX8_waysBelow_59 : OKI 60 59 (.iload 5, 61, [5], 0, 0, []) := And.intro dX8_waysBelow_59 (And.intro rfl (rfl))
theorem oX8_waysBelow_61 : OKI 60 61 (.iconst 2, 62, [], 2, 0, []) := And.intro dX8_waysBelow_61 (And.intro rfl (by decide +kernel))
theorem oX8_waysBelow_62 : OKI 60 62 (.if_icmp .lt 15, 65, [77], 0, 0, []) := And.intro dX8_waysBelow_62 (And.intro rfl (by decide))
theorem oX8_waysBelow_65 : OKI 60 65 (.aload_n 0, 66, [0], 0, 0, []) := And.intro dX8_waysBelow_65 (And.intro rfl (rfl))
theorem oX8_waysBelow_66 : OKI 60 66 (.getfield 30, 69, [9, 6, 2, 113, 0], 0, 0, []) := And.intro dX8_waysBelow_66 (And.intro rfl (⟨(RX8, TX8, 10), "SpotTimers$Tally", rfl, by decide, tm_1 _ (List.mem_of_getElem? (i := 160) rfl) rfl, Or.inl rfl, rfl, rfl⟩))
theorem oX8_waysBelow_69 : OKI 60 69 (.iload 5, 71, [5], 0, 0, []) := And.intro dX8_waysBelow_69 (And.intro rfl (rfl))
theorem oX8_waysBelow_71 : OKI 60 71 (.iconst 2, 72, [], 2, 0, []) := And.intro dX8_waysBelow_71 (And.intro rfl (by decide +kernel))
theorem oX8_waysBelow_72 : OKI 60 72 (.isub, 73, [], 0, 0, []) := And.intro dX8_waysBelow_72 rfl
theorem oX8_waysBelow_73 : OKI 60 73 (.iaload, 74, [], 0, 0, []) := And.intro dX8_waysBelow_73 rfl
theorem oX8_waysBelow_74 : OKI 60 74 (.goto 4, 77, [78], 0, 0, []) := And.intro dX8_waysBelow_74 (And.intro rfl (by decide))
theorem oX8_waysBelow_77 : OKI 60 77 (.iconst 0, 78, [], 0, 0, []) := And.intro dX8_waysBelow_77 (And.intro rfl (by decide +kernel))
theorem oX8_waysBelow_78 : OKI 60 78 (.iadd, 79, [], 0, 0, []) := And.intro dX8_waysBelow_78 rfl
theorem oX8_waysBelow_79 : OKI 60 79 (.iadd, 80, [], 0, 0, []) := And.intro dX8_waysBelow_79 rfl
theorem oX8_waysBelow_80 : OKI 60 80 (.iastore, 81, [], 0, 0, []) := And.intro dX8_waysBelow_80 rfl
theorem oX8_waysBelow_81 : OKI 60 81 (.iinc 5 (-1), 84, [5], (-1), 0, []) := And.intro dX8_waysBelow_81 (And.intro rfl (And.intro rfl (And.intro (by decide +kernel) (by decide))))
theorem oX8_waysBelow_84 : OKI 60 84 (.goto (-48), 87, [36], 0, 0, []) := And.intro dX8_waysBelow_84 (And.intro rfl (by decide))
theorem oX8_waysBelow_87 : OKI 60 87 (.iinc 4 1, 90, [4], 1, 0, []) := And.intro dX8_waysBelow_87 (And.intro rfl (And.intro rfl (And.intro (by decide +kernel) (by decide))))
theorem oX8_waysBelow_90 : OKI 60 90 (.goto (-72), 93, [18], 0, 0, []) := And.intro dX8_waysBelow_90 (And.intro rfl (by decide))
theorem oX8_waysBelow_93 : OKI 60 93 (.iconst 0, 94, [], 0, 0, []) := And.intro dX8_waysBelow_93 (And.intro rfl (by decide +kernel))
theorem oX8_waysBelow_94 : OKI 60 94 (.istore 4, 96, [4], 0, 0, []) := And.intro dX8_waysBelow_94 (And.intro rfl (And.intro rfl (by decide)))
theorem oX8_waysBelow_96 : OKI 60 96 (.iconst 0, 97, [], 0, 0, []) := And.intro dX8_waysBelow_96 (And.intro rfl (by decide +kernel))
theorem oX8_waysBelow_97 : OKI 60 97 (.istore 5, 99, [5], 0, 0, []) := And.intro dX8_waysBelow_97 (And.intro rfl (And.intro rfl (by decide)))
theorem oX8_waysBelow_99 : OKI 60 99 (.iload 5, 101, [5], 0, 0, []) := And.intro dX8_waysBelow_99 (And.intro rfl (rfl))
theorem oX8_waysBelow_101 : OKI 60 101 (.aload_n 0, 102, [0], 0, 0, []) := And.intro dX8_waysBelow_101 (And.intro rfl (rfl))
theorem oX8_waysBelow_102 : OKI 60 102 (.getfield 30, 105, [9, 6, 2, 113, 0], 0, 0, []) := And.intro dX8_waysBelow_102 (And.intro rfl (⟨(RX8, TX8, 10), "SpotTimers$Tally", rfl, by decide, tm_1 _ (List.mem_of_getElem? (i := 160) rfl) rfl, Or.inl rfl, rfl, rfl⟩))
theorem oX8_waysBelow_105 : OKI 60 105 (.arraylength, 106, [], 0, 0, []) := And.intro dX8_waysBelow_105 rfl
theorem oX8_waysBelow_106 : OKI 60 106 (.if_icmp .ge 32, 109, [138], 0, 0, []) := And.intro dX8_waysBelow_106 (And.intro rfl (by decide))
theorem oX8_waysBelow_109 : OKI 60 109 (.iload 5, 111, [5], 0, 0, []) := And.intro dX8_waysBelow_109 (And.intro rfl (rfl))
theorem oX8_waysBelow_111 : OKI 60 111 (.i2l, 112, [], 0, 0, []) := And.intro dX8_waysBelow_111 rfl
theorem oX8_waysBelow_112 : OKI 60 112 (.iload_n 3, 113, [3], 0, 0, []) := And.intro dX8_waysBelow_112 (And.intro rfl (rfl))
theorem oX8_waysBelow_113 : OKI 60 113 (.i2l, 114, [], 0, 0, []) := And.intro dX8_waysBelow_113 rfl
theorem oX8_waysBelow_114 : OKI 60 114 (.lmul, 115, [], 0, 0, []) := And.intro dX8_waysBelow_114 rfl
theorem oX8_waysBelow_115 : OKI 60 115 (.lload_n 1, 116, [1], 0, 0, []) := And.intro dX8_waysBelow_115 (And.intro rfl (rfl))
theorem oX8_waysBelow_116 : OKI 60 116 (.lcmp, 117, [], 0, 0, []) := And.intro dX8_waysBelow_116 rfl
theorem oX8_waysBelow_117 : OKI 60 117 (.ifCond .ge 15, 120, [132], 0, 0, []) := And.intro dX8_waysBelow_117 (And.intro rfl (by decide))
theorem oX8_waysBelow_120 : OKI 60 120 (.iload 4, 122, [4], 0, 0, []) := And.intro dX8_waysBelow_120 (And.intro rfl (rfl))
theorem oX8_waysBelow_122 : OKI 60 122 (.aload_n 0, 123, [0], 0, 0, []) := And.intro dX8_waysBelow_122 (And.intro rfl (rfl))
theorem oX8_waysBelow_123 : OKI 60 123 (.getfield 30, 126, [9, 6, 2, 113, 0], 0, 0, []) := And.intro dX8_waysBelow_123 (And.intro rfl (⟨(RX8, TX8, 10), "SpotTimers$Tally", rfl, by decide, tm_1 _ (List.mem_of_getElem? (i := 160) rfl) rfl, Or.inl rfl, rfl, rfl⟩))
theorem oX8_waysBelow_126 : OKI 60 126 (.iload 5, 128, [5], 0, 0, []) := And.intro dX8_waysBelow_126 (And.intro rfl (rfl))
theorem oX8_waysBelow_128 : OKI 60 128 (.iaload, 129, [], 0, 0, []) := And.intro dX8_waysBelow_128 rfl
theorem oX8_waysBelow_129 : OKI 60 129 (.iadd, 130, [], 0, 0, []) := And.intro dX8_waysBelow_129 rfl
theorem oX8_waysBelow_130 : OKI 60 130 (.istore 4, 132, [4], 0, 0, []) := And.intro dX8_waysBelow_130 (And.intro rfl (And.intro rfl (by decide)))
theorem oX8_waysBelow_132 : OKI 60 132 (.iinc 5 1, 135, [5], 1, 0, []) := And.intro dX8_waysBelow_132 (And.intro rfl (And.intro rfl (And.intro (by decide +kernel) (by decide))))
theorem oX8_waysBelow_135 : OKI 60 135 (.goto (-36), 138, [99], 0, 0, []) := And.intro dX8_waysBelow_135 (And.intro rfl (by decide))
theorem oX8_waysBelow_138 : OKI 60 138 (.iload 4, 140, [4], 0, 0, []) := And.intro dX8_waysBelow_138 (And.intro rfl (rfl))
theorem oX8_waysBelow_140 : OKI 60 140 (.ireturn, 141, [0], 0, 0, []) := And.intro dX8_waysBelow_140 (Or.inl (And.intro rfl rfl))
def pfX8_waysBelow (pc : Nat) : Option XE := (bif Nat.blt pc 69 then (bif Nat.blt pc 34 then (bif Nat.blt pc 16 then (bif Nat.blt pc 9 then (bif Nat.blt pc 4 then (bif Nat.blt pc 1 then (bif Nat.beq pc 0 then some (.aload_n 0, 1, [0], 0, 0, []) else none) else (bif Nat.beq pc 1 then some (.getfield 30, 4, [9, 6, 2, 113, 0], 0, 0, []) else none)) else (bif Nat.blt pc 5 then (bif Nat.beq pc 4 then some (.iconst 0, 5, [], 0, 0, []) else none) else (bif Nat.blt pc 8 then (bif Nat.beq pc 5 then some (.invokestatic 44, 8, [276, 2, 0, 0, 0, 0], 0, 0, []) else none) else (bif Nat.beq pc 8 then some (.aload_n 0, 9, [0], 0, 0, []) else none)))) else (bif Nat.blt pc 13 then (bif Nat.blt pc 12 then (bif Nat.beq pc 9 then some (.getfield 30, 12, [9, 6, 2, 113, 0], 0, 0, []) else none) else (bif Nat.beq pc 12 then some (.iconst 0, 13, [], 0, 0, []) else none)) else (bif Nat.blt pc 14 then (bif Nat.beq pc 13 then some (.iconst 1, 14, [], 1, 0, []) else none) else (bif Nat.blt pc 15 then (bif Nat.beq pc 14 then some (.iastore, 15, [], 0, 0, []) else none) else (bif Nat.beq pc 15 then some (.iconst 0, 16, [], 0, 0, []) else none))))) else (bif Nat.blt pc 27 then (bif Nat.blt pc 20 then (bif Nat.blt pc 18 then (bif Nat.beq pc 16 then some (.istore 4, 18, [4], 0, 0, []) else none) else (bif Nat.beq pc 18 then some (.iload 4, 20, [4], 0, 0, []) else none)) else (bif Nat.blt pc 21 then (bif Nat.beq pc 20 then some (.aload_n 0, 21, [0], 0, 0, []) else none) else (bif Nat.blt pc 24 then (bif Nat.beq pc 21 then some (.getfield 33, 24, [9, 7, 0], 0, 0, []) else none) else (bif Nat.beq pc 24 then some (.if_icmp .ge 69, 27, [93], 0, 0, []) else none)))) else (bif Nat.blt pc 31 then (bif Nat.blt pc 28 then (bif Nat.beq pc 27 then some (.aload_n 0, 28, [0], 0, 0, []) else none) else (bif Nat.beq pc 28 then some (.getfield 30, 31, [9, 6, 2, 113, 0], 0, 0, []) else none)) else (bif Nat.blt pc 32 then (bif Nat.beq pc 31 then some (.arraylength, 32, [], 0, 0, []) else none) else (bif Nat.blt pc 33 then (bif Nat.beq pc 32 then some (.iconst 1, 33, [], 1, 0, []) else none) else (bif Nat.beq pc 33 then some (.isub, 34, [], 0, 0, []) else none)))))) else (bif Nat.blt pc 51 then (bif Nat.blt pc 43 then (bif Nat.blt pc 38 then (bif Nat.blt pc 36 then (bif Nat.beq pc 34 then some (.istore 5, 36, [5], 0, 0, []) else none) else (bif Nat.beq pc 36 then some (.iload 5, 38, [5], 0, 0, []) else none)) else (bif Nat.blt pc 39 then (bif Nat.beq pc 38 then some (.iconst 1, 39, [], 1, 0, []) else none) else (bif Nat.blt pc 42 then (bif Nat.beq pc 39 then some (.if_icmp .lt 48, 42, [87], 0, 0, []) else none) else (bif Nat.beq pc 42 then some (.aload_n 0, 43, [0], 0, 0, []) else none)))) else (bif Nat.blt pc 48 then (bif Nat.blt pc 46 then (bif Nat.beq pc 43 then some (.getfield 30, 46, [9, 6, 2, 113, 0], 0, 0, []) else none) else (bif Nat.beq pc 46 then some (.iload 5, 48, [5], 0, 0, []) else none)) else (bif Nat.blt pc 49 then (bif Nat.beq pc 48 then some (.dup2, 49, [], 0, 0, []) else none) else (bif Nat.blt pc 50 then (bif Nat.beq pc 49 then some (.iaload, 50, [], 0, 0, []) else none) else (bif Nat.beq pc 50 then some (.aload_n 0, 51, [0], 0, 0, []) else none))))) else (bif Nat.blt pc 59 then (bif Nat.blt pc 56 then (bif Nat.blt pc 54 then (bif Nat.beq pc 51 then some (.getfield 30, 54, [9, 6, 2, 113, 0], 0, 0, []) else none) else (bif Nat.beq pc 54 then some (.iload 5, 56, [5], 0, 0, []) else none)) else (bif Nat.blt pc 57 then (bif Nat.beq pc 56 then some (.iconst 1, 57, [], 1, 0, []) else none) else (bif Nat.blt pc 58 then (bif Nat.beq pc 57 then some (.isub, 58, [], 0, 0, []) else none) else (bif Nat.beq pc 58 then some (.iaload, 59, [], 0, 0, []) else none)))) else (bif Nat.blt pc 62 then (bif Nat.blt pc 61 then (bif Nat.beq pc 59 then some (.iload 5, 61, [5], 0, 0, []) else none) else (bif Nat.beq pc 61 then some (.iconst 2, 62, [], 2, 0, []) else none)) else (bif Nat.blt pc 65 then (bif Nat.beq pc 62 then some (.if_icmp .lt 15, 65, [77], 0, 0, []) else none) else (bif Nat.blt pc 66 then (bif Nat.beq pc 65 then some (.aload_n 0, 66, [0], 0, 0, []) else none) else (bif Nat.beq pc 66 then some (.getfield 30, 69, [9, 6, 2, 113, 0], 0, 0, []) else none))))))) else (bif Nat.blt pc 105 then (bif Nat.blt pc 84 then (bif Nat.blt pc 77 then (bif Nat.blt pc 72 then (bif Nat.blt pc 71 then (bif Nat.beq pc 69 then some (.iload 5, 71, [5], 0, 0, []) else none) else (bif Nat.beq pc 71 then some (.iconst 2, 72, [], 2, 0, []) else none)) else (bif Nat.blt pc 73 then (bif Nat.beq pc 72 then some (.isub, 73, [], 0, 0, []) else none) else (bif Nat.blt pc 74 then (bif Nat.beq pc 73 then some (.iaload, 74, [], 0, 0, []) else none) else (bif Nat.beq pc 74 then some (.goto 4, 77, [78], 0, 0, []) else none)))) else (bif Nat.blt pc 79 then (bif Nat.blt pc 78 then (bif Nat.beq pc 77 then some (.iconst 0, 78, [], 0, 0, []) else none) else (bif Nat.beq pc 78 then some (.iadd, 79, [], 0, 0, []) else none)) else (bif Nat.blt pc 80 then (bif Nat.beq pc 79 then some (.iadd, 80, [], 0, 0, []) else none) else (bif Nat.blt pc 81 then (bif Nat.beq pc 80 then some (.iastore, 81, [], 0, 0, []) else none) else (bif Nat.beq pc 81 then some (.iinc 5 (-1), 84, [5], (-1), 0, []) else none))))) else (bif Nat.blt pc 96 then (bif Nat.blt pc 90 then (bif Nat.blt pc 87 then (bif Nat.beq pc 84 then some (.goto (-48), 87, [36], 0, 0, []) else none) else (bif Nat.beq pc 87 then some (.iinc 4 1, 90, [4], 1, 0, []) else none)) else (bif Nat.blt pc 93 then (bif Nat.beq pc 90 then some (.goto (-72), 93, [18], 0, 0, []) else none) else (bif Nat.blt pc 94 then (bif Nat.beq pc 93 then some (.iconst 0, 94, [], 0, 0, []) else none) else (bif Nat.beq pc 94 then some (.istore 4, 96, [4], 0, 0, []) else none)))) else (bif Nat.blt pc 99 then (bif Nat.blt pc 97 then (bif Nat.beq pc 96 then some (.iconst 0, 97, [], 0, 0, []) else none) else (bif Nat.beq pc 97 then some (.istore 5, 99, [5], 0, 0, []) else none)) else (bif Nat.blt pc 101 then (bif Nat.beq pc 99 then some (.iload 5, 101, [5], 0, 0, []) else none) else (bif Nat.blt pc 102 then (bif Nat.beq pc 101 then some (.aload_n 0, 102, [0], 0, 0, []) else none) else (bif Nat.beq pc 102 then some (.getfield 30, 105, [9, 6, 2, 113, 0], 0, 0, []) else none)))))) else (bif Nat.blt pc 120 then (bif Nat.blt pc 113 then (bif Nat.blt pc 109 then (bif Nat.blt pc 106 then (bif Nat.beq pc 105 then some (.arraylength, 106, [], 0, 0, []) else none) else (bif Nat.beq pc 106 then some (.if_icmp .ge 32, 109, [138], 0, 0, []) else none)) else (bif Nat.blt pc 111 then (bif Nat.beq pc 109 then some (.iload 5, 111, [5], 0, 0, []) else none) else (bif Nat.blt pc 112 then (bif Nat.beq pc 111 then some (.i2l, 112, [], 0, 0, []) else none) else (bif Nat.beq pc 112 then some (.iload_n 3, 113, [3], 0, 0, []) else none)))) else (bif Nat.blt pc 115 then (bif Nat.blt pc 114 then (bif Nat.beq pc 113 then some (.i2l, 114, [], 0, 0, []) else none) else (bif Nat.beq pc 114 then some (.lmul, 115, [], 0, 0, []) else none)) else (bif Nat.blt pc 116 then (bif Nat.beq pc 115 then some (.lload_n 1, 116, [1], 0, 0, []) else none) else (bif Nat.blt pc 117 then (bif Nat.beq pc 116 then some (.lcmp, 117, [], 0, 0, []) else none) else (bif Nat.beq pc 117 then some (.ifCond .ge 15, 120, [132], 0, 0, []) else none))))) else (bif Nat.blt pc 129 then (bif Nat.blt pc 123 then (bif Nat.blt pc 122 then (bif Nat.beq pc 120 then some (.iload 4, 122, [4], 0, 0, []) else none) else (bif Nat.beq pc 122 then some (.aload_n 0, 123, [0], 0, 0, []) else none)) else (bif Nat.blt pc 126 then (bif Nat.beq pc 123 then some (.getfield 30, 126, [9, 6, 2, 113, 0], 0, 0, []) else none) else (bif Nat.blt pc 128 then (bif Nat.beq pc 126 then some (.iload 5, 128, [5], 0, 0, []) else none) else (bif Nat.beq pc 128 then some (.iaload, 129, [], 0, 0, []) else none)))) else (bif Nat.blt pc 135 then (bif Nat.blt pc 130 then (bif Nat.beq pc 129 then some (.iadd, 130, [], 0, 0, []) else none) else (bif Nat.blt pc 132 then (bif Nat.beq pc 130 then some (.istore 4, 132, [4], 0, 0, []) else none) else (bif Nat.beq pc 132 then some (.iinc 5 1, 135, [5], 1, 0, []) else none))) else (bif Nat.blt pc 138 then (bif Nat.beq pc 135 then some (.goto (-36), 138, [99], 0, 0, []) else none) else (bif Nat.blt pc 140 then (bif Nat.beq pc 138 then some (.iload 4, 140, [4], 0, 0, []) else none) else (bif Nat.beq pc 140 then some (.ireturn, 141, [0], 0, 0, []) else none))))))))
theorem okX8_waysBelow : ∀ pc Y, pfX8_waysBelow pc = some Y → OKI m_X8_waysBelow pc Y := fun pc Y => ((bt_node (bt_node (bt_node (bt_node (bt_node (bt_node (bt_leaf (P := OKI m_X8_waysBelow) oX8_waysBelow_0) (bt_leaf (P := OKI m_X8_waysBelow) oX8_waysBelow_1)) (bt_node (bt_leaf (P := OKI m_X8_waysBelow) oX8_waysBelow_4) (bt_node (bt_leaf (P := OKI m_X8_waysBelow) oX8_waysBelow_5) (bt_leaf (P := OKI m_X8_waysBelow) oX8_waysBelow_8)))) (bt_node (bt_node (bt_leaf (P := OKI m_X8_waysBelow) oX8_waysBelow_9) (bt_leaf (P := OKI m_X8_waysBelow) oX8_waysBelow_12)) (bt_node (bt_leaf (P := OKI m_X8_waysBelow) oX8_waysBelow_13) (bt_node (bt_leaf (P := OKI m_X8_waysBelow) oX8_waysBelow_14) (bt_leaf (P := OKI m_X8_waysBelow) oX8_waysBelow_15))))) (bt_node (bt_node (bt_node (bt_leaf (P := OKI m_X8_waysBelow) oX8_waysBelow_16) (bt_leaf (P := OKI m_X8_waysBelow) oX8_waysBelow_18)) (bt_node (bt_leaf (P := OKI m_X8_waysBelow) oX8_waysBelow_20) (bt_node (bt_leaf (P := OKI m_X8_waysBelow) oX8_waysBelow_21) (bt_leaf (P := OKI m_X8_waysBelow) oX8_waysBelow_24)))) (bt_node (bt_node (bt_leaf (P := OKI m_X8_waysBelow) oX8_waysBelow_27) (bt_leaf (P := OKI m_X8_waysBelow) oX8_waysBelow_28)) (bt_node (bt_leaf (P := OKI m_X8_waysBelow) oX8_waysBelow_31) (bt_node (bt_leaf (P := OKI m_X8_waysBelow) oX8_waysBelow_32) (bt_leaf (P := OKI m_X8_waysBelow) oX8_waysBelow_33)))))) (bt_node (bt_node (bt_node (bt_node (bt_leaf (P := OKI m_X8_waysBelow) oX8_waysBelow_34) (bt_leaf (P := OKI m_X8_waysBelow) oX8_waysBelow_36)) (bt_node (bt_leaf (P := OKI m_X8_waysBelow) oX8_waysBelow_38) (bt_node (bt_leaf (P := OKI m_X8_waysBelow) oX8_waysBelow_39) (bt_leaf (P := OKI m_X8_waysBelow) oX8_waysBelow_42)))) (bt_node (bt_node (bt_leaf (P := OKI m_X8_waysBelow) oX8_waysBelow_43) (bt_leaf (P := OKI m_X8_waysBelow) oX8_waysBelow_46)) (bt_node (bt_leaf (P := OKI m_X8_waysBelow) oX8_waysBelow_48) (bt_node (bt_leaf (P := OKI m_X8_waysBelow) oX8_waysBelow_49) (bt_leaf (P := OKI m_X8_waysBelow) oX8_waysBelow_50))))) (bt_node (bt_node (bt_node (bt_leaf (P := OKI m_X8_waysBelow) oX8_waysBelow_51) (bt_leaf (P := OKI m_X8_waysBelow) oX8_waysBelow_54)) (bt_node (bt_leaf (P := OKI m_X8_waysBelow) oX8_waysBelow_56) (bt_node (bt_leaf (P := OKI m_X8_waysBelow) oX8_waysBelow_57) (bt_leaf (P := OKI m_X8_waysBelow) oX8_waysBelow_58)))) (bt_node (bt_node (bt_leaf (P := OKI m_X8_waysBelow) oX8_waysBelow_59) (bt_leaf (P := OKI m_X8_waysBelow) oX8_waysBelow_61)) (bt_node (bt_leaf (P := OKI m_X8_waysBelow) oX8_waysBelow_62) (bt_node (bt_leaf (P := OKI m_X8_waysBelow) oX8_waysBelow_65) (bt_leaf (P := OKI m_X8_waysBelow) oX8_waysBelow_66))))))) (bt_node (bt_node (bt_node (bt_node (bt_node (bt_leaf (P := OKI m_X8_waysBelow) oX8_waysBelow_69) (bt_leaf (P := OKI m_X8_waysBelow) oX8_waysBelow_71)) (bt_node (bt_leaf (P := OKI m_X8_waysBelow) oX8_waysBelow_72) (bt_node (bt_leaf (P := OKI m_X8_waysBelow) oX8_waysBelow_73) (bt_leaf (P := OKI m_X8_waysBelow) oX8_waysBelow_74)))) (bt_node (bt_node (bt_leaf (P := OKI m_X8_waysBelow) oX8_waysBelow_77) (bt_leaf (P := OKI m_X8_waysBelow) oX8_waysBelow_78)) (bt_node (bt_leaf (P := OKI m_X8_waysBelow) oX8_waysBelow_79) (bt_node (bt_leaf (P := OKI m_X8_waysBelow) oX8_waysBelow_80) (bt_leaf (P := OKI m_X8_waysBelow) oX8_waysBelow_81))))) (bt_node (bt_node (bt_node (bt_leaf (P := OKI m_X8_waysBelow) oX8_waysBelow_84) (bt_leaf (P := OKI m_X8_waysBelow) oX8_waysBelow_87)) (bt_node (bt_leaf (P := OKI m_X8_waysBelow) oX8_waysBelow_90) (bt_node (bt_leaf (P := OKI m_X8_waysBelow) oX8_waysBelow_93) (bt_leaf (P := OKI m_X8_waysBelow) oX8_waysBelow_94)))) (bt_node (bt_node (bt_leaf (P := OKI m_X8_waysBelow) oX8_waysBelow_96) (bt_leaf (P := OKI m_X8_waysBelow) oX8_waysBelow_97)) (bt_node (bt_leaf (P := OKI m_X8_waysBelow) oX8_waysBelow_99) (bt_node (bt_leaf (P := OKI m_X8_waysBelow) oX8_waysBelow_101) (bt_leaf (P := OKI m_X8_waysBelow) oX8_waysBelow_102)))))) (bt_node (bt_node (bt_node (bt_node (bt_leaf (P := OKI m_X8_waysBelow) oX8_waysBelow_105) (bt_leaf (P := OKI m_X8_waysBelow) oX8_waysBelow_106)) (bt_node (bt_leaf (P := OKI m_X8_waysBelow) oX8_waysBelow_109) (bt_node (bt_leaf (P := OKI m_X8_waysBelow) oX8_waysBelow_111) (bt_leaf (P := OKI m_X8_waysBelow) oX8_waysBelow_112)))) (bt_node (bt_node (bt_leaf (P := OKI m_X8_waysBelow) oX8_waysBelow_113) (bt_leaf (P := OKI m_X8_waysBelow) oX8_waysBelow_114)) (bt_node (bt_leaf (P := OKI m_X8_waysBelow) oX8_waysBelow_115) (bt_node (bt_leaf (P := OKI m_X8_waysBelow) oX8_waysBelow_116) (bt_leaf (P := OKI m_X8_waysBelow) oX8_waysBelow_117))))) (bt_node (bt_node (bt_node (bt_leaf (P := OKI m_X8_waysBelow) oX8_waysBelow_120) (bt_leaf (P := OKI m_X8_waysBelow) oX8_waysBelow_122)) (bt_node (bt_leaf (P := OKI m_X8_waysBelow) oX8_waysBelow_123) (bt_node (bt_leaf (P := OKI m_X8_waysBelow) oX8_waysBelow_126) (bt_leaf (P := OKI m_X8_waysBelow) oX8_waysBelow_128)))) (bt_node (bt_node (bt_leaf (P := OKI m_X8_waysBelow) oX8_waysBelow_129) (bt_node (bt_leaf (P := OKI m_X8_waysBelow) oX8_waysBelow_130) (bt_leaf (P := OKI m_X8_waysBelow) oX8_waysBelow_132))) (bt_node (bt_leaf (P := OKI m_X8_waysBelow) oX8_waysBelow_135) (bt_node (bt_leaf (P := OKI m_X8_waysBelow) oX8_waysBelow_138) (bt_leaf (P := OKI m_X8_waysBelow) oX8_waysBelow_140)))))))) : pfX8_waysBelow pc = some Y → OKI m_X8_waysBelow pc Y)
def stpX8_waysBelow (pc : Nat) : Option (List Bool) := (bif Nat.blt pc 78 then (bif Nat.blt pc 36 then (bif Nat.beq pc 18 then some [true, true, false, true, true, false] else none) else (bif Nat.beq pc 36 then some [true, true, false, true, true, true] else none)) else (bif Nat.blt pc 99 then (bif Nat.beq pc 78 then some [true, true, false, true, true, true] else none) else (bif Nat.blt pc 132 then (bif Nat.beq pc 99 then some [true, true, false, true, true, true] else none) else (bif Nat.beq pc 132 then some [true, true, false, true, true, true] else none))))
def bX8_waysBelow_0 (d rc rs : Nat) (t : Nat) (a1 : Int64) (a2 : Int32) (σ : XH) (Q : XV → XH → Prop) : Prop :=
  ((hr σ 9 t 6 = some (113, t) ∧ (1 ≤ d ∧ Ec (d - 1) 0 0 m_J7_fill_53178 [vR (some (113, t)), vI 0] σ (kU fun h1 => ((hr h1 9 t 6 = some (113, t) ∧ ((vp_in 0 (hn h1 113 t) ∧ (∀ h2, h2 = wI h1 113 t (0 : Int32).toNatClampNeg 1 → Ex d rc rs m_X8_waysBelow 18 [vR (some (9, t)), vL a1, vU, vI a2, vI 0, vU] [] h2 Q)))))))))
theorem sX8_waysBelow_0 {d rc rs : Nat} {t : Nat} {a1 : Int64} {a2 : Int32} {σ : XH} {Q : XV → XH → Prop} (h : bX8_waysBelow_0 d rc rs t a1 a2 σ Q) : Ex d rc rs m_X8_waysBelow 0 [vR (some (9, t)), vL a1, vU, vI a2, vU, vU] [] σ Q :=
  xtree_sound (stop := stpX8_waysBelow) okX8_waysBelow 13 _ _ _ _ _ _ h
def bX8_waysBelow_18 (d rc rs : Nat) (t : Nat) (l1 : Int64) (l3 : Int32) (l4 : Int32) (σ : XH) (Q : XV → XH → Prop) : Prop :=
  (((l4 < (hi σ 9 t 7) → ((hr σ 9 t 6 = some (113, t) ∧ (Ex d rc rs m_X8_waysBelow 36 [vR (some (9, t)), vL l1, vU, vI l3, vI l4, vI ((Int32.ofNat (hn σ 113 t)) - 1)] [] σ Q)))) ∧ (¬ l4 < (hi σ 9 t 7) → Ex d rc rs m_X8_waysBelow 99 [vR (some (9, t)), vL l1, vU, vI l3, vI 0, vI 0] [] σ Q)))
theorem sX8_waysBelow_18 {d rc rs : Nat} {t : Nat} {l1 : Int64} {l3 : Int32} {l4 : Int32} {σ : XH} {Q : XV → XH → Prop} (h : bX8_waysBelow_18 d rc rs t l1 l3 l4 σ Q) : Ex d rc rs m_X8_waysBelow 18 [vR (some (9, t)), vL l1, vU, vI l3, vI l4, vU] [] σ Q :=
  xtree_sound (stop := stpX8_waysBelow) okX8_waysBelow 12 _ _ _ _ _ _ h
def bX8_waysBelow_36 (d rc rs : Nat) (t : Nat) (l1 : Int64) (l3 : Int32) (l4 : Int32) (l5 : Int32) (σ : XH) (Q : XV → XH → Prop) : Prop :=
  ((l5 < 1 → Ex d rc rs m_X8_waysBelow 18 [vR (some (9, t)), vL l1, vU, vI l3, vI (l4 + 1), vU] [] σ Q) ∧ (¬ l5 < 1 → ((hr σ 9 t 6 = some (113, t) ∧ ((vp_in l5 (hn σ 113 t) ∧ ((hr σ 9 t 6 = some (113, t) ∧ ((vp_in (l5 - 1) (hn σ 113 t) ∧ ((l5 < 2 → Ex d rc rs m_X8_waysBelow 78 [vR (some (9, t)), vL l1, vU, vI l3, vI l4, vI l5] [vI 0, vI (hi σ 113 t (l5 - 1).toNatClampNeg), vI (hi σ 113 t l5.toNatClampNeg), vI l5, vR (some (113, t))] σ Q) ∧ (¬ l5 < 2 → ((hr σ 9 t 6 = some (113, t) ∧ ((vp_in (l5 - 2) (hn σ 113 t) ∧ Ex d rc rs m_X8_waysBelow 78 [vR (some (9, t)), vL l1, vU, vI l3, vI l4, vI l5] [vI (hi σ 113 t (l5 - 2).toNatClampNeg), vI (hi σ 113 t (l5 - 1).toNatClampNeg), vI (hi σ 113 t l5.toNatClampNeg), vI l5, vR (some (113, t))] σ Q))))))))))))))))
theorem sX8_waysBelow_36 {d rc rs : Nat} {t : Nat} {l1 : Int64} {l3 : Int32} {l4 : Int32} {l5 : Int32} {σ : XH} {Q : XV → XH → Prop} (h : bX8_waysBelow_36 d rc rs t l1 l3 l4 l5 σ Q) : Ex d rc rs m_X8_waysBelow 36 [vR (some (9, t)), vL l1, vU, vI l3, vI l4, vI l5] [] σ Q :=
  xtree_sound (stop := stpX8_waysBelow) okX8_waysBelow 26 _ _ _ _ _ _ h
def bX8_waysBelow_78 (d rc rs : Nat) (t : Nat) (l1 : Int64) (l3 : Int32) (l4 : Int32) (l5 : Int32) (q0 : Int32) (q1 : Int32) (q2 : Int32) (q3 : Int32) (σ : XH) (Q : XV → XH → Prop) : Prop :=
  ((vp_in q3 (hn σ 113 t) ∧ (∀ h1, h1 = wI σ 113 t q3.toNatClampNeg (q2 + (q1 + q0)) → Ex d rc rs m_X8_waysBelow 36 [vR (some (9, t)), vL l1, vU, vI l3, vI l4, vI (l5 + (-1))] [] h1 Q)))
theorem sX8_waysBelow_78 {d rc rs : Nat} {t : Nat} {l1 : Int64} {l3 : Int32} {l4 : Int32} {l5 : Int32} {q0 : Int32} {q1 : Int32} {q2 : Int32} {q3 : Int32} {σ : XH} {Q : XV → XH → Prop} (h : bX8_waysBelow_78 d rc rs t l1 l3 l4 l5 q0 q1 q2 q3 σ Q) : Ex d rc rs m_X8_waysBelow 78 [vR (some (9, t)), vL l1, vU, vI l3, vI l4, vI l5] [vI q0, vI q1, vI q2, vI q3, vR (some (113, t))] σ Q :=
  xtree_sound (stop := stpX8_waysBelow) okX8_waysBelow 7 _ _ _ _ _ _ h
def bX8_waysBelow_99 (d rc rs : Nat) (t : Nat) (l1 : Int64) (l3 : Int32) (l4 : Int32) (l5 : Int32) (σ : XH) (Q : XV → XH → Prop) : Prop :=
  ((hr σ 9 t 6 = some (113, t) ∧ (((l5 < (Int32.ofNat (hn σ 113 t)) → (((lg_cmp (l5.toInt64 * l3.toInt64) l1) < 0 → ((hr σ 9 t 6 = some (113, t) ∧ ((vp_in l5 (hn σ 113 t) ∧ Ex d rc rs m_X8_waysBelow 132 [vR (some (9, t)), vL l1, vU, vI l3, vI (l4 + (hi σ 113 t l5.toNatClampNeg)), vI l5] [] σ Q))))) ∧ (¬ (lg_cmp (l5.toInt64 * l3.toInt64) l1) < 0 → Ex d rc rs m_X8_waysBelow 132 [vR (some (9, t)), vL l1, vU, vI l3, vI l4, vI l5] [] σ Q))) ∧ (¬ l5 < (Int32.ofNat (hn σ 113 t)) → Q (vI l4) σ)))))
theorem sX8_waysBelow_99 {d rc rs : Nat} {t : Nat} {l1 : Int64} {l3 : Int32} {l4 : Int32} {l5 : Int32} {σ : XH} {Q : XV → XH → Prop} (h : bX8_waysBelow_99 d rc rs t l1 l3 l4 l5 σ Q) : Ex d rc rs m_X8_waysBelow 99 [vR (some (9, t)), vL l1, vU, vI l3, vI l4, vI l5] [] σ Q :=
  xtree_sound (stop := stpX8_waysBelow) okX8_waysBelow 22 _ _ _ _ _ _ h
def bX8_waysBelow_132 (d rc rs : Nat) (t : Nat) (l1 : Int64) (l3 : Int32) (l4 : Int32) (l5 : Int32) (σ : XH) (Q : XV → XH → Prop) : Prop :=
  Ex d rc rs m_X8_waysBelow 99 [vR (some (9, t)), vL l1, vU, vI l3, vI l4, vI (l5 + 1)] [] σ Q
theorem sX8_waysBelow_132 {d rc rs : Nat} {t : Nat} {l1 : Int64} {l3 : Int32} {l4 : Int32} {l5 : Int32} {σ : XH} {Q : XV → XH → Prop} (h : bX8_waysBelow_132 d rc rs t l1 l3 l4 l5 σ Q) : Ex d rc rs m_X8_waysBelow 132 [vR (some (9, t)), vL l1, vU, vI l3, vI l4, vI l5] [] σ Q :=
  xtree_sound (stop := stpX8_waysBelow) okX8_waysBelow 4 _ _ _ _ _ _ h
/-! SpotTimers$Tape.<init>()V -/
theorem dX9_init_0 : decode cX9_init 0 = .ok (.aload_n 0, 1) := by decide +kernel
theorem dX9_init_1 : decode cX9_init 1 = .ok (.invokespecial 3, 3) := by decide +kernel
theorem dX9_init_4 : decode cX9_init 4 = .ok (.aload_n 0, 1) := by decide +kernel
theorem dX9_init_5 : decode cX9_init 5 = .ok (.bipush 60, 2) := by decide +kernel
theorem dX9_init_7 : decode cX9_init 7 = .ok (.newarray .int, 2) := by decide +kernel
theorem dX9_init_9 : decode cX9_init 9 = .ok (.putfield 9, 3) := by decide +kernel
theorem dX9_init_12 : decode cX9_init 12 = .ok (.aload_n 0, 1) := by decide +kernel
theorem dX9_init_13 : decode cX9_init 13 = .ok (.iconst (-1), 1) := by decide +kernel
theorem dX9_init_14 : decode cX9_init 14 = .ok (.putfield 15, 3) := by decide +kernel
theorem dX9_init_17 : decode cX9_init 17 = .ok (.aload_n 0, 1) := by decide +kernel
theorem dX9_init_18 : decode cX9_init 18 = .ok (.iconst 0, 1) := by decide +kernel
theorem dX9_init_19 : decode cX9_init 19 = .ok (.putfield 19, 3) := by decide +kernel
theorem dX9_init_22 : decode cX9_init 22 = .ok (.return_, 1) := by decide +kernel
theorem oX9_init_0 : OKI 61 0 (.aload_n 0, 1, [0], 0, 0, []) := And.intro dX9_init_0 (And.intro rfl (rfl))
theorem oX9_init_1 : OKI 61 1 (.invokespecial 3, 4, [9004], 0, 0, []) := And.intro dX9_init_1 (And.intro rfl (And.intro rfl (And.intro (tm_1 _ (List.mem_of_getElem? (i := 216) rfl) rfl) (And.intro (tm_1 _ (List.mem_of_getElem? (i := 32) rfl) rfl) (tm_1 _ (List.mem_of_getElem? (i := 33) rfl) rfl)))))
theorem oX9_init_4 : OKI 61 4 (.aload_n 0, 5, [0], 0, 0, []) := And.intro dX9_init_4 (And.intro rfl (rfl))
theorem oX9_init_5 : OKI 61 5 (.bipush 60, 7, [], 60, 0, []) := And.intro dX9_init_5 (And.intro rfl (by decide +kernel))
theorem oX9_init_7 : OKI 61 7 (.newarray .int, 9, [114], 0, 0, []) := And.intro dX9_init_7 (And.intro rfl (And.intro (And.intro (by decide) (by decide)) (tm_1 _ (List.mem_of_getElem? (i := 80) rfl) rfl)))
theorem oX9_init_9 : OKI 61 9 (.putfield 9, 12, [10, 0, 2], 0, 0, []) := And.intro dX9_init_9 (And.intro rfl (⟨(RX9, TX9, 3), "SpotTimers$Tape", rfl, by decide, tm_1 _ (List.mem_of_getElem? (i := 217) rfl) rfl, Or.inl rfl, Or.inr (And.intro rfl (And.intro rfl rfl)), rfl⟩))
theorem oX9_init_12 : OKI 61 12 (.aload_n 0, 13, [0], 0, 0, []) := And.intro dX9_init_12 (And.intro rfl (rfl))
theorem oX9_init_13 : OKI 61 13 (.iconst (-1), 14, [], (-1), 0, []) := And.intro dX9_init_13 (And.intro rfl (by decide +kernel))
theorem oX9_init_14 : OKI 61 14 (.putfield 15, 17, [10, 1, 0], 0, 0, []) := And.intro dX9_init_14 (And.intro rfl (⟨(RX9, TX9, 3), "SpotTimers$Tape", rfl, by decide, tm_1 _ (List.mem_of_getElem? (i := 219) rfl) rfl, Or.inl rfl, Or.inl rfl, rfl⟩))
theorem oX9_init_17 : OKI 61 17 (.aload_n 0, 18, [0], 0, 0, []) := And.intro dX9_init_17 (And.intro rfl (rfl))
theorem oX9_init_18 : OKI 61 18 (.iconst 0, 19, [], 0, 0, []) := And.intro dX9_init_18 (And.intro rfl (by decide +kernel))
theorem oX9_init_19 : OKI 61 19 (.putfield 19, 22, [10, 2, 0], 0, 0, []) := And.intro dX9_init_19 (And.intro rfl (⟨(RX9, TX9, 3), "SpotTimers$Tape", rfl, by decide, tm_1 _ (List.mem_of_getElem? (i := 221) rfl) rfl, Or.inl rfl, Or.inl rfl, rfl⟩))
theorem oX9_init_22 : OKI 61 22 (.return_, 23, [], 0, 0, []) := And.intro dX9_init_22 rfl
def pfX9_init (pc : Nat) : Option XE := (bif Nat.blt pc 12 then (bif Nat.blt pc 5 then (bif Nat.blt pc 1 then (bif Nat.beq pc 0 then some (.aload_n 0, 1, [0], 0, 0, []) else none) else (bif Nat.blt pc 4 then (bif Nat.beq pc 1 then some (.invokespecial 3, 4, [9004], 0, 0, []) else none) else (bif Nat.beq pc 4 then some (.aload_n 0, 5, [0], 0, 0, []) else none))) else (bif Nat.blt pc 7 then (bif Nat.beq pc 5 then some (.bipush 60, 7, [], 60, 0, []) else none) else (bif Nat.blt pc 9 then (bif Nat.beq pc 7 then some (.newarray .int, 9, [114], 0, 0, []) else none) else (bif Nat.beq pc 9 then some (.putfield 9, 12, [10, 0, 2], 0, 0, []) else none)))) else (bif Nat.blt pc 17 then (bif Nat.blt pc 13 then (bif Nat.beq pc 12 then some (.aload_n 0, 13, [0], 0, 0, []) else none) else (bif Nat.blt pc 14 then (bif Nat.beq pc 13 then some (.iconst (-1), 14, [], (-1), 0, []) else none) else (bif Nat.beq pc 14 then some (.putfield 15, 17, [10, 1, 0], 0, 0, []) else none))) else (bif Nat.blt pc 19 then (bif Nat.blt pc 18 then (bif Nat.beq pc 17 then some (.aload_n 0, 18, [0], 0, 0, []) else none) else (bif Nat.beq pc 18 then some (.iconst 0, 19, [], 0, 0, []) else none)) else (bif Nat.blt pc 22 then (bif Nat.beq pc 19 then some (.putfield 19, 22, [10, 2, 0], 0, 0, []) else none) else (bif Nat.beq pc 22 then some (.return_, 23, [], 0, 0, []) else none)))))
theorem okX9_init : ∀ pc Y, pfX9_init pc = some Y → OKI m_X9_init pc Y := fun pc Y => ((bt_node (bt_node (bt_node (bt_leaf (P := OKI m_X9_init) oX9_init_0) (bt_node (bt_leaf (P := OKI m_X9_init) oX9_init_1) (bt_leaf (P := OKI m_X9_init) oX9_init_4))) (bt_node (bt_leaf (P := OKI m_X9_init) oX9_init_5) (bt_node (bt_leaf (P := OKI m_X9_init) oX9_init_7) (bt_leaf (P := OKI m_X9_init) oX9_init_9)))) (bt_node (bt_node (bt_leaf (P := OKI m_X9_init) oX9_init_12) (bt_node (bt_leaf (P := OKI m_X9_init) oX9_init_13) (bt_leaf (P := OKI m_X9_init) oX9_init_14))) (bt_node (bt_node (bt_leaf (P := OKI m_X9_init) oX9_init_17) (bt_leaf (P := OKI m_X9_init) oX9_init_18)) (bt_node (bt_leaf (P := OKI m_X9_init) oX9_init_19) (bt_leaf (P := OKI m_X9_init) oX9_init_22))))) : pfX9_init pc = some Y → OKI m_X9_init pc Y)
def stpX9_init (_ : Nat) : Option (List Bool) := none
def bX9_init_0 (d rc rs : Nat) (t : Nat)  (σ : XH) (Q : XV → XH → Prop) : Prop :=
  ((1 ≤ d ∧ (¬ (60 : Int32) < 0 ∧ (60 : Int32).toNatClampNeg ≤ 100000 ∧ 1 ≤ rc ∧ (60 : Int32).toNatClampNeg ≤ rs ∧ (∀ h1, h1 = nwA σ 114 (60 : Int32).toNatClampNeg → ((∀ h2, h2 = wR h1 10 t 0 (some (114, hc σ 114)) → ((∀ h3, h3 = wI h2 10 t 1 (-1) → ((∀ h4, h4 = wI h3 10 t 2 0 → Q vU h4))))))))))
theorem sX9_init_0 {d rc rs : Nat} {t : Nat}  {σ : XH} {Q : XV → XH → Prop} (h : bX9_init_0 d rc rs t  σ Q) : Ex d rc rs m_X9_init 0 [vR (some (10, t))] [] σ Q :=
  xtree_sound (stop := stpX9_init) okX9_init 15 _ _ _ _ _ _ h
/-! SpotTimers$Tape.become(II)V -/
theorem dX9_become_0 : decode cX9_become 0 = .ok (.aload_n 0, 1) := by decide +kernel
theorem dX9_become_1 : decode cX9_become 1 = .ok (.iload_n 1, 1) := by decide +kernel
theorem dX9_become_2 : decode cX9_become 2 = .ok (.putfield 15, 3) := by decide +kernel
theorem dX9_become_5 : decode cX9_become 5 = .ok (.aload_n 0, 1) := by decide +kernel
theorem dX9_become_6 : decode cX9_become 6 = .ok (.iload_n 1, 1) := by decide +kernel
theorem dX9_become_7 : decode cX9_become 7 = .ok (.ifCond .ge 7, 3) := by decide +kernel
theorem dX9_become_10 : decode cX9_become 10 = .ok (.iconst 0, 1) := by decide +kernel
theorem dX9_become_11 : decode cX9_become 11 = .ok (.goto 13, 3) := by decide +kernel
theorem dX9_become_14 : decode cX9_become 14 = .ok (.iconst 0, 1) := by decide +kernel
theorem dX9_become_15 : decode cX9_become 15 = .ok (.iload_n 2, 1) := by decide +kernel
theorem dX9_become_16 : decode cX9_become 16 = .ok (.bipush 60, 2) := by decide +kernel
theorem dX9_become_18 : decode cX9_become 18 = .ok (.invokestatic 22, 3) := by decide +kernel
theorem dX9_become_21 : decode cX9_become 21 = .ok (.invokestatic 28, 3) := by decide +kernel
theorem dX9_become_24 : decode cX9_become 24 = .ok (.putfield 19, 3) := by decide +kernel
theorem dX9_become_27 : decode cX9_become 27 = .ok (.aload_n 0, 1) := by decide +kernel
theorem dX9_become_28 : decode cX9_become 28 = .ok (.getfield 9, 3) := by decide +kernel
theorem dX9_become_31 : decode cX9_become 31 = .ok (.iconst 0, 1) := by decide +kernel
theorem dX9_become_32 : decode cX9_become 32 = .ok (.invokestatic 31, 3) := by decide +kernel
theorem dX9_become_35 : decode cX9_become 35 = .ok (.return_, 1) := by decide +kernel
theorem oX9_become_0 : OKI 62 0 (.aload_n 0, 1, [0], 0, 0, []) := And.intro dX9_become_0 (And.intro rfl (rfl))
theorem oX9_become_1 : OKI 62 1 (.iload_n 1, 2, [1], 0, 0, []) := And.intro dX9_become_1 (And.intro rfl (rfl))
theorem oX9_become_2 : OKI 62 2 (.putfield 15, 5, [10, 1, 0], 0, 0, []) := And.intro dX9_become_2 (And.intro rfl (⟨(RX9, TX9, 3), "SpotTimers$Tape", rfl, by decide, tm_1 _ (List.mem_of_getElem? (i := 219) rfl) rfl, Or.inl rfl, Or.inl rfl, rfl⟩))
theorem oX9_become_5 : OKI 62 5 (.aload_n 0, 6, [0], 0, 0, []) := And.intro dX9_become_5 (And.intro rfl (rfl))
theorem oX9_become_6 : OKI 62 6 (.iload_n 1, 7, [1], 0, 0, []) := And.intro dX9_become_6 (And.intro rfl (rfl))
theorem oX9_become_7 : OKI 62 7 (.ifCond .ge 7, 10, [14], 0, 0, []) := And.intro dX9_become_7 (And.intro rfl (by decide))
theorem oX9_become_10 : OKI 62 10 (.iconst 0, 11, [], 0, 0, []) := And.intro dX9_become_10 (And.intro rfl (by decide +kernel))
theorem oX9_become_11 : OKI 62 11 (.goto 13, 14, [24], 0, 0, []) := And.intro dX9_become_11 (And.intro rfl (by decide))
theorem oX9_become_14 : OKI 62 14 (.iconst 0, 15, [], 0, 0, []) := And.intro dX9_become_14 (And.intro rfl (by decide +kernel))
theorem oX9_become_15 : OKI 62 15 (.iload_n 2, 16, [2], 0, 0, []) := And.intro dX9_become_15 (And.intro rfl (rfl))
theorem oX9_become_16 : OKI 62 16 (.bipush 60, 18, [], 60, 0, []) := And.intro dX9_become_16 (And.intro rfl (by decide +kernel))
theorem oX9_become_18 : OKI 62 18 (.invokestatic 22, 21, [254, 2, 0, 0, 0, 1], 0, 0, []) := And.intro dX9_become_18 (And.intro rfl (And.intro rfl (And.intro mo_J9_min_7cf53 (And.intro (Or.inl (tm_5 _ (List.mem_of_getElem? (i := 165) rfl) rfl)) (tm_2 _ (List.mem_of_getElem? (i := 139) rfl) rfl)))))
theorem oX9_become_21 : OKI 62 21 (.invokestatic 28, 24, [252, 2, 0, 0, 0, 1], 0, 0, []) := And.intro dX9_become_21 (And.intro rfl (And.intro rfl (And.intro mo_J9_max_7cf53 (And.intro (Or.inl (tm_5 _ (List.mem_of_getElem? (i := 166) rfl) rfl)) (tm_1 _ (List.mem_of_getElem? (i := 89) rfl) rfl)))))
theorem oX9_become_24 : OKI 62 24 (.putfield 19, 27, [10, 2, 0], 0, 0, []) := And.intro dX9_become_24 (And.intro rfl (⟨(RX9, TX9, 3), "SpotTimers$Tape", rfl, by decide, tm_1 _ (List.mem_of_getElem? (i := 221) rfl) rfl, Or.inl rfl, Or.inl rfl, rfl⟩))
theorem oX9_become_27 : OKI 62 27 (.aload_n 0, 28, [0], 0, 0, []) := And.intro dX9_become_27 (And.intro rfl (rfl))
theorem oX9_become_28 : OKI 62 28 (.getfield 9, 31, [10, 0, 2, 114, 0], 0, 0, []) := And.intro dX9_become_28 (And.intro rfl (⟨(RX9, TX9, 3), "SpotTimers$Tape", rfl, by decide, tm_1 _ (List.mem_of_getElem? (i := 217) rfl) rfl, Or.inl rfl, rfl, rfl⟩))
theorem oX9_become_31 : OKI 62 31 (.iconst 0, 32, [], 0, 0, []) := And.intro dX9_become_31 (And.intro rfl (by decide +kernel))
theorem oX9_become_32 : OKI 62 32 (.invokestatic 31, 35, [276, 2, 0, 0, 0, 0], 0, 0, []) := And.intro dX9_become_32 (And.intro rfl (And.intro rfl (And.intro mo_J7_fill_53178 (And.intro (Or.inl (tm_5 _ (List.mem_of_getElem? (i := 167) rfl) rfl)) (tm_3 _ (List.mem_of_getElem? (i := 227) rfl) rfl)))))
theorem oX9_become_35 : OKI 62 35 (.return_, 36, [], 0, 0, []) := And.intro dX9_become_35 rfl
def pfX9_become (pc : Nat) : Option XE := (bif Nat.blt pc 15 then (bif Nat.blt pc 6 then (bif Nat.blt pc 2 then (bif Nat.blt pc 1 then (bif Nat.beq pc 0 then some (.aload_n 0, 1, [0], 0, 0, []) else none) else (bif Nat.beq pc 1 then some (.iload_n 1, 2, [1], 0, 0, []) else none)) else (bif Nat.blt pc 5 then (bif Nat.beq pc 2 then some (.putfield 15, 5, [10, 1, 0], 0, 0, []) else none) else (bif Nat.beq pc 5 then some (.aload_n 0, 6, [0], 0, 0, []) else none))) else (bif Nat.blt pc 10 then (bif Nat.blt pc 7 then (bif Nat.beq pc 6 then some (.iload_n 1, 7, [1], 0, 0, []) else none) else (bif Nat.beq pc 7 then some (.ifCond .ge 7, 10, [14], 0, 0, []) else none)) else (bif Nat.blt pc 11 then (bif Nat.beq pc 10 then some (.iconst 0, 11, [], 0, 0, []) else none) else (bif Nat.blt pc 14 then (bif Nat.beq pc 11 then some (.goto 13, 14, [24], 0, 0, []) else none) else (bif Nat.beq pc 14 then some (.iconst 0, 15, [], 0, 0, []) else none))))) else (bif Nat.blt pc 27 then (bif Nat.blt pc 18 then (bif Nat.blt pc 16 then (bif Nat.beq pc 15 then some (.iload_n 2, 16, [2], 0, 0, []) else none) else (bif Nat.beq pc 16 then some (.bipush 60, 18, [], 60, 0, []) else none)) else (bif Nat.blt pc 21 then (bif Nat.beq pc 18 then some (.invokestatic 22, 21, [254, 2, 0, 0, 0, 1], 0, 0, []) else none) else (bif Nat.blt pc 24 then (bif Nat.beq pc 21 then some (.invokestatic 28, 24, [252, 2, 0, 0, 0, 1], 0, 0, []) else none) else (bif Nat.beq pc 24 then some (.putfield 19, 27, [10, 2, 0], 0, 0, []) else none)))) else (bif Nat.blt pc 31 then (bif Nat.blt pc 28 then (bif Nat.beq pc 27 then some (.aload_n 0, 28, [0], 0, 0, []) else none) else (bif Nat.beq pc 28 then some (.getfield 9, 31, [10, 0, 2, 114, 0], 0, 0, []) else none)) else (bif Nat.blt pc 32 then (bif Nat.beq pc 31 then some (.iconst 0, 32, [], 0, 0, []) else none) else (bif Nat.blt pc 35 then (bif Nat.beq pc 32 then some (.invokestatic 31, 35, [276, 2, 0, 0, 0, 0], 0, 0, []) else none) else (bif Nat.beq pc 35 then some (.return_, 36, [], 0, 0, []) else none))))))
theorem okX9_become : ∀ pc Y, pfX9_become pc = some Y → OKI m_X9_become pc Y := fun pc Y => ((bt_node (bt_node (bt_node (bt_node (bt_leaf (P := OKI m_X9_become) oX9_become_0) (bt_leaf (P := OKI m_X9_become) oX9_become_1)) (bt_node (bt_leaf (P := OKI m_X9_become) oX9_become_2) (bt_leaf (P := OKI m_X9_become) oX9_become_5))) (bt_node (bt_node (bt_leaf (P := OKI m_X9_become) oX9_become_6) (bt_leaf (P := OKI m_X9_become) oX9_become_7)) (bt_node (bt_leaf (P := OKI m_X9_become) oX9_become_10) (bt_node (bt_leaf (P := OKI m_X9_become) oX9_become_11) (bt_leaf (P := OKI m_X9_become) oX9_become_14))))) (bt_node (bt_node (bt_node (bt_leaf (P := OKI m_X9_become) oX9_become_15) (bt_leaf (P := OKI m_X9_become) oX9_become_16)) (bt_node (bt_leaf (P := OKI m_X9_become) oX9_become_18) (bt_node (bt_leaf (P := OKI m_X9_become) oX9_become_21) (bt_leaf (P := OKI m_X9_become) oX9_become_24)))) (bt_node (bt_node (bt_leaf (P := OKI m_X9_become) oX9_become_27) (bt_leaf (P := OKI m_X9_become) oX9_become_28)) (bt_node (bt_leaf (P := OKI m_X9_become) oX9_become_31) (bt_node (bt_leaf (P := OKI m_X9_become) oX9_become_32) (bt_leaf (P := OKI m_X9_become) oX9_become_35)))))) : pfX9_become pc = some Y → OKI m_X9_become pc Y)
def stpX9_become (pc : Nat) : Option (List Bool) := (bif Nat.beq pc 24 then some [true, false, false] else none)
def bX9_become_0 (d rc rs : Nat) (t : Nat) (a1 : Int32) (a2 : Int32) (σ : XH) (Q : XV → XH → Prop) : Prop :=
  ((∀ h1, h1 = wI σ 10 t 1 a1 → ((a1 < 0 → Ex d rc rs m_X9_become 24 [vR (some (10, t)), vU, vU] [vI 0, vR (some (10, t))] h1 Q) ∧ (¬ a1 < 0 → (1 ≤ d ∧ Ec (d - 1) 0 0 m_J9_min_7cf53 [vI a2, vI 60] h1 (kI fun x3 h2 => (1 ≤ d ∧ Ec (d - 1) 0 0 m_J9_max_7cf53 [vI 0, vI x3] h2 (kI fun x5 h4 => Ex d rc rs m_X9_become 24 [vR (some (10, t)), vU, vU] [vI x5, vR (some (10, t))] h4 Q))))))))
theorem sX9_become_0 {d rc rs : Nat} {t : Nat} {a1 : Int32} {a2 : Int32} {σ : XH} {Q : XV → XH → Prop} (h : bX9_become_0 d rc rs t a1 a2 σ Q) : Ex d rc rs m_X9_become 0 [vR (some (10, t)), vI a1, vI a2] [] σ Q :=
  xtree_sound (stop := stpX9_become) okX9_become 13 _ _ _ _ _ _ h
def bX9_become_24 (d rc rs : Nat) (t : Nat) (q0 : Int32) (σ : XH) (Q : XV → XH → Prop) : Prop :=
  ((∀ h1, h1 = wI σ 10 t 2 q0 → ((hr h1 10 t 0 = some (114, t) ∧ (1 ≤ d ∧ Ec (d - 1) 0 0 m_J7_fill_53178 [vR (some (114, t)), vI 0] h1 (kU fun h2 => Q vU h2))))))
theorem sX9_become_24 {d rc rs : Nat} {t : Nat} {q0 : Int32} {σ : XH} {Q : XV → XH → Prop} (h : bX9_become_24 d rc rs t q0 σ Q) : Ex d rc rs m_X9_become 24 [vR (some (10, t)), vU, vU] [vI q0, vR (some (10, t))] σ Q :=
  xtree_sound (stop := stpX9_become) okX9_become 8 _ _ _ _ _ _ h
/-! SpotTimers$Tape.holdsRow()Z -/
theorem dX9_holdsRow_0 : decode cX9_holdsRow 0 = .ok (.aload_n 0, 1) := by decide +kernel
theorem dX9_holdsRow_1 : decode cX9_holdsRow 1 = .ok (.getfield 15, 3) := by decide +kernel
theorem dX9_holdsRow_4 : decode cX9_holdsRow 4 = .ok (.ifCond .lt 7, 3) := by decide +kernel
theorem dX9_holdsRow_7 : decode cX9_holdsRow 7 = .ok (.iconst 1, 1) := by decide +kernel
theorem dX9_holdsRow_8 : decode cX9_holdsRow 8 = .ok (.goto 4, 3) := by decide +kernel
theorem dX9_holdsRow_11 : decode cX9_holdsRow 11 = .ok (.iconst 0, 1) := by decide +kernel
theorem dX9_holdsRow_12 : decode cX9_holdsRow 12 = .ok (.ireturn, 1) := by decide +kernel
theorem oX9_holdsRow_0 : OKI 63 0 (.aload_n 0, 1, [0], 0, 0, []) := And.intro dX9_holdsRow_0 (And.intro rfl (rfl))
theorem oX9_holdsRow_1 : OKI 63 1 (.getfield 15, 4, [10, 1, 0], 0, 0, []) := And.intro dX9_holdsRow_1 (And.intro rfl (⟨(RX9, TX9, 3), "SpotTimers$Tape", rfl, by decide, tm_1 _ (List.mem_of_getElem? (i := 219) rfl) rfl, Or.inl rfl, Or.inr (Or.inr (And.intro rfl (Or.inl rfl)))⟩))
theorem oX9_holdsRow_4 : OKI 63 4 (.ifCond .lt 7, 7, [11], 0, 0, []) := And.intro dX9_holdsRow_4 (And.intro rfl (by decide))
theorem oX9_holdsRow_7 : OKI 63 7 (.iconst 1, 8, [], 1, 0, []) := And.intro dX9_holdsRow_7 (And.intro rfl (by decide +kernel))
theorem oX9_holdsRow_8 : OKI 63 8 (.goto 4, 11, [12], 0, 0, []) := And.intro dX9_holdsRow_8 (And.intro rfl (by decide))
theorem oX9_holdsRow_11 : OKI 63 11 (.iconst 0, 12, [], 0, 0, []) := And.intro dX9_holdsRow_11 (And.intro rfl (by decide +kernel))
theorem oX9_holdsRow_12 : OKI 63 12 (.ireturn, 13, [3], 0, 0, []) := And.intro dX9_holdsRow_12 (Or.inr (Or.inl (And.intro rfl rfl)))
def pfX9_holdsRow (pc : Nat) : Option XE := (bif Nat.blt pc 7 then (bif Nat.blt pc 1 then (bif Nat.beq pc 0 then some (.aload_n 0, 1, [0], 0, 0, []) else none) else (bif Nat.blt pc 4 then (bif Nat.beq pc 1 then some (.getfield 15, 4, [10, 1, 0], 0, 0, []) else none) else (bif Nat.beq pc 4 then some (.ifCond .lt 7, 7, [11], 0, 0, []) else none))) else (bif Nat.blt pc 11 then (bif Nat.blt pc 8 then (bif Nat.beq pc 7 then some (.iconst 1, 8, [], 1, 0, []) else none) else (bif Nat.beq pc 8 then some (.goto 4, 11, [12], 0, 0, []) else none)) else (bif Nat.blt pc 12 then (bif Nat.beq pc 11 then some (.iconst 0, 12, [], 0, 0, []) else none) else (bif Nat.beq pc 12 then some (.ireturn, 13, [3], 0, 0, []) else none))))
theorem okX9_holdsRow : ∀ pc Y, pfX9_holdsRow pc = some Y → OKI m_X9_holdsRow pc Y := fun pc Y => ((bt_node (bt_node (bt_leaf (P := OKI m_X9_holdsRow) oX9_holdsRow_0) (bt_node (bt_leaf (P := OKI m_X9_holdsRow) oX9_holdsRow_1) (bt_leaf (P := OKI m_X9_holdsRow) oX9_holdsRow_4))) (bt_node (bt_node (bt_leaf (P := OKI m_X9_holdsRow) oX9_holdsRow_7) (bt_leaf (P := OKI m_X9_holdsRow) oX9_holdsRow_8)) (bt_node (bt_leaf (P := OKI m_X9_holdsRow) oX9_holdsRow_11) (bt_leaf (P := OKI m_X9_holdsRow) oX9_holdsRow_12)))) : pfX9_holdsRow pc = some Y → OKI m_X9_holdsRow pc Y)
def stpX9_holdsRow (pc : Nat) : Option (List Bool) := (bif Nat.beq pc 12 then some [false] else none)
def bX9_holdsRow_0 (d rc rs : Nat) (t : Nat)  (σ : XH) (Q : XV → XH → Prop) : Prop :=
  ((((hi σ 10 t 1) < 0 → Ex d rc rs m_X9_holdsRow 12 [vU] [vI 0] σ Q) ∧ (¬ (hi σ 10 t 1) < 0 → Ex d rc rs m_X9_holdsRow 12 [vU] [vI 1] σ Q)))
theorem sX9_holdsRow_0 {d rc rs : Nat} {t : Nat}  {σ : XH} {Q : XV → XH → Prop} (h : bX9_holdsRow_0 d rc rs t  σ Q) : Ex d rc rs m_X9_holdsRow 0 [vR (some (10, t))] [] σ Q :=
  xtree_sound (stop := stpX9_holdsRow) okX9_holdsRow 7 _ _ _ _ _ _ h
def bX9_holdsRow_12 (d rc rs : Nat) (q0 : Int32) (σ : XH) (Q : XV → XH → Prop) : Prop :=
  ((q0 = 0 ∨ q0 = 1) ∧ Q (vI q0) σ)
theorem sX9_holdsRow_12 {d rc rs : Nat} {q0 : Int32} {σ : XH} {Q : XV → XH → Prop} (h : bX9_holdsRow_12 d rc rs q0 σ Q) : Ex d rc rs m_X9_holdsRow 12 [vU] [vI q0] σ Q :=
  xtree_sound (stop := stpX9_holdsRow) okX9_holdsRow 3 _ _ _ _ _ _ h
/-! SpotTimers$Tape.hasPlace(I)Z -/
theorem dX9_hasPlace_0 : decode cX9_hasPlace 0 = .ok (.iload_n 1, 1) := by decide +kernel
theorem dX9_hasPlace_1 : decode cX9_hasPlace 1 = .ok (.ifCond .lt 15, 3) := by decide +kernel
theorem dX9_hasPlace_4 : decode cX9_hasPlace 4 = .ok (.iload_n 1, 1) := by decide +kernel
theorem dX9_hasPlace_5 : decode cX9_hasPlace 5 = .ok (.aload_n 0, 1) := by decide +kernel
theorem dX9_hasPlace_6 : decode cX9_hasPlace 6 = .ok (.getfield 19, 3) := by decide +kernel
theorem dX9_hasPlace_9 : decode cX9_hasPlace 9 = .ok (.if_icmp .ge 7, 3) := by decide +kernel
theorem dX9_hasPlace_12 : decode cX9_hasPlace 12 = .ok (.iconst 1, 1) := by decide +kernel
theorem dX9_hasPlace_13 : decode cX9_hasPlace 13 = .ok (.goto 4, 3) := by decide +kernel
theorem dX9_hasPlace_16 : decode cX9_hasPlace 16 = .ok (.iconst 0, 1) := by decide +kernel
theorem dX9_hasPlace_17 : decode cX9_hasPlace 17 = .ok (.ireturn, 1) := by decide +kernel
theorem oX9_hasPlace_0 : OKI 64 0 (.iload_n 1, 1, [1], 0, 0, []) := And.intro dX9_hasPlace_0 (And.intro rfl (rfl))
theorem oX9_hasPlace_1 : OKI 64 1 (.ifCond .lt 15, 4, [16], 0, 0, []) := And.intro dX9_hasPlace_1 (And.intro rfl (by decide))
theorem oX9_hasPlace_4 : OKI 64 4 (.iload_n 1, 5, [1], 0, 0, []) := And.intro dX9_hasPlace_4 (And.intro rfl (rfl))
theorem oX9_hasPlace_5 : OKI 64 5 (.aload_n 0, 6, [0], 0, 0, []) := And.intro dX9_hasPlace_5 (And.intro rfl (rfl))
theorem oX9_hasPlace_6 : OKI 64 6 (.getfield 19, 9, [10, 2, 0], 0, 0, []) := And.intro dX9_hasPlace_6 (And.intro rfl (⟨(RX9, TX9, 3), "SpotTimers$Tape", rfl, by decide, tm_1 _ (List.mem_of_getElem? (i := 221) rfl) rfl, Or.inl rfl, Or.inr (Or.inr (And.intro rfl (Or.inl rfl)))⟩))
theorem oX9_hasPlace_9 : OKI 64 9 (.if_icmp .ge 7, 12, [16], 0, 0, []) := And.intro dX9_hasPlace_9 (And.intro rfl (by decide))
theorem oX9_hasPlace_12 : OKI 64 12 (.iconst 1, 13, [], 1, 0, []) := And.intro dX9_hasPlace_12 (And.intro rfl (by decide +kernel))
theorem oX9_hasPlace_13 : OKI 64 13 (.goto 4, 16, [17], 0, 0, []) := And.intro dX9_hasPlace_13 (And.intro rfl (by decide))
theorem oX9_hasPlace_16 : OKI 64 16 (.iconst 0, 17, [], 0, 0, []) := And.intro dX9_hasPlace_16 (And.intro rfl (by decide +kernel))
theorem oX9_hasPlace_17 : OKI 64 17 (.ireturn, 18, [3], 0, 0, []) := And.intro dX9_hasPlace_17 (Or.inr (Or.inl (And.intro rfl rfl)))
def pfX9_hasPlace (pc : Nat) : Option XE := (bif Nat.blt pc 9 then (bif Nat.blt pc 4 then (bif Nat.blt pc 1 then (bif Nat.beq pc 0 then some (.iload_n 1, 1, [1], 0, 0, []) else none) else (bif Nat.beq pc 1 then some (.ifCond .lt 15, 4, [16], 0, 0, []) else none)) else (bif Nat.blt pc 5 then (bif Nat.beq pc 4 then some (.iload_n 1, 5, [1], 0, 0, []) else none) else (bif Nat.blt pc 6 then (bif Nat.beq pc 5 then some (.aload_n 0, 6, [0], 0, 0, []) else none) else (bif Nat.beq pc 6 then some (.getfield 19, 9, [10, 2, 0], 0, 0, []) else none)))) else (bif Nat.blt pc 13 then (bif Nat.blt pc 12 then (bif Nat.beq pc 9 then some (.if_icmp .ge 7, 12, [16], 0, 0, []) else none) else (bif Nat.beq pc 12 then some (.iconst 1, 13, [], 1, 0, []) else none)) else (bif Nat.blt pc 16 then (bif Nat.beq pc 13 then some (.goto 4, 16, [17], 0, 0, []) else none) else (bif Nat.blt pc 17 then (bif Nat.beq pc 16 then some (.iconst 0, 17, [], 0, 0, []) else none) else (bif Nat.beq pc 17 then some (.ireturn, 18, [3], 0, 0, []) else none)))))
theorem okX9_hasPlace : ∀ pc Y, pfX9_hasPlace pc = some Y → OKI m_X9_hasPlace pc Y := fun pc Y => ((bt_node (bt_node (bt_node (bt_leaf (P := OKI m_X9_hasPlace) oX9_hasPlace_0) (bt_leaf (P := OKI m_X9_hasPlace) oX9_hasPlace_1)) (bt_node (bt_leaf (P := OKI m_X9_hasPlace) oX9_hasPlace_4) (bt_node (bt_leaf (P := OKI m_X9_hasPlace) oX9_hasPlace_5) (bt_leaf (P := OKI m_X9_hasPlace) oX9_hasPlace_6)))) (bt_node (bt_node (bt_leaf (P := OKI m_X9_hasPlace) oX9_hasPlace_9) (bt_leaf (P := OKI m_X9_hasPlace) oX9_hasPlace_12)) (bt_node (bt_leaf (P := OKI m_X9_hasPlace) oX9_hasPlace_13) (bt_node (bt_leaf (P := OKI m_X9_hasPlace) oX9_hasPlace_16) (bt_leaf (P := OKI m_X9_hasPlace) oX9_hasPlace_17))))) : pfX9_hasPlace pc = some Y → OKI m_X9_hasPlace pc Y)
def stpX9_hasPlace (pc : Nat) : Option (List Bool) := (bif Nat.blt pc 17 then (bif Nat.beq pc 16 then some [false, false] else none) else (bif Nat.beq pc 17 then some [false, false] else none))
def bX9_hasPlace_0 (d rc rs : Nat) (t : Nat) (a1 : Int32) (σ : XH) (Q : XV → XH → Prop) : Prop :=
  ((a1 < 0 → Ex d rc rs m_X9_hasPlace 16 [vU, vU] [] σ Q) ∧ (¬ a1 < 0 → (((a1 < (hi σ 10 t 2) → Ex d rc rs m_X9_hasPlace 17 [vU, vU] [vI 1] σ Q) ∧ (¬ a1 < (hi σ 10 t 2) → Ex d rc rs m_X9_hasPlace 16 [vU, vU] [] σ Q)))))
theorem sX9_hasPlace_0 {d rc rs : Nat} {t : Nat} {a1 : Int32} {σ : XH} {Q : XV → XH → Prop} (h : bX9_hasPlace_0 d rc rs t a1 σ Q) : Ex d rc rs m_X9_hasPlace 0 [vR (some (10, t)), vI a1] [] σ Q :=
  xtree_sound (stop := stpX9_hasPlace) okX9_hasPlace 10 _ _ _ _ _ _ h
def bX9_hasPlace_16 (d rc rs : Nat)  (σ : XH) (Q : XV → XH → Prop) : Prop :=
  Ex d rc rs m_X9_hasPlace 17 [vU, vU] [vI 0] σ Q
theorem sX9_hasPlace_16 {d rc rs : Nat}  {σ : XH} {Q : XV → XH → Prop} (h : bX9_hasPlace_16 d rc rs  σ Q) : Ex d rc rs m_X9_hasPlace 16 [vU, vU] [] σ Q :=
  xtree_sound (stop := stpX9_hasPlace) okX9_hasPlace 3 _ _ _ _ _ _ h
def bX9_hasPlace_17 (d rc rs : Nat) (q0 : Int32) (σ : XH) (Q : XV → XH → Prop) : Prop :=
  ((q0 = 0 ∨ q0 = 1) ∧ Q (vI q0) σ)
theorem sX9_hasPlace_17 {d rc rs : Nat} {q0 : Int32} {σ : XH} {Q : XV → XH → Prop} (h : bX9_hasPlace_17 d rc rs q0 σ Q) : Ex d rc rs m_X9_hasPlace 17 [vU, vU] [vI q0] σ Q :=
  xtree_sound (stop := stpX9_hasPlace) okX9_hasPlace 3 _ _ _ _ _ _ h
/-! SpotTimers$Tape.hasPlaces(II)Z -/
theorem dX9_hasPlaces_0 : decode cX9_hasPlaces 0 = .ok (.iload_n 1, 1) := by decide +kernel
theorem dX9_hasPlaces_1 : decode cX9_hasPlaces 1 = .ok (.ifCond .lt 29, 3) := by decide +kernel
theorem dX9_hasPlaces_4 : decode cX9_hasPlaces 4 = .ok (.iload_n 2, 1) := by decide +kernel
theorem dX9_hasPlaces_5 : decode cX9_hasPlaces 5 = .ok (.ifCond .lt 25, 3) := by decide +kernel
theorem dX9_hasPlaces_8 : decode cX9_hasPlaces 8 = .ok (.iload_n 1, 1) := by decide +kernel
theorem dX9_hasPlaces_9 : decode cX9_hasPlaces 9 = .ok (.aload_n 0, 1) := by decide +kernel
theorem dX9_hasPlaces_10 : decode cX9_hasPlaces 10 = .ok (.getfield 19, 3) := by decide +kernel
theorem dX9_hasPlaces_13 : decode cX9_hasPlaces 13 = .ok (.if_icmp .gt 17, 3) := by decide +kernel
theorem dX9_hasPlaces_16 : decode cX9_hasPlaces 16 = .ok (.iload_n 2, 1) := by decide +kernel
theorem dX9_hasPlaces_17 : decode cX9_hasPlaces 17 = .ok (.aload_n 0, 1) := by decide +kernel
theorem dX9_hasPlaces_18 : decode cX9_hasPlaces 18 = .ok (.getfield 19, 3) := by decide +kernel
theorem dX9_hasPlaces_21 : decode cX9_hasPlaces 21 = .ok (.iload_n 1, 1) := by decide +kernel
theorem dX9_hasPlaces_22 : decode cX9_hasPlaces 22 = .ok (.isub, 1) := by decide +kernel
theorem dX9_hasPlaces_23 : decode cX9_hasPlaces 23 = .ok (.if_icmp .gt 7, 3) := by decide +kernel
theorem dX9_hasPlaces_26 : decode cX9_hasPlaces 26 = .ok (.iconst 1, 1) := by decide +kernel
theorem dX9_hasPlaces_27 : decode cX9_hasPlaces 27 = .ok (.goto 4, 3) := by decide +kernel
theorem dX9_hasPlaces_30 : decode cX9_hasPlaces 30 = .ok (.iconst 0, 1) := by decide +kernel
theorem dX9_hasPlaces_31 : decode cX9_hasPlaces 31 = .ok (.ireturn, 1) := by decide +kernel
theorem oX9_hasPlaces_0 : OKI 65 0 (.iload_n 1, 1, [1], 0, 0, []) := And.intro dX9_hasPlaces_0 (And.intro rfl (rfl))
theorem oX9_hasPlaces_1 : OKI 65 1 (.ifCond .lt 29, 4, [30], 0, 0, []) := And.intro dX9_hasPlaces_1 (And.intro rfl (by decide))
theorem oX9_hasPlaces_4 : OKI 65 4 (.iload_n 2, 5, [2], 0, 0, []) := And.intro dX9_hasPlaces_4 (And.intro rfl (rfl))
theorem oX9_hasPlaces_5 : OKI 65 5 (.ifCond .lt 25, 8, [30], 0, 0, []) := And.intro dX9_hasPlaces_5 (And.intro rfl (by decide))
theorem oX9_hasPlaces_8 : OKI 65 8 (.iload_n 1, 9, [1], 0, 0, []) := And.intro dX9_hasPlaces_8 (And.intro rfl (rfl))
theorem oX9_hasPlaces_9 : OKI 65 9 (.aload_n 0, 10, [0], 0, 0, []) := And.intro dX9_hasPlaces_9 (And.intro rfl (rfl))
theorem oX9_hasPlaces_10 : OKI 65 10 (.getfield 19, 13, [10, 2, 0], 0, 0, []) := And.intro dX9_hasPlaces_10 (And.intro rfl (⟨(RX9, TX9, 3), "SpotTimers$Tape", rfl, by decide, tm_1 _ (List.mem_of_getElem? (i := 221) rfl) rfl, Or.inl rfl, Or.inr (Or.inr (And.intro rfl (Or.inl rfl)))⟩))
theorem oX9_hasPlaces_13 : OKI 65 13 (.if_icmp .gt 17, 16, [30], 0, 0, []) := And.intro dX9_hasPlaces_13 (And.intro rfl (by decide))
theorem oX9_hasPlaces_16 : OKI 65 16 (.iload_n 2, 17, [2], 0, 0, []) := And.intro dX9_hasPlaces_16 (And.intro rfl (rfl))
theorem oX9_hasPlaces_17 : OKI 65 17 (.aload_n 0, 18, [0], 0, 0, []) := And.intro dX9_hasPlaces_17 (And.intro rfl (rfl))
theorem oX9_hasPlaces_18 : OKI 65 18 (.getfield 19, 21, [10, 2, 0], 0, 0, []) := And.intro dX9_hasPlaces_18 (And.intro rfl (⟨(RX9, TX9, 3), "SpotTimers$Tape", rfl, by decide, tm_1 _ (List.mem_of_getElem? (i := 221) rfl) rfl, Or.inl rfl, Or.inr (Or.inr (And.intro rfl (Or.inl rfl)))⟩))
theorem oX9_hasPlaces_21 : OKI 65 21 (.iload_n 1, 22, [1], 0, 0, []) := And.intro dX9_hasPlaces_21 (And.intro rfl (rfl))
theorem oX9_hasPlaces_22 : OKI 65 22 (.isub, 23, [], 0, 0, []) := And.intro dX9_hasPlaces_22 rfl
theorem oX9_hasPlaces_23 : OKI 65 23 (.if_icmp .gt 7, 26, [30], 0, 0, []) := And.intro dX9_hasPlaces_23 (And.intro rfl (by decide))
theorem oX9_hasPlaces_26 : OKI 65 26 (.iconst 1, 27, [], 1, 0, []) := And.intro dX9_hasPlaces_26 (And.intro rfl (by decide +kernel))
theorem oX9_hasPlaces_27 : OKI 65 27 (.goto 4, 30, [31], 0, 0, []) := And.intro dX9_hasPlaces_27 (And.intro rfl (by decide))
theorem oX9_hasPlaces_30 : OKI 65 30 (.iconst 0, 31, [], 0, 0, []) := And.intro dX9_hasPlaces_30 (And.intro rfl (by decide +kernel))
theorem oX9_hasPlaces_31 : OKI 65 31 (.ireturn, 32, [3], 0, 0, []) := And.intro dX9_hasPlaces_31 (Or.inr (Or.inl (And.intro rfl rfl)))
def pfX9_hasPlaces (pc : Nat) : Option XE := (bif Nat.blt pc 17 then (bif Nat.blt pc 8 then (bif Nat.blt pc 4 then (bif Nat.blt pc 1 then (bif Nat.beq pc 0 then some (.iload_n 1, 1, [1], 0, 0, []) else none) else (bif Nat.beq pc 1 then some (.ifCond .lt 29, 4, [30], 0, 0, []) else none)) else (bif Nat.blt pc 5 then (bif Nat.beq pc 4 then some (.iload_n 2, 5, [2], 0, 0, []) else none) else (bif Nat.beq pc 5 then some (.ifCond .lt 25, 8, [30], 0, 0, []) else none))) else (bif Nat.blt pc 10 then (bif Nat.blt pc 9 then (bif Nat.beq pc 8 then some (.iload_n 1, 9, [1], 0, 0, []) else none) else (bif Nat.beq pc 9 then some (.aload_n 0, 10, [0], 0, 0, []) else none)) else (bif Nat.blt pc 13 then (bif Nat.beq pc 10 then some (.getfield 19, 13, [10, 2, 0], 0, 0, []) else none) else (bif Nat.blt pc 16 then (bif Nat.beq pc 13 then some (.if_icmp .gt 17, 16, [30], 0, 0, []) else none) else (bif Nat.beq pc 16 then some (.iload_n 2, 17, [2], 0, 0, []) else none))))) else (bif Nat.blt pc 23 then (bif Nat.blt pc 21 then (bif Nat.blt pc 18 then (bif Nat.beq pc 17 then some (.aload_n 0, 18, [0], 0, 0, []) else none) else (bif Nat.beq pc 18 then some (.getfield 19, 21, [10, 2, 0], 0, 0, []) else none)) else (bif Nat.blt pc 22 then (bif Nat.beq pc 21 then some (.iload_n 1, 22, [1], 0, 0, []) else none) else (bif Nat.beq pc 22 then some (.isub, 23, [], 0, 0, []) else none))) else (bif Nat.blt pc 27 then (bif Nat.blt pc 26 then (bif Nat.beq pc 23 then some (.if_icmp .gt 7, 26, [30], 0, 0, []) else none) else (bif Nat.beq pc 26 then some (.iconst 1, 27, [], 1, 0, []) else none)) else (bif Nat.blt pc 30 then (bif Nat.beq pc 27 then some (.goto 4, 30, [31], 0, 0, []) else none) else (bif Nat.blt pc 31 then (bif Nat.beq pc 30 then some (.iconst 0, 31, [], 0, 0, []) else none) else (bif Nat.beq pc 31 then some (.ireturn, 32, [3], 0, 0, []) else none))))))
theorem okX9_hasPlaces : ∀ pc Y, pfX9_hasPlaces pc = some Y → OKI m_X9_hasPlaces pc Y := fun pc Y => ((bt_node (bt_node (bt_node (bt_node (bt_leaf (P := OKI m_X9_hasPlaces) oX9_hasPlaces_0) (bt_leaf (P := OKI m_X9_hasPlaces) oX9_hasPlaces_1)) (bt_node (bt_leaf (P := OKI m_X9_hasPlaces) oX9_hasPlaces_4) (bt_leaf (P := OKI m_X9_hasPlaces) oX9_hasPlaces_5))) (bt_node (bt_node (bt_leaf (P := OKI m_X9_hasPlaces) oX9_hasPlaces_8) (bt_leaf (P := OKI m_X9_hasPlaces) oX9_hasPlaces_9)) (bt_node (bt_leaf (P := OKI m_X9_hasPlaces) oX9_hasPlaces_10) (bt_node (bt_leaf (P := OKI m_X9_hasPlaces) oX9_hasPlaces_13) (bt_leaf (P := OKI m_X9_hasPlaces) oX9_hasPlaces_16))))) (bt_node (bt_node (bt_node (bt_leaf (P := OKI m_X9_hasPlaces) oX9_hasPlaces_17) (bt_leaf (P := OKI m_X9_hasPlaces) oX9_hasPlaces_18)) (bt_node (bt_leaf (P := OKI m_X9_hasPlaces) oX9_hasPlaces_21) (bt_leaf (P := OKI m_X9_hasPlaces) oX9_hasPlaces_22))) (bt_node (bt_node (bt_leaf (P := OKI m_X9_hasPlaces) oX9_hasPlaces_23) (bt_leaf (P := OKI m_X9_hasPlaces) oX9_hasPlaces_26)) (bt_node (bt_leaf (P := OKI m_X9_hasPlaces) oX9_hasPlaces_27) (bt_node (bt_leaf (P := OKI m_X9_hasPlaces) oX9_hasPlaces_30) (bt_leaf (P := OKI m_X9_hasPlaces) oX9_hasPlaces_31)))))) : pfX9_hasPlaces pc = some Y → OKI m_X9_hasPlaces pc Y)
def stpX9_hasPlaces (pc : Nat) : Option (List Bool) := (bif Nat.blt pc 31 then (bif Nat.beq pc 30 then some [false, false, false] else none) else (bif Nat.beq pc 31 then some [false, false, false] else none))
def bX9_hasPlaces_0 (d rc rs : Nat) (t : Nat) (a1 : Int32) (a2 : Int32) (σ : XH) (Q : XV → XH → Prop) : Prop :=
  ((a1 < 0 → Ex d rc rs m_X9_hasPlaces 30 [vU, vU, vU] [] σ Q) ∧ (¬ a1 < 0 → ((a2 < 0 → Ex d rc rs m_X9_hasPlaces 30 [vU, vU, vU] [] σ Q) ∧ (¬ a2 < 0 → ((((hi σ 10 t 2) < a1 → Ex d rc rs m_X9_hasPlaces 30 [vU, vU, vU] [] σ Q) ∧ (¬ (hi σ 10 t 2) < a1 → (((((hi σ 10 t 2) - a1) < a2 → Ex d rc rs m_X9_hasPlaces 30 [vU, vU, vU] [] σ Q) ∧ (¬ ((hi σ 10 t 2) - a1) < a2 → Ex d rc rs m_X9_hasPlaces 31 [vU, vU, vU] [vI 1] σ Q))))))))))
theorem sX9_hasPlaces_0 {d rc rs : Nat} {t : Nat} {a1 : Int32} {a2 : Int32} {σ : XH} {Q : XV → XH → Prop} (h : bX9_hasPlaces_0 d rc rs t a1 a2 σ Q) : Ex d rc rs m_X9_hasPlaces 0 [vR (some (10, t)), vI a1, vI a2] [] σ Q :=
  xtree_sound (stop := stpX9_hasPlaces) okX9_hasPlaces 18 _ _ _ _ _ _ h
def bX9_hasPlaces_30 (d rc rs : Nat)  (σ : XH) (Q : XV → XH → Prop) : Prop :=
  Ex d rc rs m_X9_hasPlaces 31 [vU, vU, vU] [vI 0] σ Q
theorem sX9_hasPlaces_30 {d rc rs : Nat}  {σ : XH} {Q : XV → XH → Prop} (h : bX9_hasPlaces_30 d rc rs  σ Q) : Ex d rc rs m_X9_hasPlaces 30 [vU, vU, vU] [] σ Q :=
  xtree_sound (stop := stpX9_hasPlaces) okX9_hasPlaces 3 _ _ _ _ _ _ h
def bX9_hasPlaces_31 (d rc rs : Nat) (q0 : Int32) (σ : XH) (Q : XV → XH → Prop) : Prop :=
  ((q0 = 0 ∨ q0 = 1) ∧ Q (vI q0) σ)
theorem sX9_hasPlaces_31 {d rc rs : Nat} {q0 : Int32} {σ : XH} {Q : XV → XH → Prop} (h : bX9_hasPlaces_31 d rc rs q0 σ Q) : Ex d rc rs m_X9_hasPlaces 31 [vU, vU, vU] [vI q0] σ Q :=
  xtree_sound (stop := stpX9_hasPlaces) okX9_hasPlaces 3 _ _ _ _ _ _ h
/-! SpotTimers$Tape.put(II)V -/
theorem dX9_put_0 : decode cX9_put 0 = .ok (.aload_n 0, 1) := by decide +kernel
theorem dX9_put_1 : decode cX9_put 1 = .ok (.iload_n 1, 1) := by decide +kernel
theorem dX9_put_2 : decode cX9_put 2 = .ok (.invokevirtual 37, 3) := by decide +kernel
theorem dX9_put_5 : decode cX9_put 5 = .ok (.ifCond .ne 4, 3) := by decide +kernel
theorem dX9_put_8 : decode cX9_put 8 = .ok (.return_, 1) := by decide +kernel
theorem dX9_put_9 : decode cX9_put 9 = .ok (.aload_n 0, 1) := by decide +kernel
theorem dX9_put_10 : decode cX9_put 10 = .ok (.getfield 15, 3) := by decide +kernel
theorem dX9_put_13 : decode cX9_put 13 = .ok (.ifCond .ne 14, 3) := by decide +kernel
theorem dX9_put_16 : decode cX9_put 16 = .ok (.aload_n 0, 1) := by decide +kernel
theorem dX9_put_17 : decode cX9_put 17 = .ok (.getfield 9, 3) := by decide +kernel
theorem dX9_put_20 : decode cX9_put 20 = .ok (.iload_n 1, 1) := by decide +kernel
theorem dX9_put_21 : decode cX9_put 21 = .ok (.iload_n 2, 1) := by decide +kernel
theorem dX9_put_22 : decode cX9_put 22 = .ok (.i2b, 1) := by decide +kernel
theorem dX9_put_23 : decode cX9_put 23 = .ok (.iastore, 1) := by decide +kernel
theorem dX9_put_24 : decode cX9_put 24 = .ok (.goto 29, 3) := by decide +kernel
theorem dX9_put_27 : decode cX9_put 27 = .ok (.aload_n 0, 1) := by decide +kernel
theorem dX9_put_28 : decode cX9_put 28 = .ok (.getfield 15, 3) := by decide +kernel
theorem dX9_put_31 : decode cX9_put 31 = .ok (.iconst 1, 1) := by decide +kernel
theorem dX9_put_32 : decode cX9_put 32 = .ok (.if_icmp .ne 14, 3) := by decide +kernel
theorem dX9_put_35 : decode cX9_put 35 = .ok (.aload_n 0, 1) := by decide +kernel
theorem dX9_put_36 : decode cX9_put 36 = .ok (.getfield 9, 3) := by decide +kernel
theorem dX9_put_39 : decode cX9_put 39 = .ok (.iload_n 1, 1) := by decide +kernel
theorem dX9_put_40 : decode cX9_put 40 = .ok (.iload_n 2, 1) := by decide +kernel
theorem dX9_put_41 : decode cX9_put 41 = .ok (.i2s, 1) := by decide +kernel
theorem dX9_put_42 : decode cX9_put 42 = .ok (.iastore, 1) := by decide +kernel
theorem dX9_put_43 : decode cX9_put 43 = .ok (.goto 10, 3) := by decide +kernel
theorem dX9_put_46 : decode cX9_put 46 = .ok (.aload_n 0, 1) := by decide +kernel
theorem dX9_put_47 : decode cX9_put 47 = .ok (.getfield 9, 3) := by decide +kernel
theorem dX9_put_50 : decode cX9_put 50 = .ok (.iload_n 1, 1) := by decide +kernel
theorem dX9_put_51 : decode cX9_put 51 = .ok (.iload_n 2, 1) := by decide +kernel
theorem dX9_put_52 : decode cX9_put 52 = .ok (.iastore, 1) := by decide +kernel
theorem dX9_put_53 : decode cX9_put 53 = .ok (.return_, 1) := by decide +kernel
theorem oX9_put_0 : OKI 66 0 (.aload_n 0, 1, [0], 0, 0, []) := And.intro dX9_put_0 (And.intro rfl (rfl))
theorem oX9_put_1 : OKI 66 1 (.iload_n 1, 2, [1], 0, 0, []) := And.intro dX9_put_1 (And.intro rfl (rfl))
theorem oX9_put_2 : OKI 66 2 (.invokevirtual 37, 5, [64, 2, 11, 0, 0, 1], 0, 0, []) := And.intro dX9_put_2 (And.intro rfl (And.intro (by decide) (And.intro (by decide) (And.intro mo_X9_hasPlace (And.intro (tm_5 _ (List.mem_of_getElem? (i := 182) rfl) rfl) (And.intro (tm_5 _ (List.mem_of_getElem? (i := 173) rfl) rfl) (And.intro (tm_5 _ (List.mem_of_getElem? (i := 174) rfl) rfl) (Or.inl ⟨(RX9, TX9, 3), rfl, rfl⟩))))))))
theorem oX9_put_5 : OKI 66 5 (.ifCond .ne 4, 8, [9], 0, 0, []) := And.intro dX9_put_5 (And.intro rfl (by decide))
theorem oX9_put_8 : OKI 66 8 (.return_, 9, [], 0, 0, []) := And.intro dX9_put_8 rfl
theorem oX9_put_9 : OKI 66 9 (.aload_n 0, 10, [0], 0, 0, []) := And.intro dX9_put_9 (And.intro rfl (rfl))
theorem oX9_put_10 : OKI 66 10 (.getfield 15, 13, [10, 1, 0], 0, 0, []) := And.intro dX9_put_10 (And.intro rfl (⟨(RX9, TX9, 3), "SpotTimers$Tape", rfl, by decide, tm_1 _ (List.mem_of_getElem? (i := 219) rfl) rfl, Or.inl rfl, Or.inr (Or.inr (And.intro rfl (Or.inl rfl)))⟩))
theorem oX9_put_13 : OKI 66 13 (.ifCond .ne 14, 16, [27], 0, 0, []) := And.intro dX9_put_13 (And.intro rfl (by decide))
theorem oX9_put_16 : OKI 66 16 (.aload_n 0, 17, [0], 0, 0, []) := And.intro dX9_put_16 (And.intro rfl (rfl))
theorem oX9_put_17 : OKI 66 17 (.getfield 9, 20, [10, 0, 2, 114, 0], 0, 0, []) := And.intro dX9_put_17 (And.intro rfl (⟨(RX9, TX9, 3), "SpotTimers$Tape", rfl, by decide, tm_1 _ (List.mem_of_getElem? (i := 217) rfl) rfl, Or.inl rfl, rfl, rfl⟩))
theorem oX9_put_20 : OKI 66 20 (.iload_n 1, 21, [1], 0, 0, []) := And.intro dX9_put_20 (And.intro rfl (rfl))
theorem oX9_put_21 : OKI 66 21 (.iload_n 2, 22, [2], 0, 0, []) := And.intro dX9_put_21 (And.intro rfl (rfl))
theorem oX9_put_22 : OKI 66 22 (.i2b, 23, [], 0, 0, []) := And.intro dX9_put_22 rfl
theorem oX9_put_23 : OKI 66 23 (.iastore, 24, [], 0, 0, []) := And.intro dX9_put_23 rfl
theorem oX9_put_24 : OKI 66 24 (.goto 29, 27, [53], 0, 0, []) := And.intro dX9_put_24 (And.intro rfl (by decide))
theorem oX9_put_27 : OKI 66 27 (.aload_n 0, 28, [0], 0, 0, []) := And.intro dX9_put_27 (And.intro rfl (rfl))
theorem oX9_put_28 : OKI 66 28 (.getfield 15, 31, [10, 1, 0], 0, 0, []) := And.intro dX9_put_28 (And.intro rfl (⟨(RX9, TX9, 3), "SpotTimers$Tape", rfl, by decide, tm_1 _ (List.mem_of_getElem? (i := 219) rfl) rfl, Or.inl rfl, Or.inr (Or.inr (And.intro rfl (Or.inl rfl)))⟩))
theorem oX9_put_31 : OKI 66 31 (.iconst 1, 32, [], 1, 0, []) := And.intro dX9_put_31 (And.intro rfl (by decide +kernel))
theorem oX9_put_32 : OKI 66 32 (.if_icmp .ne 14, 35, [46], 0, 0, []) := And.intro dX9_put_32 (And.intro rfl (by decide))
theorem oX9_put_35 : OKI 66 35 (.aload_n 0, 36, [0], 0, 0, []) := And.intro dX9_put_35 (And.intro rfl (rfl))
theorem oX9_put_36 : OKI 66 36 (.getfield 9, 39, [10, 0, 2, 114, 0], 0, 0, []) := And.intro dX9_put_36 (And.intro rfl (⟨(RX9, TX9, 3), "SpotTimers$Tape", rfl, by decide, tm_1 _ (List.mem_of_getElem? (i := 217) rfl) rfl, Or.inl rfl, rfl, rfl⟩))
theorem oX9_put_39 : OKI 66 39 (.iload_n 1, 40, [1], 0, 0, []) := And.intro dX9_put_39 (And.intro rfl (rfl))
theorem oX9_put_40 : OKI 66 40 (.iload_n 2, 41, [2], 0, 0, []) := And.intro dX9_put_40 (And.intro rfl (rfl))
theorem oX9_put_41 : OKI 66 41 (.i2s, 42, [], 0, 0, []) := And.intro dX9_put_41 rfl
theorem oX9_put_42 : OKI 66 42 (.iastore, 43, [], 0, 0, []) := And.intro dX9_put_42 rfl
theorem oX9_put_43 : OKI 66 43 (.goto 10, 46, [53], 0, 0, []) := And.intro dX9_put_43 (And.intro rfl (by decide))
theorem oX9_put_46 : OKI 66 46 (.aload_n 0, 47, [0], 0, 0, []) := And.intro dX9_put_46 (And.intro rfl (rfl))
theorem oX9_put_47 : OKI 66 47 (.getfield 9, 50, [10, 0, 2, 114, 0], 0, 0, []) := And.intro dX9_put_47 (And.intro rfl (⟨(RX9, TX9, 3), "SpotTimers$Tape", rfl, by decide, tm_1 _ (List.mem_of_getElem? (i := 217) rfl) rfl, Or.inl rfl, rfl, rfl⟩))
theorem oX9_put_50 : OKI 66 50 (.iload_n 1, 51, [1], 0, 0, []) := And.intro dX9_put_50 (And.intro rfl (rfl))
theorem oX9_put_51 : OKI 66 51 (.iload_n 2, 52, [2], 0, 0, []) := And.intro dX9_put_51 (And.intro rfl (rfl))
theorem oX9_put_52 : OKI 66 52 (.iastore, 53, [], 0, 0, []) := And.intro dX9_put_52 rfl
theorem oX9_put_53 : OKI 66 53 (.return_, 54, [], 0, 0, []) := And.intro dX9_put_53 rfl
def pfX9_put (pc : Nat) : Option XE := (bif Nat.blt pc 28 then (bif Nat.blt pc 16 then (bif Nat.blt pc 8 then (bif Nat.blt pc 2 then (bif Nat.blt pc 1 then (bif Nat.beq pc 0 then some (.aload_n 0, 1, [0], 0, 0, []) else none) else (bif Nat.beq pc 1 then some (.iload_n 1, 2, [1], 0, 0, []) else none)) else (bif Nat.blt pc 5 then (bif Nat.beq pc 2 then some (.invokevirtual 37, 5, [64, 2, 11, 0, 0, 1], 0, 0, []) else none) else (bif Nat.beq pc 5 then some (.ifCond .ne 4, 8, [9], 0, 0, []) else none))) else (bif Nat.blt pc 10 then (bif Nat.blt pc 9 then (bif Nat.beq pc 8 then some (.return_, 9, [], 0, 0, []) else none) else (bif Nat.beq pc 9 then some (.aload_n 0, 10, [0], 0, 0, []) else none)) else (bif Nat.blt pc 13 then (bif Nat.beq pc 10 then some (.getfield 15, 13, [10, 1, 0], 0, 0, []) else none) else (bif Nat.beq pc 13 then some (.ifCond .ne 14, 16, [27], 0, 0, []) else none)))) else (bif Nat.blt pc 22 then (bif Nat.blt pc 20 then (bif Nat.blt pc 17 then (bif Nat.beq pc 16 then some (.aload_n 0, 17, [0], 0, 0, []) else none) else (bif Nat.beq pc 17 then some (.getfield 9, 20, [10, 0, 2, 114, 0], 0, 0, []) else none)) else (bif Nat.blt pc 21 then (bif Nat.beq pc 20 then some (.iload_n 1, 21, [1], 0, 0, []) else none) else (bif Nat.beq pc 21 then some (.iload_n 2, 22, [2], 0, 0, []) else none))) else (bif Nat.blt pc 24 then (bif Nat.blt pc 23 then (bif Nat.beq pc 22 then some (.i2b, 23, [], 0, 0, []) else none) else (bif Nat.beq pc 23 then some (.iastore, 24, [], 0, 0, []) else none)) else (bif Nat.blt pc 27 then (bif Nat.beq pc 24 then some (.goto 29, 27, [53], 0, 0, []) else none) else (bif Nat.beq pc 27 then some (.aload_n 0, 28, [0], 0, 0, []) else none))))) else (bif Nat.blt pc 42 then (bif Nat.blt pc 36 then (bif Nat.blt pc 32 then (bif Nat.blt pc 31 then (bif Nat.beq pc 28 then some (.getfield 15, 31, [10, 1, 0], 0, 0, []) else none) else (bif Nat.beq pc 31 then some (.iconst 1, 32, [], 1, 0, []) else none)) else (bif Nat.blt pc 35 then (bif Nat.beq pc 32 then some (.if_icmp .ne 14, 35, [46], 0, 0, []) else none) else (bif Nat.beq pc 35 then some (.aload_n 0, 36, [0], 0, 0, []) else none))) else (bif Nat.blt pc 40 then (bif Nat.blt pc 39 then (bif Nat.beq pc 36 then some (.getfield 9, 39, [10, 0, 2, 114, 0], 0, 0, []) else none) else (bif Nat.beq pc 39 then some (.iload_n 1, 40, [1], 0, 0, []) else none)) else (bif Nat.blt pc 41 then (bif Nat.beq pc 40 then some (.iload_n 2, 41, [2], 0, 0, []) else none) else (bif Nat.beq pc 41 then some (.i2s, 42, [], 0, 0, []) else none)))) else (bif Nat.blt pc 50 then (bif Nat.blt pc 46 then (bif Nat.blt pc 43 then (bif Nat.beq pc 42 then some (.iastore, 43, [], 0, 0, []) else none) else (bif Nat.beq pc 43 then some (.goto 10, 46, [53], 0, 0, []) else none)) else (bif Nat.blt pc 47 then (bif Nat.beq pc 46 then some (.aload_n 0, 47, [0], 0, 0, []) else none) else (bif Nat.beq pc 47 then some (.getfield 9, 50, [10, 0, 2, 114, 0], 0, 0, []) else none))) else (bif Nat.blt pc 52 then (bif Nat.blt pc 51 then (bif Nat.beq pc 50 then some (.iload_n 1, 51, [1], 0, 0, []) else none) else (bif Nat.beq pc 51 then some (.iload_n 2, 52, [2], 0, 0, []) else none)) else (bif Nat.blt pc 53 then (bif Nat.beq pc 52 then some (.iastore, 53, [], 0, 0, []) else none) else (bif Nat.beq pc 53 then some (.return_, 54, [], 0, 0, []) else none))))))
theorem okX9_put : ∀ pc Y, pfX9_put pc = some Y → OKI m_X9_put pc Y := fun pc Y => ((bt_node (bt_node (bt_node (bt_node (bt_node (bt_leaf (P := OKI m_X9_put) oX9_put_0) (bt_leaf (P := OKI m_X9_put) oX9_put_1)) (bt_node (bt_leaf (P := OKI m_X9_put) oX9_put_2) (bt_leaf (P := OKI m_X9_put) oX9_put_5))) (bt_node (bt_node (bt_leaf (P := OKI m_X9_put) oX9_put_8) (bt_leaf (P := OKI m_X9_put) oX9_put_9)) (bt_node (bt_leaf (P := OKI m_X9_put) oX9_put_10) (bt_leaf (P := OKI m_X9_put) oX9_put_13)))) (bt_node (bt_node (bt_node (bt_leaf (P := OKI m_X9_put) oX9_put_16) (bt_leaf (P := OKI m_X9_put) oX9_put_17)) (bt_node (bt_leaf (P := OKI m_X9_put) oX9_put_20) (bt_leaf (P := OKI m_X9_put) oX9_put_21))) (bt_node (bt_node (bt_leaf (P := OKI m_X9_put) oX9_put_22) (bt_leaf (P := OKI m_X9_put) oX9_put_23)) (bt_node (bt_leaf (P := OKI m_X9_put) oX9_put_24) (bt_leaf (P := OKI m_X9_put) oX9_put_27))))) (bt_node (bt_node (bt_node (bt_node (bt_leaf (P := OKI m_X9_put) oX9_put_28) (bt_leaf (P := OKI m_X9_put) oX9_put_31)) (bt_node (bt_leaf (P := OKI m_X9_put) oX9_put_32) (bt_leaf (P := OKI m_X9_put) oX9_put_35))) (bt_node (bt_node (bt_leaf (P := OKI m_X9_put) oX9_put_36) (bt_leaf (P := OKI m_X9_put) oX9_put_39)) (bt_node (bt_leaf (P := OKI m_X9_put) oX9_put_40) (bt_leaf (P := OKI m_X9_put) oX9_put_41)))) (bt_node (bt_node (bt_node (bt_leaf (P := OKI m_X9_put) oX9_put_42) (bt_leaf (P := OKI m_X9_put) oX9_put_43)) (bt_node (bt_leaf (P := OKI m_X9_put) oX9_put_46) (bt_leaf (P := OKI m_X9_put) oX9_put_47))) (bt_node (bt_node (bt_leaf (P := OKI m_X9_put) oX9_put_50) (bt_leaf (P := OKI m_X9_put) oX9_put_51)) (bt_node (bt_leaf (P := OKI m_X9_put) oX9_put_52) (bt_leaf (P := OKI m_X9_put) oX9_put_53)))))) : pfX9_put pc = some Y → OKI m_X9_put pc Y)
def stpX9_put (pc : Nat) : Option (List Bool) := (bif Nat.beq pc 53 then some [false, false, false] else none)
def bX9_put_0 (d rc rs : Nat) (t : Nat) (a1 : Int32) (a2 : Int32) (σ : XH) (Q : XV → XH → Prop) : Prop :=
  ((1 ≤ d ∧ Ec (d - 1) 0 0 m_X9_hasPlace [vR (some (10, t)), vI a1] σ (kI fun x2 h1 => ((x2 = 0 → Q vU h1) ∧ (¬ x2 = 0 → ((((hi h1 10 t 1) = 0 → ((hr h1 10 t 0 = some (114, t) ∧ ((vp_in a1 (hn h1 114 t) ∧ (∀ h5, h5 = wI h1 114 t a1.toNatClampNeg a2.toInt8.toInt32 → Ex d rc rs m_X9_put 53 [vU, vU, vU] [] h5 Q)))))) ∧ (¬ (hi h1 10 t 1) = 0 → ((((hi h1 10 t 1) = 1 → ((hr h1 10 t 0 = some (114, t) ∧ ((vp_in a1 (hn h1 114 t) ∧ (∀ h4, h4 = wI h1 114 t a1.toNatClampNeg a2.toInt16.toInt32 → Ex d rc rs m_X9_put 53 [vU, vU, vU] [] h4 Q)))))) ∧ (¬ (hi h1 10 t 1) = 1 → ((hr h1 10 t 0 = some (114, t) ∧ ((vp_in a1 (hn h1 114 t) ∧ (∀ h3, h3 = wI h1 114 t a1.toNatClampNeg a2 → Ex d rc rs m_X9_put 53 [vU, vU, vU] [] h3 Q))))))))))))))))
theorem sX9_put_0 {d rc rs : Nat} {t : Nat} {a1 : Int32} {a2 : Int32} {σ : XH} {Q : XV → XH → Prop} (h : bX9_put_0 d rc rs t a1 a2 σ Q) : Ex d rc rs m_X9_put 0 [vR (some (10, t)), vI a1, vI a2] [] σ Q :=
  xtree_sound (stop := stpX9_put) okX9_put 20 _ _ _ _ _ _ h
def bX9_put_53 (d rc rs : Nat)  (σ : XH) (Q : XV → XH → Prop) : Prop :=
  Q vU σ
theorem sX9_put_53 {d rc rs : Nat}  {σ : XH} {Q : XV → XH → Prop} (h : bX9_put_53 d rc rs  σ Q) : Ex d rc rs m_X9_put 53 [vU, vU, vU] [] σ Q :=
  xtree_sound (stop := stpX9_put) okX9_put 3 _ _ _ _ _ _ h
