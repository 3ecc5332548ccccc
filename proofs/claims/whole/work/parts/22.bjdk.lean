/-! ===== blocks: 22.bjdk ===== -/
/-! java/lang/Integer.bitCount(I)I -/
theorem dJ6_bitCount_0f7a4_0 : decode cJ6_bitCount_0f7a4 0 = .ok (.iload_n 0, 1) := by decide +kernel
theorem dJ6_bitCount_0f7a4_1 : decode cJ6_bitCount_0f7a4 1 = .ok (.iload_n 0, 1) := by decide +kernel
theorem dJ6_bitCount_0f7a4_2 : decode cJ6_bitCount_0f7a4 2 = .ok (.iconst 1, 1) := by decide +kernel
theorem dJ6_bitCount_0f7a4_3 : decode cJ6_bitCount_0f7a4 3 = .ok (.iushr, 1) := by decide +kernel
theorem dJ6_bitCount_0f7a4_4 : decode cJ6_bitCount_0f7a4 4 = .ok (.ldc_w 265, 3) := by decide +kernel
theorem dJ6_bitCount_0f7a4_7 : decode cJ6_bitCount_0f7a4 7 = .ok (.iand, 1) := by decide +kernel
theorem dJ6_bitCount_0f7a4_8 : decode cJ6_bitCount_0f7a4 8 = .ok (.isub, 1) := by decide +kernel
theorem dJ6_bitCount_0f7a4_9 : decode cJ6_bitCount_0f7a4 9 = .ok (.istore_n 0, 1) := by decide +kernel
theorem dJ6_bitCount_0f7a4_10 : decode cJ6_bitCount_0f7a4 10 = .ok (.iload_n 0, 1) := by decide +kernel
theorem dJ6_bitCount_0f7a4_11 : decode cJ6_bitCount_0f7a4 11 = .ok (.ldc_w 266, 3) := by decide +kernel
theorem dJ6_bitCount_0f7a4_14 : decode cJ6_bitCount_0f7a4 14 = .ok (.iand, 1) := by decide +kernel
theorem dJ6_bitCount_0f7a4_15 : decode cJ6_bitCount_0f7a4 15 = .ok (.iload_n 0, 1) := by decide +kernel
theorem dJ6_bitCount_0f7a4_16 : decode cJ6_bitCount_0f7a4 16 = .ok (.iconst 2, 1) := by decide +kernel
theorem dJ6_bitCount_0f7a4_17 : decode cJ6_bitCount_0f7a4 17 = .ok (.iushr, 1) := by decide +kernel
theorem dJ6_bitCount_0f7a4_18 : decode cJ6_bitCount_0f7a4 18 = .ok (.ldc_w 266, 3) := by decide +kernel
theorem dJ6_bitCount_0f7a4_21 : decode cJ6_bitCount_0f7a4 21 = .ok (.iand, 1) := by decide +kernel
theorem dJ6_bitCount_0f7a4_22 : decode cJ6_bitCount_0f7a4 22 = .ok (.iadd, 1) := by decide +kernel
theorem dJ6_bitCount_0f7a4_23 : decode cJ6_bitCount_0f7a4 23 = .ok (.istore_n 0, 1) := by decide +kernel
theorem dJ6_bitCount_0f7a4_24 : decode cJ6_bitCount_0f7a4 24 = .ok (.iload_n 0, 1) := by decide +kernel
theorem dJ6_bitCount_0f7a4_25 : decode cJ6_bitCount_0f7a4 25 = .ok (.iload_n 0, 1) := by decide +kernel
theorem dJ6_bitCount_0f7a4_26 : decode cJ6_bitCount_0f7a4 26 = .ok (.iconst 4, 1) := by decide +kernel
theorem dJ6_bitCount_0f7a4_27 : decode cJ6_bitCount_0f7a4 27 = .ok (.iushr, 1) := by decide +kernel
theorem dJ6_bitCount_0f7a4_28 : decode cJ6_bitCount_0f7a4 28 = .ok (.iadd, 1) := by decide +kernel
theorem dJ6_bitCount_0f7a4_29 : decode cJ6_bitCount_0f7a4 29 = .ok (.ldc_w 267, 3) := by decide +kernel
theorem dJ6_bitCount_0f7a4_32 : decode cJ6_bitCount_0f7a4 32 = .ok (.iand, 1) := by decide +kernel
theorem dJ6_bitCount_0f7a4_33 : decode cJ6_bitCount_0f7a4 33 = .ok (.istore_n 0, 1) := by decide +kernel
theorem dJ6_bitCount_0f7a4_34 : decode cJ6_bitCount_0f7a4 34 = .ok (.iload_n 0, 1) := by decide +kernel
theorem dJ6_bitCount_0f7a4_35 : decode cJ6_bitCount_0f7a4 35 = .ok (.iload_n 0, 1) := by decide +kernel
theorem dJ6_bitCount_0f7a4_36 : decode cJ6_bitCount_0f7a4 36 = .ok (.bipush 8, 2) := by decide +kernel
theorem dJ6_bitCount_0f7a4_38 : decode cJ6_bitCount_0f7a4 38 = .ok (.iushr, 1) := by decide +kernel
theorem dJ6_bitCount_0f7a4_39 : decode cJ6_bitCount_0f7a4 39 = .ok (.iadd, 1) := by decide +kernel
theorem dJ6_bitCount_0f7a4_40 : decode cJ6_bitCount_0f7a4 40 = .ok (.istore_n 0, 1) := by decide +kernel
theorem dJ6_bitCount_0f7a4_41 : decode cJ6_bitCount_0f7a4 41 = .ok (.iload_n 0, 1) := by decide +kernel
theorem dJ6_bitCount_0f7a4_42 : decode cJ6_bitCount_0f7a4 42 = .ok (.iload_n 0, 1) := by decide +kernel
theorem dJ6_bitCount_0f7a4_43 : decode cJ6_bitCount_0f7a4 43 = .ok (.bipush 16, 2) := by decide +kernel
theorem dJ6_bitCount_0f7a4_45 : decode cJ6_bitCount_0f7a4 45 = .ok (.iushr, 1) := by decide +kernel
theorem dJ6_bitCount_0f7a4_46 : decode cJ6_bitCount_0f7a4 46 = .ok (.iadd, 1) := by decide +kernel
theorem dJ6_bitCount_0f7a4_47 : decode cJ6_bitCount_0f7a4 47 = .ok (.istore_n 0, 1) := by decide +kernel
theorem dJ6_bitCount_0f7a4_48 : decode cJ6_bitCount_0f7a4 48 = .ok (.iload_n 0, 1) := by decide +kernel
theorem dJ6_bitCount_0f7a4_49 : decode cJ6_bitCount_0f7a4 49 = .ok (.bipush 63, 2) := by decide +kernel
theorem dJ6_bitCount_0f7a4_51 : decode cJ6_bitCount_0f7a4 51 = .ok (.iand, 1) := by decide +kernel
theorem dJ6_bitCount_0f7a4_52 : decode cJ6_bitCount_0f7a4 52 = .ok (.ireturn, 1) := by decide +kernel
theorem oJ6_bitCount_0f7a4_0 : OKI 247 0 (.iload_n 0, 1, [0], 0, 0, []) := And.intro dJ6_bitCount_0f7a4_0 (And.intro rfl (rfl))
theorem oJ6_bitCount_0f7a4_1 : OKI 247 1 (.iload_n 0, 2, [0], 0, 0, []) := And.intro dJ6_bitCount_0f7a4_1 (And.intro rfl (rfl))
theorem oJ6_bitCount_0f7a4_2 : OKI 247 2 (.iconst 1, 3, [], 1, 0, []) := And.intro dJ6_bitCount_0f7a4_2 (And.intro rfl (by decide +kernel))
theorem oJ6_bitCount_0f7a4_3 : OKI 247 3 (.iushr, 4, [], 0, 0, []) := And.intro dJ6_bitCount_0f7a4_3 rfl
theorem oJ6_bitCount_0f7a4_4 : OKI 247 4 (.ldc_w 265, 7, [], 1431655765, 0, []) := And.intro dJ6_bitCount_0f7a4_4 (And.intro rfl (tm_5 _ (List.mem_of_getElem? (i := 31) rfl) rfl))
theorem oJ6_bitCount_0f7a4_7 : OKI 247 7 (.iand, 8, [], 0, 0, []) := And.intro dJ6_bitCount_0f7a4_7 rfl
theorem oJ6_bitCount_0f7a4_8 : OKI 247 8 (.isub, 9, [], 0, 0, []) := And.intro dJ6_bitCount_0f7a4_8 rfl
theorem oJ6_bitCount_0f7a4_9 : OKI 247 9 (.istore_n 0, 10, [0], 0, 0, []) := And.intro dJ6_bitCount_0f7a4_9 (And.intro rfl (And.intro rfl (by decide)))
theorem oJ6_bitCount_0f7a4_10 : OKI 247 10 (.iload_n 0, 11, [0], 0, 0, []) := And.intro dJ6_bitCount_0f7a4_10 (And.intro rfl (rfl))
theorem oJ6_bitCount_0f7a4_11 : OKI 247 11 (.ldc_w 266, 14, [], 858993459, 0, []) := And.intro dJ6_bitCount_0f7a4_11 (And.intro rfl (tm_5 _ (List.mem_of_getElem? (i := 32) rfl) rfl))
theorem oJ6_bitCount_0f7a4_14 : OKI 247 14 (.iand, 15, [], 0, 0, []) := And.intro dJ6_bitCount_0f7a4_14 rfl
theorem oJ6_bitCount_0f7a4_15 : OKI 247 15 (.iload_n 0, 16, [0], 0, 0, []) := And.intro dJ6_bitCount_0f7a4_15 (And.intro rfl (rfl))
theorem oJ6_bitCount_0f7a4_16 : OKI 247 16 (.iconst 2, 17, [], 2, 0, []) := And.intro dJ6_bitCount_0f7a4_16 (And.intro rfl (by decide +kernel))
theorem oJ6_bitCount_0f7a4_17 : OKI 247 17 (.iushr, 18, [], 0, 0, []) := And.intro dJ6_bitCount_0f7a4_17 rfl
theorem oJ6_bitCount_0f7a4_18 : OKI 247 18 (.ldc_w 266, 21, [], 858993459, 0, []) := And.intro dJ6_bitCount_0f7a4_18 (And.intro rfl (tm_5 _ (List.mem_of_getElem? (i := 32) rfl) rfl))
theorem oJ6_bitCount_0f7a4_21 : OKI 247 21 (.iand, 22, [], 0, 0, []) := And.intro dJ6_bitCount_0f7a4_21 rfl
theorem oJ6_bitCount_0f7a4_22 : OKI 247 22 (.iadd, 23, [], 0, 0, []) := And.intro dJ6_bitCount_0f7a4_22 rfl
theorem oJ6_bitCount_0f7a4_23 : OKI 247 23 (.istore_n 0, 24, [0], 0, 0, []) := And.intro dJ6_bitCount_0f7a4_23 (And.intro rfl (And.intro rfl (by decide)))
theorem oJ6_bitCount_0f7a4_24 : OKI 247 24 (.iload_n 0, 25, [0], 0, 0, []) := And.intro dJ6_bitCount_0f7a4_24 (And.intro rfl (rfl))
theorem oJ6_bitCount_0f7a4_25 : OKI 247 25 (.iload_n 0, 26, [0], 0, 0, []) := And.intro dJ6_bitCount_0f7a4_25 (And.intro rfl (rfl))
theorem oJ6_bitCount_0f7a4_26 : OKI 247 26 (.iconst 4, 27, [], 4, 0, []) := And.intro dJ6_bitCount_0f7a4_26 (And.intro rfl (by decide +kernel))
theorem oJ6_bitCount_0f7a4_27 : OKI 247 27 (.iushr, 28, [], 0, 0, []) := And.intro dJ6_bitCount_0f7a4_27 rfl
theorem oJ6_bitCount_0f7a4_28 : OKI 247 28 (.iadd, 29, [], 0, 0, []) := And.intro dJ6_bitCount_0f7a4_28 rfl
theorem oJ6_bitCount_0f7a4_29 : OKI 247 29 (.ldc_w 267, 32, [], 252645135, 0, []) := And.intro dJ6_bitCount_0f7a4_29 (And.intro rfl (tm_5 _ (List.mem_of_getElem? (i := 33) rfl) rfl))
theorem oJ6_bitCount_0f7a4_32 : OKI 247 32 (.iand, 33, [], 0, 0, []) := And.intro dJ6_bitCount_0f7a4_32 rfl
theorem oJ6_bitCount_0f7a4_33 : OKI 247 33 (.istore_n 0, 34, [0], 0, 0, []) := And.intro dJ6_bitCount_0f7a4_33 (And.intro rfl (And.intro rfl (by decide)))
theorem oJ6_bitCount_0f7a4_34 : OKI 247 34 (.iload_n 0, 35, [0], 0, 0, []) := And.intro dJ6_bitCount_0f7a4_34 (And.intro rfl (rfl))
theorem oJ6_bitCount_0f7a4_35 : OKI 247 35 (.iload_n 0, 36, [0], 0, 0, []) := And.intro dJ6_bitCount_0f7a4_35 (And.intro rfl (rfl))
theorem oJ6_bitCount_0f7a4_36 : OKI 247 36 (.bipush 8, 38, [], 8, 0, []) := And.intro dJ6_bitCount_0f7a4_36 (And.intro rfl (by decide +kernel))
theorem oJ6_bitCount_0f7a4_38 : OKI 247 38 (.iushr, 39, [], 0, 0, []) := And.intro dJ6_bitCount_0f7a4_38 rfl
theorem oJ6_bitCount_0f7a4_39 : OKI 247 39 (.iadd, 40, [], 0, 0, []) := And.intro dJ6_bitCount_0f7a4_39 rfl
theorem oJ6_bitCount_0f7a4_40 : OKI 247 40 (.istore_n 0, 41, [0], 0, 0, []) := And.intro dJ6_bitCount_0f7a4_40 (And.intro rfl (And.intro rfl (by decide)))
theorem oJ6_bitCount_0f7a4_41 : OKI 247 41 (.iload_n 0, 42, [0], 0, 0, []) := And.intro dJ6_bitCount_0f7a4_41 (And.intro rfl (rfl))
theorem oJ6_bitCount_0f7a4_42 : OKI 247 42 (.iload_n 0, 43, [0], 0, 0, []) := And.intro dJ6_bitCount_0f7a4_42 (And.intro rfl (rfl))
theorem oJ6_bitCount_0f7a4_43 : OKI 247 43 (.bipush 16, 45, [], 16, 0, []) := And.intro dJ6_bitCount_0f7a4_43 (And.intro rfl (by decide +kernel))
theorem oJ6_bitCount_0f7a4_45 : OKI 247 45 (.iushr, 46, [], 0, 0, []) := And.intro dJ6_bitCount_0f7a4_45 rfl
theorem oJ6_bitCount_0f7a4_46 : OKI 247 46 (.iadd, 47, [], 0, 0, []) := And.intro dJ6_bitCount_0f7a4_46 rfl
theorem oJ6_bitCount_0f7a4_47 : OKI 247 47 (.istore_n 0, 48, [0], 0, 0, []) := And.intro dJ6_bitCount_0f7a4_47 (And.intro rfl (And.intro rfl (by decide)))
theorem oJ6_bitCount_0f7a4_48 : OKI 247 48 (.iload_n 0, 49, [0], 0, 0, []) := And.intro dJ6_bitCount_0f7a4_48 (And.intro rfl (rfl))
theorem oJ6_bitCount_0f7a4_49 : OKI 247 49 (.bipush 63, 51, [], 63, 0, []) := And.intro dJ6_bitCount_0f7a4_49 (And.intro rfl (by decide +kernel))
theorem oJ6_bitCount_0f7a4_51 : OKI 247 51 (.iand, 52, [], 0, 0, []) := And.intro dJ6_bitCount_0f7a4_51 rfl
theorem oJ6_bitCount_0f7a4_52 : OKI 247 52 (.ireturn, 53, [0], 0, 0, []) := And.intro dJ6_bitCount_0f7a4_52 (Or.inl (And.intro rfl rfl))
def pfJ6_bitCount_0f7a4 (pc : Nat) : Option XE := (bif Nat.blt pc 27 then (bif Nat.blt pc 14 then (bif Nat.blt pc 7 then (bif Nat.blt pc 2 then (bif Nat.blt pc 1 then (bif Nat.beq pc 0 then some (.iload_n 0, 1, [0], 0, 0, []) else none) else (bif Nat.beq pc 1 then some (.iload_n 0, 2, [0], 0, 0, []) else none)) else (bif Nat.blt pc 3 then (bif Nat.beq pc 2 then some (.iconst 1, 3, [], 1, 0, []) else none) else (bif Nat.blt pc 4 then (bif Nat.beq pc 3 then some (.iushr, 4, [], 0, 0, []) else none) else (bif Nat.beq pc 4 then some (.ldc_w 265, 7, [], 1431655765, 0, []) else none)))) else (bif Nat.blt pc 9 then (bif Nat.blt pc 8 then (bif Nat.beq pc 7 then some (.iand, 8, [], 0, 0, []) else none) else (bif Nat.beq pc 8 then some (.isub, 9, [], 0, 0, []) else none)) else (bif Nat.blt pc 10 then (bif Nat.beq pc 9 then some (.istore_n 0, 10, [0], 0, 0, []) else none) else (bif Nat.blt pc 11 then (bif Nat.beq pc 10 then some (.iload_n 0, 11, [0], 0, 0, []) else none) else (bif Nat.beq pc 11 then some (.ldc_w 266, 14, [], 858993459, 0, []) else none))))) else (bif Nat.blt pc 21 then (bif Nat.blt pc 16 then (bif Nat.blt pc 15 then (bif Nat.beq pc 14 then some (.iand, 15, [], 0, 0, []) else none) else (bif Nat.beq pc 15 then some (.iload_n 0, 16, [0], 0, 0, []) else none)) else (bif Nat.blt pc 17 then (bif Nat.beq pc 16 then some (.iconst 2, 17, [], 2, 0, []) else none) else (bif Nat.blt pc 18 then (bif Nat.beq pc 17 then some (.iushr, 18, [], 0, 0, []) else none) else (bif Nat.beq pc 18 then some (.ldc_w 266, 21, [], 858993459, 0, []) else none)))) else (bif Nat.blt pc 24 then (bif Nat.blt pc 22 then (bif Nat.beq pc 21 then some (.iand, 22, [], 0, 0, []) else none) else (bif Nat.blt pc 23 then (bif Nat.beq pc 22 then some (.iadd, 23, [], 0, 0, []) else none) else (bif Nat.beq pc 23 then some (.istore_n 0, 24, [0], 0, 0, []) else none))) else (bif Nat.blt pc 25 then (bif Nat.beq pc 24 then some (.iload_n 0, 25, [0], 0, 0, []) else none) else (bif Nat.blt pc 26 then (bif Nat.beq pc 25 then some (.iload_n 0, 26, [0], 0, 0, []) else none) else (bif Nat.beq pc 26 then some (.iconst 4, 27, [], 4, 0, []) else none)))))) else (bif Nat.blt pc 40 then (bif Nat.blt pc 34 then (bif Nat.blt pc 29 then (bif Nat.blt pc 28 then (bif Nat.beq pc 27 then some (.iushr, 28, [], 0, 0, []) else none) else (bif Nat.beq pc 28 then some (.iadd, 29, [], 0, 0, []) else none)) else (bif Nat.blt pc 32 then (bif Nat.beq pc 29 then some (.ldc_w 267, 32, [], 252645135, 0, []) else none) else (bif Nat.blt pc 33 then (bif Nat.beq pc 32 then some (.iand, 33, [], 0, 0, []) else none) else (bif Nat.beq pc 33 then some (.istore_n 0, 34, [0], 0, 0, []) else none)))) else (bif Nat.blt pc 36 then (bif Nat.blt pc 35 then (bif Nat.beq pc 34 then some (.iload_n 0, 35, [0], 0, 0, []) else none) else (bif Nat.beq pc 35 then some (.iload_n 0, 36, [0], 0, 0, []) else none)) else (bif Nat.blt pc 38 then (bif Nat.beq pc 36 then some (.bipush 8, 38, [], 8, 0, []) else none) else (bif Nat.blt pc 39 then (bif Nat.beq pc 38 then some (.iushr, 39, [], 0, 0, []) else none) else (bif Nat.beq pc 39 then some (.iadd, 40, [], 0, 0, []) else none))))) else (bif Nat.blt pc 46 then (bif Nat.blt pc 42 then (bif Nat.blt pc 41 then (bif Nat.beq pc 40 then some (.istore_n 0, 41, [0], 0, 0, []) else none) else (bif Nat.beq pc 41 then some (.iload_n 0, 42, [0], 0, 0, []) else none)) else (bif Nat.blt pc 43 then (bif Nat.beq pc 42 then some (.iload_n 0, 43, [0], 0, 0, []) else none) else (bif Nat.blt pc 45 then (bif Nat.beq pc 43 then some (.bipush 16, 45, [], 16, 0, []) else none) else (bif Nat.beq pc 45 then some (.iushr, 46, [], 0, 0, []) else none)))) else (bif Nat.blt pc 49 then (bif Nat.blt pc 47 then (bif Nat.beq pc 46 then some (.iadd, 47, [], 0, 0, []) else none) else (bif Nat.blt pc 48 then (bif Nat.beq pc 47 then some (.istore_n 0, 48, [0], 0, 0, []) else none) else (bif Nat.beq pc 48 then some (.iload_n 0, 49, [0], 0, 0, []) else none))) else (bif Nat.blt pc 51 then (bif Nat.beq pc 49 then some (.bipush 63, 51, [], 63, 0, []) else none) else (bif Nat.blt pc 52 then (bif Nat.beq pc 51 then some (.iand, 52, [], 0, 0, []) else none) else (bif Nat.beq pc 52 then some (.ireturn, 53, [0], 0, 0, []) else none)))))))
theorem okJ6_bitCount_0f7a4 : ∀ pc Y, pfJ6_bitCount_0f7a4 pc = some Y → OKI m_J6_bitCount_0f7a4 pc Y := fun pc Y => ((bt_node (bt_node (bt_node (bt_node (bt_node (bt_leaf (P := OKI m_J6_bitCount_0f7a4) oJ6_bitCount_0f7a4_0) (bt_leaf (P := OKI m_J6_bitCount_0f7a4) oJ6_bitCount_0f7a4_1)) (bt_node (bt_leaf (P := OKI m_J6_bitCount_0f7a4) oJ6_bitCount_0f7a4_2) (bt_node (bt_leaf (P := OKI m_J6_bitCount_0f7a4) oJ6_bitCount_0f7a4_3) (bt_leaf (P := OKI m_J6_bitCount_0f7a4) oJ6_bitCount_0f7a4_4)))) (bt_node (bt_node (bt_leaf (P := OKI m_J6_bitCount_0f7a4) oJ6_bitCount_0f7a4_7) (bt_leaf (P := OKI m_J6_bitCount_0f7a4) oJ6_bitCount_0f7a4_8)) (bt_node (bt_leaf (P := OKI m_J6_bitCount_0f7a4) oJ6_bitCount_0f7a4_9) (bt_node (bt_leaf (P := OKI m_J6_bitCount_0f7a4) oJ6_bitCount_0f7a4_10) (bt_leaf (P := OKI m_J6_bitCount_0f7a4) oJ6_bitCount_0f7a4_11))))) (bt_node (bt_node (bt_node (bt_leaf (P := OKI m_J6_bitCount_0f7a4) oJ6_bitCount_0f7a4_14) (bt_leaf (P := OKI m_J6_bitCount_0f7a4) oJ6_bitCount_0f7a4_15)) (bt_node (bt_leaf (P := OKI m_J6_bitCount_0f7a4) oJ6_bitCount_0f7a4_16) (bt_node (bt_leaf (P := OKI m_J6_bitCount_0f7a4) oJ6_bitCount_0f7a4_17) (bt_leaf (P := OKI m_J6_bitCount_0f7a4) oJ6_bitCount_0f7a4_18)))) (bt_node (bt_node (bt_leaf (P := OKI m_J6_bitCount_0f7a4) oJ6_bitCount_0f7a4_21) (bt_node (bt_leaf (P := OKI m_J6_bitCount_0f7a4) oJ6_bitCount_0f7a4_22) (bt_leaf (P := OKI m_J6_bitCount_0f7a4) oJ6_bitCount_0f7a4_23))) (bt_node (bt_leaf (P := OKI m_J6_bitCount_0f7a4) oJ6_bitCount_0f7a4_24) (bt_node (bt_leaf (P := OKI m_J6_bitCount_0f7a4) oJ6_bitCount_0f7a4_25) (bt_leaf (P := OKI m_J6_bitCount_0f7a4) oJ6_bitCount_0f7a4_26)))))) (bt_node (bt_node (bt_node (bt_node (bt_leaf (P := OKI m_J6_bitCount_0f7a4) oJ6_bitCount_0f7a4_27) (bt_leaf (P := OKI m_J6_bitCount_0f7a4) oJ6_bitCount_0f7a4_28)) (bt_node (bt_leaf (P := OKI m_J6_bitCount_0f7a4) oJ6_bitCount_0f7a4_29) (bt_node (bt_leaf (P := OKI m_J6_bitCount_0f7a4) oJ6_bitCount_0f7a4_32) (bt_leaf (P := OKI m_J6_bitCount_0f7a4) oJ6_bitCount_0f7a4_33)))) (bt_node (bt_node (bt_leaf (P := OKI m_J6_bitCount_0f7a4) oJ6_bitCount_0f7a4_34) (bt_leaf (P := OKI m_J6_bitCount_0f7a4) oJ6_bitCount_0f7a4_35)) (bt_node (bt_leaf (P := OKI m_J6_bitCount_0f7a4) oJ6_bitCount_0f7a4_36) (bt_node (bt_leaf (P := OKI m_J6_bitCount_0f7a4) oJ6_bitCount_0f7a4_38) (bt_leaf (P := OKI m_J6_bitCount_0f7a4) oJ6_bitCount_0f7a4_39))))) (bt_node (bt_node (bt_node (bt_leaf (P := OKI m_J6_bitCount_0f7a4) oJ6_bitCount_0f7a4_40) (bt_leaf (P := OKI m_J6_bitCount_0f7a4) oJ6_bitCount_0f7a4_41)) (bt_node (bt_leaf (P := OKI m_J6_bitCount_0f7a4) oJ6_bitCount_0f7a4_42) (bt_node (bt_leaf (P := OKI m_J6_bitCount_0f7a4) oJ6_bitCount_0f7a4_43) (bt_leaf (P := OKI m_J6_bitCount_0f7a4) oJ6_bitCount_0f7a4_45)))) (bt_node (bt_node (bt_leaf (P := OKI m_J6_bitCount_0f7a4) oJ6_bitCount_0f7a4_46) (bt_node (bt_leaf (P := OKI m_J6_bitCount_0f7a4) oJ6_bitCount_0f7a4_47) (bt_leaf (P := OKI m_J6_bitCount_0f7a4) oJ6_bitCount_0f7a4_48))) (bt_node (bt_leaf (P := OKI m_J6_bitCount_0f7a4) oJ6_bitCount_0f7a4_49) (bt_node (bt_leaf (P := OKI m_J6_bitCount_0f7a4) oJ6_bitCount_0f7a4_51) (bt_leaf (P := OKI m_J6_bitCount_0f7a4) oJ6_bitCount_0f7a4_52))))))) : pfJ6_bitCount_0f7a4 pc = some Y → OKI m_J6_bitCount_0f7a4 pc Y)
def stpJ6_bitCount_0f7a4 (_ : Nat) : Option (List Bool) := none
def bJ6_bitCount_0f7a4_0 (d rc rs : Nat) (a1 : Int32) (σ : XH) (Q : XV → XH → Prop) : Prop :=
  Q (vI ((((((((a1 - (((a1.toUInt32 >>> ((1 : Int32).toUInt32 &&& Int32.toUInt32 31)).toInt32) &&& 1431655765)) &&& 858993459) + ((((a1 - (((a1.toUInt32 >>> ((1 : Int32).toUInt32 &&& Int32.toUInt32 31)).toInt32) &&& 1431655765)).toUInt32 >>> ((2 : Int32).toUInt32 &&& Int32.toUInt32 31)).toInt32) &&& 858993459)) + (((((a1 - (((a1.toUInt32 >>> ((1 : Int32).toUInt32 &&& Int32.toUInt32 31)).toInt32) &&& 1431655765)) &&& 858993459) + ((((a1 - (((a1.toUInt32 >>> ((1 : Int32).toUInt32 &&& Int32.toUInt32 31)).toInt32) &&& 1431655765)).toUInt32 >>> ((2 : Int32).toUInt32 &&& Int32.toUInt32 31)).toInt32) &&& 858993459)).toUInt32 >>> ((4 : Int32).toUInt32 &&& Int32.toUInt32 31)).toInt32)) &&& 252645135) + (((((((a1 - (((a1.toUInt32 >>> ((1 : Int32).toUInt32 &&& Int32.toUInt32 31)).toInt32) &&& 1431655765)) &&& 858993459) + ((((a1 - (((a1.toUInt32 >>> ((1 : Int32).toUInt32 &&& Int32.toUInt32 31)).toInt32) &&& 1431655765)).toUInt32 >>> ((2 : Int32).toUInt32 &&& Int32.toUInt32 31)).toInt32) &&& 858993459)) + (((((a1 - (((a1.toUInt32 >>> ((1 : Int32).toUInt32 &&& Int32.toUInt32 31)).toInt32) &&& 1431655765)) &&& 858993459) + ((((a1 - (((a1.toUInt32 >>> ((1 : Int32).toUInt32 &&& Int32.toUInt32 31)).toInt32) &&& 1431655765)).toUInt32 >>> ((2 : Int32).toUInt32 &&& Int32.toUInt32 31)).toInt32) &&& 858993459)).toUInt32 >>> ((4 : Int32).toUInt32 &&& Int32.toUInt32 31)).toInt32)) &&& 252645135).toUInt32 >>> ((8 : Int32).toUInt32 &&& Int32.toUInt32 31)).toInt32)) + ((((((((a1 - (((a1.toUInt32 >>> ((1 : Int32).toUInt32 &&& Int32.toUInt32 31)).toInt32) &&& 1431655765)) &&& 858993459) + ((((a1 - (((a1.toUInt32 >>> ((1 : Int32).toUInt32 &&& Int32.toUInt32 31)).toInt32) &&& 1431655765)).toUInt32 >>> ((2 : Int32).toUInt32 &&& Int32.toUInt32 31)).toInt32) &&& 858993459)) + (((((a1 - (((a1.toUInt32 >>> ((1 : Int32).toUInt32 &&& Int32.toUInt32 31)).toInt32) &&& 1431655765)) &&& 858993459) + ((((a1 - (((a1.toUInt32 >>> ((1 : Int32).toUInt32 &&& Int32.toUInt32 31)).toInt32) &&& 1431655765)).toUInt32 >>> ((2 : Int32).toUInt32 &&& Int32.toUInt32 31)).toInt32) &&& 858993459)).toUInt32 >>> ((4 : Int32).toUInt32 &&& Int32.toUInt32 31)).toInt32)) &&& 252645135) + (((((((a1 - (((a1.toUInt32 >>> ((1 : Int32).toUInt32 &&& Int32.toUInt32 31)).toInt32) &&& 1431655765)) &&& 858993459) + ((((a1 - (((a1.toUInt32 >>> ((1 : Int32).toUInt32 &&& Int32.toUInt32 31)).toInt32) &&& 1431655765)).toUInt32 >>> ((2 : Int32).toUInt32 &&& Int32.toUInt32 31)).toInt32) &&& 858993459)) + (((((a1 - (((a1.toUInt32 >>> ((1 : Int32).toUInt32 &&& Int32.toUInt32 31)).toInt32) &&& 1431655765)) &&& 858993459) + ((((a1 - (((a1.toUInt32 >>> ((1 : Int32).toUInt32 &&& Int32.toUInt32 31)).toInt32) &&& 1431655765)).toUInt32 >>> ((2 : Int32).toUInt32 &&& Int32.toUInt32 31)).toInt32) &&& 858993459)).toUInt32 >>> ((4 : Int32).toUInt32 &&& Int32.toUInt32 31)).toInt32)) &&& 252645135).toUInt32 >>> ((8 : Int32).toUInt32 &&& Int32.toUInt32 31)).toInt32)).toUInt32 >>> ((16 : Int32).toUInt32 &&& Int32.toUInt32 31)).toInt32)) &&& 63)) σ
set_option maxRecDepth 40000 in
set_option maxHeartbeats 4000000 in
theorem sJ6_bitCount_0f7a4_0 {d rc rs : Nat} {a1 : Int32} {σ : XH} {Q : XV → XH → Prop} (h : bJ6_bitCount_0f7a4_0 d rc rs a1 σ Q) : Ex d rc rs m_J6_bitCount_0f7a4 0 [vI a1] [] σ Q :=
  xtree_sound (stop := stpJ6_bitCount_0f7a4) okJ6_bitCount_0f7a4 44 _ _ _ _ _ _ h
/-! java/lang/Math.floorDiv(II)I -/
theorem dJ9_floorDiv_7cf53_0 : decode cJ9_floorDiv_7cf53 0 = .ok (.iload_n 0, 1) := by decide +kernel
theorem dJ9_floorDiv_7cf53_1 : decode cJ9_floorDiv_7cf53 1 = .ok (.iload_n 1, 1) := by decide +kernel
theorem dJ9_floorDiv_7cf53_2 : decode cJ9_floorDiv_7cf53 2 = .ok (.idiv, 1) := by decide +kernel
theorem dJ9_floorDiv_7cf53_3 : decode cJ9_floorDiv_7cf53 3 = .ok (.istore_n 2, 1) := by decide +kernel
theorem dJ9_floorDiv_7cf53_4 : decode cJ9_floorDiv_7cf53 4 = .ok (.iload_n 0, 1) := by decide +kernel
theorem dJ9_floorDiv_7cf53_5 : decode cJ9_floorDiv_7cf53 5 = .ok (.iload_n 1, 1) := by decide +kernel
theorem dJ9_floorDiv_7cf53_6 : decode cJ9_floorDiv_7cf53 6 = .ok (.ixor, 1) := by decide +kernel
theorem dJ9_floorDiv_7cf53_7 : decode cJ9_floorDiv_7cf53 7 = .ok (.ifCond .ge 14, 3) := by decide +kernel
theorem dJ9_floorDiv_7cf53_10 : decode cJ9_floorDiv_7cf53 10 = .ok (.iload_n 2, 1) := by decide +kernel
theorem dJ9_floorDiv_7cf53_11 : decode cJ9_floorDiv_7cf53 11 = .ok (.iload_n 1, 1) := by decide +kernel
theorem dJ9_floorDiv_7cf53_12 : decode cJ9_floorDiv_7cf53 12 = .ok (.imul, 1) := by decide +kernel
theorem dJ9_floorDiv_7cf53_13 : decode cJ9_floorDiv_7cf53 13 = .ok (.iload_n 0, 1) := by decide +kernel
theorem dJ9_floorDiv_7cf53_14 : decode cJ9_floorDiv_7cf53 14 = .ok (.if_icmp .eq 7, 3) := by decide +kernel
theorem dJ9_floorDiv_7cf53_17 : decode cJ9_floorDiv_7cf53 17 = .ok (.iload_n 2, 1) := by decide +kernel
theorem dJ9_floorDiv_7cf53_18 : decode cJ9_floorDiv_7cf53 18 = .ok (.iconst 1, 1) := by decide +kernel
theorem dJ9_floorDiv_7cf53_19 : decode cJ9_floorDiv_7cf53 19 = .ok (.isub, 1) := by decide +kernel
theorem dJ9_floorDiv_7cf53_20 : decode cJ9_floorDiv_7cf53 20 = .ok (.ireturn, 1) := by decide +kernel
theorem dJ9_floorDiv_7cf53_21 : decode cJ9_floorDiv_7cf53 21 = .ok (.iload_n 2, 1) := by decide +kernel
theorem dJ9_floorDiv_7cf53_22 : decode cJ9_floorDiv_7cf53 22 = .ok (.ireturn, 1) := by decide +kernel
theorem oJ9_floorDiv_7cf53_0 : OKI 248 0 (.iload_n 0, 1, [0], 0, 0, []) := And.intro dJ9_floorDiv_7cf53_0 (And.intro rfl (rfl))
theorem oJ9_floorDiv_7cf53_1 : OKI 248 1 (.iload_n 1, 2, [1], 0, 0, []) := And.intro dJ9_floorDiv_7cf53_1 (And.intro rfl (rfl))
theorem oJ9_floorDiv_7cf53_2 : OKI 248 2 (.idiv, 3, [], 0, 0, []) := And.intro dJ9_floorDiv_7cf53_2 rfl
theorem oJ9_floorDiv_7cf53_3 : OKI 248 3 (.istore_n 2, 4, [2], 0, 0, []) := And.intro dJ9_floorDiv_7cf53_3 (And.intro rfl (And.intro rfl (by decide)))
theorem oJ9_floorDiv_7cf53_4 : OKI 248 4 (.iload_n 0, 5, [0], 0, 0, []) := And.intro dJ9_floorDiv_7cf53_4 (And.intro rfl (rfl))
theorem oJ9_floorDiv_7cf53_5 : OKI 248 5 (.iload_n 1, 6, [1], 0, 0, []) := And.intro dJ9_floorDiv_7cf53_5 (And.intro rfl (rfl))
theorem oJ9_floorDiv_7cf53_6 : OKI 248 6 (.ixor, 7, [], 0, 0, []) := And.intro dJ9_floorDiv_7cf53_6 rfl
theorem oJ9_floorDiv_7cf53_7 : OKI 248 7 (.ifCond .ge 14, 10, [21], 0, 0, []) := And.intro dJ9_floorDiv_7cf53_7 (And.intro rfl (by decide))
theorem oJ9_floorDiv_7cf53_10 : OKI 248 10 (.iload_n 2, 11, [2], 0, 0, []) := And.intro dJ9_floorDiv_7cf53_10 (And.intro rfl (rfl))
theorem oJ9_floorDiv_7cf53_11 : OKI 248 11 (.iload_n 1, 12, [1], 0, 0, []) := And.intro dJ9_floorDiv_7cf53_11 (And.intro rfl (rfl))
theorem oJ9_floorDiv_7cf53_12 : OKI 248 12 (.imul, 13, [], 0, 0, []) := And.intro dJ9_floorDiv_7cf53_12 rfl
theorem oJ9_floorDiv_7cf53_13 : OKI 248 13 (.iload_n 0, 14, [0], 0, 0, []) := And.intro dJ9_floorDiv_7cf53_13 (And.intro rfl (rfl))
theorem oJ9_floorDiv_7cf53_14 : OKI 248 14 (.if_icmp .eq 7, 17, [21], 0, 0, []) := And.intro dJ9_floorDiv_7cf53_14 (And.intro rfl (by decide))
theorem oJ9_floorDiv_7cf53_17 : OKI 248 17 (.iload_n 2, 18, [2], 0, 0, []) := And.intro dJ9_floorDiv_7cf53_17 (And.intro rfl (rfl))
theorem oJ9_floorDiv_7cf53_18 : OKI 248 18 (.iconst 1, 19, [], 1, 0, []) := And.intro dJ9_floorDiv_7cf53_18 (And.intro rfl (by decide +kernel))
theorem oJ9_floorDiv_7cf53_19 : OKI 248 19 (.isub, 20, [], 0, 0, []) := And.intro dJ9_floorDiv_7cf53_19 rfl
theorem oJ9_floorDiv_7cf53_20 : OKI 248 20 (.ireturn, 21, [0], 0, 0, []) := And.intro dJ9_floorDiv_7cf53_20 (Or.inl (And.intro rfl rfl))
theorem oJ9_floorDiv_7cf53_21 : OKI 248 21 (.iload_n 2, 22, [2], 0, 0, []) := And.intro dJ9_floorDiv_7cf53_21 (And.intro rfl (rfl))
theorem oJ9_floorDiv_7cf53_22 : OKI 248 22 (.ireturn, 23, [0], 0, 0, []) := And.intro dJ9_floorDiv_7cf53_22 (Or.inl (And.intro rfl rfl))
def pfJ9_floorDiv_7cf53 (pc : Nat) : Option XE := (bif Nat.blt pc 11 then (bif Nat.blt pc 4 then (bif Nat.blt pc 2 then (bif Nat.blt pc 1 then (bif Nat.beq pc 0 then some (.iload_n 0, 1, [0], 0, 0, []) else none) else (bif Nat.beq pc 1 then some (.iload_n 1, 2, [1], 0, 0, []) else none)) else (bif Nat.blt pc 3 then (bif Nat.beq pc 2 then some (.idiv, 3, [], 0, 0, []) else none) else (bif Nat.beq pc 3 then some (.istore_n 2, 4, [2], 0, 0, []) else none))) else (bif Nat.blt pc 6 then (bif Nat.blt pc 5 then (bif Nat.beq pc 4 then some (.iload_n 0, 5, [0], 0, 0, []) else none) else (bif Nat.beq pc 5 then some (.iload_n 1, 6, [1], 0, 0, []) else none)) else (bif Nat.blt pc 7 then (bif Nat.beq pc 6 then some (.ixor, 7, [], 0, 0, []) else none) else (bif Nat.blt pc 10 then (bif Nat.beq pc 7 then some (.ifCond .ge 14, 10, [21], 0, 0, []) else none) else (bif Nat.beq pc 10 then some (.iload_n 2, 11, [2], 0, 0, []) else none))))) else (bif Nat.blt pc 18 then (bif Nat.blt pc 13 then (bif Nat.blt pc 12 then (bif Nat.beq pc 11 then some (.iload_n 1, 12, [1], 0, 0, []) else none) else (bif Nat.beq pc 12 then some (.imul, 13, [], 0, 0, []) else none)) else (bif Nat.blt pc 14 then (bif Nat.beq pc 13 then some (.iload_n 0, 14, [0], 0, 0, []) else none) else (bif Nat.blt pc 17 then (bif Nat.beq pc 14 then some (.if_icmp .eq 7, 17, [21], 0, 0, []) else none) else (bif Nat.beq pc 17 then some (.iload_n 2, 18, [2], 0, 0, []) else none)))) else (bif Nat.blt pc 20 then (bif Nat.blt pc 19 then (bif Nat.beq pc 18 then some (.iconst 1, 19, [], 1, 0, []) else none) else (bif Nat.beq pc 19 then some (.isub, 20, [], 0, 0, []) else none)) else (bif Nat.blt pc 21 then (bif Nat.beq pc 20 then some (.ireturn, 21, [0], 0, 0, []) else none) else (bif Nat.blt pc 22 then (bif Nat.beq pc 21 then some (.iload_n 2, 22, [2], 0, 0, []) else none) else (bif Nat.beq pc 22 then some (.ireturn, 23, [0], 0, 0, []) else none))))))
theorem okJ9_floorDiv_7cf53 : ∀ pc Y, pfJ9_floorDiv_7cf53 pc = some Y → OKI m_J9_floorDiv_7cf53 pc Y := fun pc Y => ((bt_node (bt_node (bt_node (bt_node (bt_leaf (P := OKI m_J9_floorDiv_7cf53) oJ9_floorDiv_7cf53_0) (bt_leaf (P := OKI m_J9_floorDiv_7cf53) oJ9_floorDiv_7cf53_1)) (bt_node (bt_leaf (P := OKI m_J9_floorDiv_7cf53) oJ9_floorDiv_7cf53_2) (bt_leaf (P := OKI m_J9_floorDiv_7cf53) oJ9_floorDiv_7cf53_3))) (bt_node (bt_node (bt_leaf (P := OKI m_J9_floorDiv_7cf53) oJ9_floorDiv_7cf53_4) (bt_leaf (P := OKI m_J9_floorDiv_7cf53) oJ9_floorDiv_7cf53_5)) (bt_node (bt_leaf (P := OKI m_J9_floorDiv_7cf53) oJ9_floorDiv_7cf53_6) (bt_node (bt_leaf (P := OKI m_J9_floorDiv_7cf53) oJ9_floorDiv_7cf53_7) (bt_leaf (P := OKI m_J9_floorDiv_7cf53) oJ9_floorDiv_7cf53_10))))) (bt_node (bt_node (bt_node (bt_leaf (P := OKI m_J9_floorDiv_7cf53) oJ9_floorDiv_7cf53_11) (bt_leaf (P := OKI m_J9_floorDiv_7cf53) oJ9_floorDiv_7cf53_12)) (bt_node (bt_leaf (P := OKI m_J9_floorDiv_7cf53) oJ9_floorDiv_7cf53_13) (bt_node (bt_leaf (P := OKI m_J9_floorDiv_7cf53) oJ9_floorDiv_7cf53_14) (bt_leaf (P := OKI m_J9_floorDiv_7cf53) oJ9_floorDiv_7cf53_17)))) (bt_node (bt_node (bt_leaf (P := OKI m_J9_floorDiv_7cf53) oJ9_floorDiv_7cf53_18) (bt_leaf (P := OKI m_J9_floorDiv_7cf53) oJ9_floorDiv_7cf53_19)) (bt_node (bt_leaf (P := OKI m_J9_floorDiv_7cf53) oJ9_floorDiv_7cf53_20) (bt_node (bt_leaf (P := OKI m_J9_floorDiv_7cf53) oJ9_floorDiv_7cf53_21) (bt_leaf (P := OKI m_J9_floorDiv_7cf53) oJ9_floorDiv_7cf53_22)))))) : pfJ9_floorDiv_7cf53 pc = some Y → OKI m_J9_floorDiv_7cf53 pc Y)
def stpJ9_floorDiv_7cf53 (pc : Nat) : Option (List Bool) := (bif Nat.beq pc 21 then some [false, false, true] else none)
def bJ9_floorDiv_7cf53_0 (d rc rs : Nat) (a1 : Int32) (a2 : Int32) (σ : XH) (Q : XV → XH → Prop) : Prop :=
  (¬ a2 = 0 ∧ (((a1 ^^^ a2) < 0 → ((((a1 / a2) * a2) = a1 → Ex d rc rs m_J9_floorDiv_7cf53 21 [vU, vU, vI (a1 / a2)] [] σ Q) ∧ (¬ ((a1 / a2) * a2) = a1 → Q (vI ((a1 / a2) - 1)) σ))) ∧ (¬ (a1 ^^^ a2) < 0 → Ex d rc rs m_J9_floorDiv_7cf53 21 [vU, vU, vI (a1 / a2)] [] σ Q)))
theorem sJ9_floorDiv_7cf53_0 {d rc rs : Nat} {a1 : Int32} {a2 : Int32} {σ : XH} {Q : XV → XH → Prop} (h : bJ9_floorDiv_7cf53_0 d rc rs a1 a2 σ Q) : Ex d rc rs m_J9_floorDiv_7cf53 0 [vI a1, vI a2, vU] [] σ Q :=
  xtree_sound (stop := stpJ9_floorDiv_7cf53) okJ9_floorDiv_7cf53 19 _ _ _ _ _ _ h
def bJ9_floorDiv_7cf53_21 (d rc rs : Nat) (l2 : Int32) (σ : XH) (Q : XV → XH → Prop) : Prop :=
  Q (vI l2) σ
theorem sJ9_floorDiv_7cf53_21 {d rc rs : Nat} {l2 : Int32} {σ : XH} {Q : XV → XH → Prop} (h : bJ9_floorDiv_7cf53_21 d rc rs l2 σ Q) : Ex d rc rs m_J9_floorDiv_7cf53 21 [vU, vU, vI l2] [] σ Q :=
  xtree_sound (stop := stpJ9_floorDiv_7cf53) okJ9_floorDiv_7cf53 4 _ _ _ _ _ _ h
/-! java/lang/Math.floorDiv(JJ)J -/
theorem dJ9_floorDiv_f86c9_0 : decode cJ9_floorDiv_f86c9 0 = .ok (.lload_n 0, 1) := by decide +kernel
theorem dJ9_floorDiv_f86c9_1 : decode cJ9_floorDiv_f86c9 1 = .ok (.lload_n 2, 1) := by decide +kernel
theorem dJ9_floorDiv_f86c9_2 : decode cJ9_floorDiv_f86c9 2 = .ok (.ldiv, 1) := by decide +kernel
theorem dJ9_floorDiv_f86c9_3 : decode cJ9_floorDiv_f86c9 3 = .ok (.lstore 4, 2) := by decide +kernel
theorem dJ9_floorDiv_f86c9_5 : decode cJ9_floorDiv_f86c9 5 = .ok (.lload_n 0, 1) := by decide +kernel
theorem dJ9_floorDiv_f86c9_6 : decode cJ9_floorDiv_f86c9 6 = .ok (.lload_n 2, 1) := by decide +kernel
theorem dJ9_floorDiv_f86c9_7 : decode cJ9_floorDiv_f86c9 7 = .ok (.lxor, 1) := by decide +kernel
theorem dJ9_floorDiv_f86c9_8 : decode cJ9_floorDiv_f86c9 8 = .ok (.lconst 0, 1) := by decide +kernel
theorem dJ9_floorDiv_f86c9_9 : decode cJ9_floorDiv_f86c9 9 = .ok (.lcmp, 1) := by decide +kernel
theorem dJ9_floorDiv_f86c9_10 : decode cJ9_floorDiv_f86c9 10 = .ok (.ifCond .ge 17, 3) := by decide +kernel
theorem dJ9_floorDiv_f86c9_13 : decode cJ9_floorDiv_f86c9 13 = .ok (.lload 4, 2) := by decide +kernel
theorem dJ9_floorDiv_f86c9_15 : decode cJ9_floorDiv_f86c9 15 = .ok (.lload_n 2, 1) := by decide +kernel
theorem dJ9_floorDiv_f86c9_16 : decode cJ9_floorDiv_f86c9 16 = .ok (.lmul, 1) := by decide +kernel
theorem dJ9_floorDiv_f86c9_17 : decode cJ9_floorDiv_f86c9 17 = .ok (.lload_n 0, 1) := by decide +kernel
theorem dJ9_floorDiv_f86c9_18 : decode cJ9_floorDiv_f86c9 18 = .ok (.lcmp, 1) := by decide +kernel
theorem dJ9_floorDiv_f86c9_19 : decode cJ9_floorDiv_f86c9 19 = .ok (.ifCond .eq 8, 3) := by decide +kernel
theorem dJ9_floorDiv_f86c9_22 : decode cJ9_floorDiv_f86c9 22 = .ok (.lload 4, 2) := by decide +kernel
theorem dJ9_floorDiv_f86c9_24 : decode cJ9_floorDiv_f86c9 24 = .ok (.lconst 1, 1) := by decide +kernel
theorem dJ9_floorDiv_f86c9_25 : decode cJ9_floorDiv_f86c9 25 = .ok (.lsub, 1) := by decide +kernel
theorem dJ9_floorDiv_f86c9_26 : decode cJ9_floorDiv_f86c9 26 = .ok (.lreturn, 1) := by decide +kernel
theorem dJ9_floorDiv_f86c9_27 : decode cJ9_floorDiv_f86c9 27 = .ok (.lload 4, 2) := by decide +kernel
theorem dJ9_floorDiv_f86c9_29 : decode cJ9_floorDiv_f86c9 29 = .ok (.lreturn, 1) := by decide +kernel
theorem oJ9_floorDiv_f86c9_0 : OKI 249 0 (.lload_n 0, 1, [0], 0, 0, []) := And.intro dJ9_floorDiv_f86c9_0 (And.intro rfl (rfl))
theorem oJ9_floorDiv_f86c9_1 : OKI 249 1 (.lload_n 2, 2, [2], 0, 0, []) := And.intro dJ9_floorDiv_f86c9_1 (And.intro rfl (rfl))
theorem oJ9_floorDiv_f86c9_2 : OKI 249 2 (.ldiv, 3, [], 0, 0, []) := And.intro dJ9_floorDiv_f86c9_2 rfl
theorem oJ9_floorDiv_f86c9_3 : OKI 249 3 (.lstore 4, 5, [4], 0, 0, []) := And.intro dJ9_floorDiv_f86c9_3 (And.intro rfl (And.intro rfl (by decide)))
theorem oJ9_floorDiv_f86c9_5 : OKI 249 5 (.lload_n 0, 6, [0], 0, 0, []) := And.intro dJ9_floorDiv_f86c9_5 (And.intro rfl (rfl))
theorem oJ9_floorDiv_f86c9_6 : OKI 249 6 (.lload_n 2, 7, [2], 0, 0, []) := And.intro dJ9_floorDiv_f86c9_6 (And.intro rfl (rfl))
theorem oJ9_floorDiv_f86c9_7 : OKI 249 7 (.lxor, 8, [], 0, 0, []) := And.intro dJ9_floorDiv_f86c9_7 rfl
theorem oJ9_floorDiv_f86c9_8 : OKI 249 8 (.lconst 0, 9, [], 0, 0, []) := And.intro dJ9_floorDiv_f86c9_8 (And.intro rfl (by decide +kernel))
theorem oJ9_floorDiv_f86c9_9 : OKI 249 9 (.lcmp, 10, [], 0, 0, []) := And.intro dJ9_floorDiv_f86c9_9 rfl
theorem oJ9_floorDiv_f86c9_10 : OKI 249 10 (.ifCond .ge 17, 13, [27], 0, 0, []) := And.intro dJ9_floorDiv_f86c9_10 (And.intro rfl (by decide))
theorem oJ9_floorDiv_f86c9_13 : OKI 249 13 (.lload 4, 15, [4], 0, 0, []) := And.intro dJ9_floorDiv_f86c9_13 (And.intro rfl (rfl))
theorem oJ9_floorDiv_f86c9_15 : OKI 249 15 (.lload_n 2, 16, [2], 0, 0, []) := And.intro dJ9_floorDiv_f86c9_15 (And.intro rfl (rfl))
theorem oJ9_floorDiv_f86c9_16 : OKI 249 16 (.lmul, 17, [], 0, 0, []) := And.intro dJ9_floorDiv_f86c9_16 rfl
theorem oJ9_floorDiv_f86c9_17 : OKI 249 17 (.lload_n 0, 18, [0], 0, 0, []) := And.intro dJ9_floorDiv_f86c9_17 (And.intro rfl (rfl))
theorem oJ9_floorDiv_f86c9_18 : OKI 249 18 (.lcmp, 19, [], 0, 0, []) := And.intro dJ9_floorDiv_f86c9_18 rfl
theorem oJ9_floorDiv_f86c9_19 : OKI 249 19 (.ifCond .eq 8, 22, [27], 0, 0, []) := And.intro dJ9_floorDiv_f86c9_19 (And.intro rfl (by decide))
theorem oJ9_floorDiv_f86c9_22 : OKI 249 22 (.lload 4, 24, [4], 0, 0, []) := And.intro dJ9_floorDiv_f86c9_22 (And.intro rfl (rfl))
theorem oJ9_floorDiv_f86c9_24 : OKI 249 24 (.lconst 1, 25, [], 0, 1, []) := And.intro dJ9_floorDiv_f86c9_24 (And.intro rfl (by decide +kernel))
theorem oJ9_floorDiv_f86c9_25 : OKI 249 25 (.lsub, 26, [], 0, 0, []) := And.intro dJ9_floorDiv_f86c9_25 rfl
theorem oJ9_floorDiv_f86c9_26 : OKI 249 26 (.lreturn, 27, [], 0, 0, []) := And.intro dJ9_floorDiv_f86c9_26 rfl
theorem oJ9_floorDiv_f86c9_27 : OKI 249 27 (.lload 4, 29, [4], 0, 0, []) := And.intro dJ9_floorDiv_f86c9_27 (And.intro rfl (rfl))
theorem oJ9_floorDiv_f86c9_29 : OKI 249 29 (.lreturn, 30, [], 0, 0, []) := And.intro dJ9_floorDiv_f86c9_29 rfl
def pfJ9_floorDiv_f86c9 (pc : Nat) : Option XE := (bif Nat.blt pc 15 then (bif Nat.blt pc 6 then (bif Nat.blt pc 2 then (bif Nat.blt pc 1 then (bif Nat.beq pc 0 then some (.lload_n 0, 1, [0], 0, 0, []) else none) else (bif Nat.beq pc 1 then some (.lload_n 2, 2, [2], 0, 0, []) else none)) else (bif Nat.blt pc 3 then (bif Nat.beq pc 2 then some (.ldiv, 3, [], 0, 0, []) else none) else (bif Nat.blt pc 5 then (bif Nat.beq pc 3 then some (.lstore 4, 5, [4], 0, 0, []) else none) else (bif Nat.beq pc 5 then some (.lload_n 0, 6, [0], 0, 0, []) else none)))) else (bif Nat.blt pc 9 then (bif Nat.blt pc 7 then (bif Nat.beq pc 6 then some (.lload_n 2, 7, [2], 0, 0, []) else none) else (bif Nat.blt pc 8 then (bif Nat.beq pc 7 then some (.lxor, 8, [], 0, 0, []) else none) else (bif Nat.beq pc 8 then some (.lconst 0, 9, [], 0, 0, []) else none))) else (bif Nat.blt pc 10 then (bif Nat.beq pc 9 then some (.lcmp, 10, [], 0, 0, []) else none) else (bif Nat.blt pc 13 then (bif Nat.beq pc 10 then some (.ifCond .ge 17, 13, [27], 0, 0, []) else none) else (bif Nat.beq pc 13 then some (.lload 4, 15, [4], 0, 0, []) else none))))) else (bif Nat.blt pc 22 then (bif Nat.blt pc 17 then (bif Nat.blt pc 16 then (bif Nat.beq pc 15 then some (.lload_n 2, 16, [2], 0, 0, []) else none) else (bif Nat.beq pc 16 then some (.lmul, 17, [], 0, 0, []) else none)) else (bif Nat.blt pc 18 then (bif Nat.beq pc 17 then some (.lload_n 0, 18, [0], 0, 0, []) else none) else (bif Nat.blt pc 19 then (bif Nat.beq pc 18 then some (.lcmp, 19, [], 0, 0, []) else none) else (bif Nat.beq pc 19 then some (.ifCond .eq 8, 22, [27], 0, 0, []) else none)))) else (bif Nat.blt pc 26 then (bif Nat.blt pc 24 then (bif Nat.beq pc 22 then some (.lload 4, 24, [4], 0, 0, []) else none) else (bif Nat.blt pc 25 then (bif Nat.beq pc 24 then some (.lconst 1, 25, [], 0, 1, []) else none) else (bif Nat.beq pc 25 then some (.lsub, 26, [], 0, 0, []) else none))) else (bif Nat.blt pc 27 then (bif Nat.beq pc 26 then some (.lreturn, 27, [], 0, 0, []) else none) else (bif Nat.blt pc 29 then (bif Nat.beq pc 27 then some (.lload 4, 29, [4], 0, 0, []) else none) else (bif Nat.beq pc 29 then some (.lreturn, 30, [], 0, 0, []) else none))))))
theorem okJ9_floorDiv_f86c9 : ∀ pc Y, pfJ9_floorDiv_f86c9 pc = some Y → OKI m_J9_floorDiv_f86c9 pc Y := fun pc Y => ((bt_node (bt_node (bt_node (bt_node (bt_leaf (P := OKI m_J9_floorDiv_f86c9) oJ9_floorDiv_f86c9_0) (bt_leaf (P := OKI m_J9_floorDiv_f86c9) oJ9_floorDiv_f86c9_1)) (bt_node (bt_leaf (P := OKI m_J9_floorDiv_f86c9) oJ9_floorDiv_f86c9_2) (bt_node (bt_leaf (P := OKI m_J9_floorDiv_f86c9) oJ9_floorDiv_f86c9_3) (bt_leaf (P := OKI m_J9_floorDiv_f86c9) oJ9_floorDiv_f86c9_5)))) (bt_node (bt_node (bt_leaf (P := OKI m_J9_floorDiv_f86c9) oJ9_floorDiv_f86c9_6) (bt_node (bt_leaf (P := OKI m_J9_floorDiv_f86c9) oJ9_floorDiv_f86c9_7) (bt_leaf (P := OKI m_J9_floorDiv_f86c9) oJ9_floorDiv_f86c9_8))) (bt_node (bt_leaf (P := OKI m_J9_floorDiv_f86c9) oJ9_floorDiv_f86c9_9) (bt_node (bt_leaf (P := OKI m_J9_floorDiv_f86c9) oJ9_floorDiv_f86c9_10) (bt_leaf (P := OKI m_J9_floorDiv_f86c9) oJ9_floorDiv_f86c9_13))))) (bt_node (bt_node (bt_node (bt_leaf (P := OKI m_J9_floorDiv_f86c9) oJ9_floorDiv_f86c9_15) (bt_leaf (P := OKI m_J9_floorDiv_f86c9) oJ9_floorDiv_f86c9_16)) (bt_node (bt_leaf (P := OKI m_J9_floorDiv_f86c9) oJ9_floorDiv_f86c9_17) (bt_node (bt_leaf (P := OKI m_J9_floorDiv_f86c9) oJ9_floorDiv_f86c9_18) (bt_leaf (P := OKI m_J9_floorDiv_f86c9) oJ9_floorDiv_f86c9_19)))) (bt_node (bt_node (bt_leaf (P := OKI m_J9_floorDiv_f86c9) oJ9_floorDiv_f86c9_22) (bt_node (bt_leaf (P := OKI m_J9_floorDiv_f86c9) oJ9_floorDiv_f86c9_24) (bt_leaf (P := OKI m_J9_floorDiv_f86c9) oJ9_floorDiv_f86c9_25))) (bt_node (bt_leaf (P := OKI m_J9_floorDiv_f86c9) oJ9_floorDiv_f86c9_26) (bt_node (bt_leaf (P := OKI m_J9_floorDiv_f86c9) oJ9_floorDiv_f86c9_27) (bt_leaf (P := OKI m_J9_floorDiv_f86c9) oJ9_floorDiv_f86c9_29)))))) : pfJ9_floorDiv_f86c9 pc = some Y → OKI m_J9_floorDiv_f86c9 pc Y)
def stpJ9_floorDiv_f86c9 (pc : Nat) : Option (List Bool) := (bif Nat.beq pc 27 then some [false, false, false, false, true, false] else none)
def bJ9_floorDiv_f86c9_0 (d rc rs : Nat) (a1 : Int64) (a2 : Int64) (σ : XH) (Q : XV → XH → Prop) : Prop :=
  (¬ a2 = 0 ∧ (((lg_cmp (a1 ^^^ a2) 0) < 0 → (((lg_cmp ((a1 / a2) * a2) a1) = 0 → Ex d rc rs m_J9_floorDiv_f86c9 27 [vU, vU, vU, vU, vL (a1 / a2), vU] [] σ Q) ∧ (¬ (lg_cmp ((a1 / a2) * a2) a1) = 0 → Q (vL ((a1 / a2) - 1)) σ))) ∧ (¬ (lg_cmp (a1 ^^^ a2) 0) < 0 → Ex d rc rs m_J9_floorDiv_f86c9 27 [vU, vU, vU, vU, vL (a1 / a2), vU] [] σ Q)))
theorem sJ9_floorDiv_f86c9_0 {d rc rs : Nat} {a1 : Int64} {a2 : Int64} {σ : XH} {Q : XV → XH → Prop} (h : bJ9_floorDiv_f86c9_0 d rc rs a1 a2 σ Q) : Ex d rc rs m_J9_floorDiv_f86c9 0 [vL a1, vU, vL a2, vU, vU, vU] [] σ Q :=
  xtree_sound (stop := stpJ9_floorDiv_f86c9) okJ9_floorDiv_f86c9 22 _ _ _ _ _ _ h
def bJ9_floorDiv_f86c9_27 (d rc rs : Nat) (l4 : Int64) (σ : XH) (Q : XV → XH → Prop) : Prop :=
  Q (vL l4) σ
theorem sJ9_floorDiv_f86c9_27 {d rc rs : Nat} {l4 : Int64} {σ : XH} {Q : XV → XH → Prop} (h : bJ9_floorDiv_f86c9_27 d rc rs l4 σ Q) : Ex d rc rs m_J9_floorDiv_f86c9 27 [vU, vU, vU, vU, vL l4, vU] [] σ Q :=
  xtree_sound (stop := stpJ9_floorDiv_f86c9) okJ9_floorDiv_f86c9 4 _ _ _ _ _ _ h
/-! java/lang/Math.abs(I)I -/
theorem dJ9_abs_0f7a4_0 : decode cJ9_abs_0f7a4 0 = .ok (.iload_n 0, 1) := by decide +kernel
theorem dJ9_abs_0f7a4_1 : decode cJ9_abs_0f7a4 1 = .ok (.ifCond .ge 8, 3) := by decide +kernel
theorem dJ9_abs_0f7a4_4 : decode cJ9_abs_0f7a4 4 = .ok (.iload_n 0, 1) := by decide +kernel
theorem dJ9_abs_0f7a4_5 : decode cJ9_abs_0f7a4 5 = .ok (.ineg, 1) := by decide +kernel
theorem dJ9_abs_0f7a4_6 : decode cJ9_abs_0f7a4 6 = .ok (.goto 4, 3) := by decide +kernel
theorem dJ9_abs_0f7a4_9 : decode cJ9_abs_0f7a4 9 = .ok (.iload_n 0, 1) := by decide +kernel
theorem dJ9_abs_0f7a4_10 : decode cJ9_abs_0f7a4 10 = .ok (.ireturn, 1) := by decide +kernel
theorem oJ9_abs_0f7a4_0 : OKI 250 0 (.iload_n 0, 1, [0], 0, 0, []) := And.intro dJ9_abs_0f7a4_0 (And.intro rfl (rfl))
theorem oJ9_abs_0f7a4_1 : OKI 250 1 (.ifCond .ge 8, 4, [9], 0, 0, []) := And.intro dJ9_abs_0f7a4_1 (And.intro rfl (by decide))
theorem oJ9_abs_0f7a4_4 : OKI 250 4 (.iload_n 0, 5, [0], 0, 0, []) := And.intro dJ9_abs_0f7a4_4 (And.intro rfl (rfl))
theorem oJ9_abs_0f7a4_5 : OKI 250 5 (.ineg, 6, [], 0, 0, []) := And.intro dJ9_abs_0f7a4_5 rfl
theorem oJ9_abs_0f7a4_6 : OKI 250 6 (.goto 4, 9, [10], 0, 0, []) := And.intro dJ9_abs_0f7a4_6 (And.intro rfl (by decide))
theorem oJ9_abs_0f7a4_9 : OKI 250 9 (.iload_n 0, 10, [0], 0, 0, []) := And.intro dJ9_abs_0f7a4_9 (And.intro rfl (rfl))
theorem oJ9_abs_0f7a4_10 : OKI 250 10 (.ireturn, 11, [0], 0, 0, []) := And.intro dJ9_abs_0f7a4_10 (Or.inl (And.intro rfl rfl))
def pfJ9_abs_0f7a4 (pc : Nat) : Option XE := (bif Nat.blt pc 5 then (bif Nat.blt pc 1 then (bif Nat.beq pc 0 then some (.iload_n 0, 1, [0], 0, 0, []) else none) else (bif Nat.blt pc 4 then (bif Nat.beq pc 1 then some (.ifCond .ge 8, 4, [9], 0, 0, []) else none) else (bif Nat.beq pc 4 then some (.iload_n 0, 5, [0], 0, 0, []) else none))) else (bif Nat.blt pc 9 then (bif Nat.blt pc 6 then (bif Nat.beq pc 5 then some (.ineg, 6, [], 0, 0, []) else none) else (bif Nat.beq pc 6 then some (.goto 4, 9, [10], 0, 0, []) else none)) else (bif Nat.blt pc 10 then (bif Nat.beq pc 9 then some (.iload_n 0, 10, [0], 0, 0, []) else none) else (bif Nat.beq pc 10 then some (.ireturn, 11, [0], 0, 0, []) else none))))
theorem okJ9_abs_0f7a4 : ∀ pc Y, pfJ9_abs_0f7a4 pc = some Y → OKI m_J9_abs_0f7a4 pc Y := fun pc Y => ((bt_node (bt_node (bt_leaf (P := OKI m_J9_abs_0f7a4) oJ9_abs_0f7a4_0) (bt_node (bt_leaf (P := OKI m_J9_abs_0f7a4) oJ9_abs_0f7a4_1) (bt_leaf (P := OKI m_J9_abs_0f7a4) oJ9_abs_0f7a4_4))) (bt_node (bt_node (bt_leaf (P := OKI m_J9_abs_0f7a4) oJ9_abs_0f7a4_5) (bt_leaf (P := OKI m_J9_abs_0f7a4) oJ9_abs_0f7a4_6)) (bt_node (bt_leaf (P := OKI m_J9_abs_0f7a4) oJ9_abs_0f7a4_9) (bt_leaf (P := OKI m_J9_abs_0f7a4) oJ9_abs_0f7a4_10)))) : pfJ9_abs_0f7a4 pc = some Y → OKI m_J9_abs_0f7a4 pc Y)
def stpJ9_abs_0f7a4 (pc : Nat) : Option (List Bool) := (bif Nat.beq pc 10 then some [false] else none)
def bJ9_abs_0f7a4_0 (d rc rs : Nat) (a1 : Int32) (σ : XH) (Q : XV → XH → Prop) : Prop :=
  ((a1 < 0 → Ex d rc rs m_J9_abs_0f7a4 10 [vU] [vI (-a1)] σ Q) ∧ (¬ a1 < 0 → Ex d rc rs m_J9_abs_0f7a4 10 [vU] [vI a1] σ Q))
theorem sJ9_abs_0f7a4_0 {d rc rs : Nat} {a1 : Int32} {σ : XH} {Q : XV → XH → Prop} (h : bJ9_abs_0f7a4_0 d rc rs a1 σ Q) : Ex d rc rs m_J9_abs_0f7a4 0 [vI a1] [] σ Q :=
  xtree_sound (stop := stpJ9_abs_0f7a4) okJ9_abs_0f7a4 7 _ _ _ _ _ _ h
def bJ9_abs_0f7a4_10 (d rc rs : Nat) (q0 : Int32) (σ : XH) (Q : XV → XH → Prop) : Prop :=
  Q (vI q0) σ
theorem sJ9_abs_0f7a4_10 {d rc rs : Nat} {q0 : Int32} {σ : XH} {Q : XV → XH → Prop} (h : bJ9_abs_0f7a4_10 d rc rs q0 σ Q) : Ex d rc rs m_J9_abs_0f7a4 10 [vU] [vI q0] σ Q :=
  xtree_sound (stop := stpJ9_abs_0f7a4) okJ9_abs_0f7a4 3 _ _ _ _ _ _ h
/-! java/lang/Math.abs(J)J -/
theorem dJ9_abs_067f4_0 : decode cJ9_abs_067f4 0 = .ok (.lload_n 0, 1) := by decide +kernel
theorem dJ9_abs_067f4_1 : decode cJ9_abs_067f4 1 = .ok (.lconst 0, 1) := by decide +kernel
theorem dJ9_abs_067f4_2 : decode cJ9_abs_067f4 2 = .ok (.lcmp, 1) := by decide +kernel
theorem dJ9_abs_067f4_3 : decode cJ9_abs_067f4 3 = .ok (.ifCond .ge 8, 3) := by decide +kernel
theorem dJ9_abs_067f4_6 : decode cJ9_abs_067f4 6 = .ok (.lload_n 0, 1) := by decide +kernel
theorem dJ9_abs_067f4_7 : decode cJ9_abs_067f4 7 = .ok (.lneg, 1) := by decide +kernel
theorem dJ9_abs_067f4_8 : decode cJ9_abs_067f4 8 = .ok (.goto 4, 3) := by decide +kernel
theorem dJ9_abs_067f4_11 : decode cJ9_abs_067f4 11 = .ok (.lload_n 0, 1) := by decide +kernel
theorem dJ9_abs_067f4_12 : decode cJ9_abs_067f4 12 = .ok (.lreturn, 1) := by decide +kernel
theorem oJ9_abs_067f4_0 : OKI 251 0 (.lload_n 0, 1, [0], 0, 0, []) := And.intro dJ9_abs_067f4_0 (And.intro rfl (rfl))
theorem oJ9_abs_067f4_1 : OKI 251 1 (.lconst 0, 2, [], 0, 0, []) := And.intro dJ9_abs_067f4_1 (And.intro rfl (by decide +kernel))
theorem oJ9_abs_067f4_2 : OKI 251 2 (.lcmp, 3, [], 0, 0, []) := And.intro dJ9_abs_067f4_2 rfl
theorem oJ9_abs_067f4_3 : OKI 251 3 (.ifCond .ge 8, 6, [11], 0, 0, []) := And.intro dJ9_abs_067f4_3 (And.intro rfl (by decide))
theorem oJ9_abs_067f4_6 : OKI 251 6 (.lload_n 0, 7, [0], 0, 0, []) := And.intro dJ9_abs_067f4_6 (And.intro rfl (rfl))
theorem oJ9_abs_067f4_7 : OKI 251 7 (.lneg, 8, [], 0, 0, []) := And.intro dJ9_abs_067f4_7 rfl
theorem oJ9_abs_067f4_8 : OKI 251 8 (.goto 4, 11, [12], 0, 0, []) := And.intro dJ9_abs_067f4_8 (And.intro rfl (by decide))
theorem oJ9_abs_067f4_11 : OKI 251 11 (.lload_n 0, 12, [0], 0, 0, []) := And.intro dJ9_abs_067f4_11 (And.intro rfl (rfl))
theorem oJ9_abs_067f4_12 : OKI 251 12 (.lreturn, 13, [], 0, 0, []) := And.intro dJ9_abs_067f4_12 rfl
def pfJ9_abs_067f4 (pc : Nat) : Option XE := (bif Nat.blt pc 6 then (bif Nat.blt pc 2 then (bif Nat.blt pc 1 then (bif Nat.beq pc 0 then some (.lload_n 0, 1, [0], 0, 0, []) else none) else (bif Nat.beq pc 1 then some (.lconst 0, 2, [], 0, 0, []) else none)) else (bif Nat.blt pc 3 then (bif Nat.beq pc 2 then some (.lcmp, 3, [], 0, 0, []) else none) else (bif Nat.beq pc 3 then some (.ifCond .ge 8, 6, [11], 0, 0, []) else none))) else (bif Nat.blt pc 8 then (bif Nat.blt pc 7 then (bif Nat.beq pc 6 then some (.lload_n 0, 7, [0], 0, 0, []) else none) else (bif Nat.beq pc 7 then some (.lneg, 8, [], 0, 0, []) else none)) else (bif Nat.blt pc 11 then (bif Nat.beq pc 8 then some (.goto 4, 11, [12], 0, 0, []) else none) else (bif Nat.blt pc 12 then (bif Nat.beq pc 11 then some (.lload_n 0, 12, [0], 0, 0, []) else none) else (bif Nat.beq pc 12 then some (.lreturn, 13, [], 0, 0, []) else none)))))
theorem okJ9_abs_067f4 : ∀ pc Y, pfJ9_abs_067f4 pc = some Y → OKI m_J9_abs_067f4 pc Y := fun pc Y => ((bt_node (bt_node (bt_node (bt_leaf (P := OKI m_J9_abs_067f4) oJ9_abs_067f4_0) (bt_leaf (P := OKI m_J9_abs_067f4) oJ9_abs_067f4_1)) (bt_node (bt_leaf (P := OKI m_J9_abs_067f4) oJ9_abs_067f4_2) (bt_leaf (P := OKI m_J9_abs_067f4) oJ9_abs_067f4_3))) (bt_node (bt_node (bt_leaf (P := OKI m_J9_abs_067f4) oJ9_abs_067f4_6) (bt_leaf (P := OKI m_J9_abs_067f4) oJ9_abs_067f4_7)) (bt_node (bt_leaf (P := OKI m_J9_abs_067f4) oJ9_abs_067f4_8) (bt_node (bt_leaf (P := OKI m_J9_abs_067f4) oJ9_abs_067f4_11) (bt_leaf (P := OKI m_J9_abs_067f4) oJ9_abs_067f4_12))))) : pfJ9_abs_067f4 pc = some Y → OKI m_J9_abs_067f4 pc Y)
def stpJ9_abs_067f4 (pc : Nat) : Option (List Bool) := (bif Nat.beq pc 12 then some [false, false] else none)
def bJ9_abs_067f4_0 (d rc rs : Nat) (a1 : Int64) (σ : XH) (Q : XV → XH → Prop) : Prop :=
  (((lg_cmp a1 0) < 0 → Ex d rc rs m_J9_abs_067f4 12 [vU, vU] [vL (-a1)] σ Q) ∧ (¬ (lg_cmp a1 0) < 0 → Ex d rc rs m_J9_abs_067f4 12 [vU, vU] [vL a1] σ Q))
theorem sJ9_abs_067f4_0 {d rc rs : Nat} {a1 : Int64} {σ : XH} {Q : XV → XH → Prop} (h : bJ9_abs_067f4_0 d rc rs a1 σ Q) : Ex d rc rs m_J9_abs_067f4 0 [vL a1, vU] [] σ Q :=
  xtree_sound (stop := stpJ9_abs_067f4) okJ9_abs_067f4 9 _ _ _ _ _ _ h
def bJ9_abs_067f4_12 (d rc rs : Nat) (q0 : Int64) (σ : XH) (Q : XV → XH → Prop) : Prop :=
  Q (vL q0) σ
theorem sJ9_abs_067f4_12 {d rc rs : Nat} {q0 : Int64} {σ : XH} {Q : XV → XH → Prop} (h : bJ9_abs_067f4_12 d rc rs q0 σ Q) : Ex d rc rs m_J9_abs_067f4 12 [vU, vU] [vL q0] σ Q :=
  xtree_sound (stop := stpJ9_abs_067f4) okJ9_abs_067f4 3 _ _ _ _ _ _ h
/-! java/lang/Math.max(II)I -/
theorem dJ9_max_7cf53_0 : decode cJ9_max_7cf53 0 = .ok (.iload_n 0, 1) := by decide +kernel
theorem dJ9_max_7cf53_1 : decode cJ9_max_7cf53 1 = .ok (.iload_n 1, 1) := by decide +kernel
theorem dJ9_max_7cf53_2 : decode cJ9_max_7cf53 2 = .ok (.if_icmp .lt 7, 3) := by decide +kernel
theorem dJ9_max_7cf53_5 : decode cJ9_max_7cf53 5 = .ok (.iload_n 0, 1) := by decide +kernel
theorem dJ9_max_7cf53_6 : decode cJ9_max_7cf53 6 = .ok (.goto 4, 3) := by decide +kernel
theorem dJ9_max_7cf53_9 : decode cJ9_max_7cf53 9 = .ok (.iload_n 1, 1) := by decide +kernel
theorem dJ9_max_7cf53_10 : decode cJ9_max_7cf53 10 = .ok (.ireturn, 1) := by decide +kernel
theorem oJ9_max_7cf53_0 : OKI 252 0 (.iload_n 0, 1, [0], 0, 0, []) := And.intro dJ9_max_7cf53_0 (And.intro rfl (rfl))
theorem oJ9_max_7cf53_1 : OKI 252 1 (.iload_n 1, 2, [1], 0, 0, []) := And.intro dJ9_max_7cf53_1 (And.intro rfl (rfl))
theorem oJ9_max_7cf53_2 : OKI 252 2 (.if_icmp .lt 7, 5, [9], 0, 0, []) := And.intro dJ9_max_7cf53_2 (And.intro rfl (by decide))
theorem oJ9_max_7cf53_5 : OKI 252 5 (.iload_n 0, 6, [0], 0, 0, []) := And.intro dJ9_max_7cf53_5 (And.intro rfl (rfl))
theorem oJ9_max_7cf53_6 : OKI 252 6 (.goto 4, 9, [10], 0, 0, []) := And.intro dJ9_max_7cf53_6 (And.intro rfl (by decide))
theorem oJ9_max_7cf53_9 : OKI 252 9 (.iload_n 1, 10, [1], 0, 0, []) := And.intro dJ9_max_7cf53_9 (And.intro rfl (rfl))
theorem oJ9_max_7cf53_10 : OKI 252 10 (.ireturn, 11, [0], 0, 0, []) := And.intro dJ9_max_7cf53_10 (Or.inl (And.intro rfl rfl))
def pfJ9_max_7cf53 (pc : Nat) : Option XE := (bif Nat.blt pc 5 then (bif Nat.blt pc 1 then (bif Nat.beq pc 0 then some (.iload_n 0, 1, [0], 0, 0, []) else none) else (bif Nat.blt pc 2 then (bif Nat.beq pc 1 then some (.iload_n 1, 2, [1], 0, 0, []) else none) else (bif Nat.beq pc 2 then some (.if_icmp .lt 7, 5, [9], 0, 0, []) else none))) else (bif Nat.blt pc 9 then (bif Nat.blt pc 6 then (bif Nat.beq pc 5 then some (.iload_n 0, 6, [0], 0, 0, []) else none) else (bif Nat.beq pc 6 then some (.goto 4, 9, [10], 0, 0, []) else none)) else (bif Nat.blt pc 10 then (bif Nat.beq pc 9 then some (.iload_n 1, 10, [1], 0, 0, []) else none) else (bif Nat.beq pc 10 then some (.ireturn, 11, [0], 0, 0, []) else none))))
theorem okJ9_max_7cf53 : ∀ pc Y, pfJ9_max_7cf53 pc = some Y → OKI m_J9_max_7cf53 pc Y := fun pc Y => ((bt_node (bt_node (bt_leaf (P := OKI m_J9_max_7cf53) oJ9_max_7cf53_0) (bt_node (bt_leaf (P := OKI m_J9_max_7cf53) oJ9_max_7cf53_1) (bt_leaf (P := OKI m_J9_max_7cf53) oJ9_max_7cf53_2))) (bt_node (bt_node (bt_leaf (P := OKI m_J9_max_7cf53) oJ9_max_7cf53_5) (bt_leaf (P := OKI m_J9_max_7cf53) oJ9_max_7cf53_6)) (bt_node (bt_leaf (P := OKI m_J9_max_7cf53) oJ9_max_7cf53_9) (bt_leaf (P := OKI m_J9_max_7cf53) oJ9_max_7cf53_10)))) : pfJ9_max_7cf53 pc = some Y → OKI m_J9_max_7cf53 pc Y)
def stpJ9_max_7cf53 (pc : Nat) : Option (List Bool) := (bif Nat.beq pc 10 then some [false, false] else none)
def bJ9_max_7cf53_0 (d rc rs : Nat) (a1 : Int32) (a2 : Int32) (σ : XH) (Q : XV → XH → Prop) : Prop :=
  ((a1 < a2 → Ex d rc rs m_J9_max_7cf53 10 [vU, vU] [vI a2] σ Q) ∧ (¬ a1 < a2 → Ex d rc rs m_J9_max_7cf53 10 [vU, vU] [vI a1] σ Q))
theorem sJ9_max_7cf53_0 {d rc rs : Nat} {a1 : Int32} {a2 : Int32} {σ : XH} {Q : XV → XH → Prop} (h : bJ9_max_7cf53_0 d rc rs a1 a2 σ Q) : Ex d rc rs m_J9_max_7cf53 0 [vI a1, vI a2] [] σ Q :=
  xtree_sound (stop := stpJ9_max_7cf53) okJ9_max_7cf53 7 _ _ _ _ _ _ h
def bJ9_max_7cf53_10 (d rc rs : Nat) (q0 : Int32) (σ : XH) (Q : XV → XH → Prop) : Prop :=
  Q (vI q0) σ
theorem sJ9_max_7cf53_10 {d rc rs : Nat} {q0 : Int32} {σ : XH} {Q : XV → XH → Prop} (h : bJ9_max_7cf53_10 d rc rs q0 σ Q) : Ex d rc rs m_J9_max_7cf53 10 [vU, vU] [vI q0] σ Q :=
  xtree_sound (stop := stpJ9_max_7cf53) okJ9_max_7cf53 3 _ _ _ _ _ _ h
/-! java/lang/Math.max(JJ)J -/
theorem dJ9_max_f86c9_0 : decode cJ9_max_f86c9 0 = .ok (.lload_n 0, 1) := by decide +kernel
theorem dJ9_max_f86c9_1 : decode cJ9_max_f86c9 1 = .ok (.lload_n 2, 1) := by decide +kernel
theorem dJ9_max_f86c9_2 : decode cJ9_max_f86c9 2 = .ok (.lcmp, 1) := by decide +kernel
theorem dJ9_max_f86c9_3 : decode cJ9_max_f86c9 3 = .ok (.ifCond .lt 7, 3) := by decide +kernel
theorem dJ9_max_f86c9_6 : decode cJ9_max_f86c9 6 = .ok (.lload_n 0, 1) := by decide +kernel
theorem dJ9_max_f86c9_7 : decode cJ9_max_f86c9 7 = .ok (.goto 4, 3) := by decide +kernel
theorem dJ9_max_f86c9_10 : decode cJ9_max_f86c9 10 = .ok (.lload_n 2, 1) := by decide +kernel
theorem dJ9_max_f86c9_11 : decode cJ9_max_f86c9 11 = .ok (.lreturn, 1) := by decide +kernel
theorem oJ9_max_f86c9_0 : OKI 253 0 (.lload_n 0, 1, [0], 0, 0, []) := And.intro dJ9_max_f86c9_0 (And.intro rfl (rfl))
theorem oJ9_max_f86c9_1 : OKI 253 1 (.lload_n 2, 2, [2], 0, 0, []) := And.intro dJ9_max_f86c9_1 (And.intro rfl (rfl))
theorem oJ9_max_f86c9_2 : OKI 253 2 (.lcmp, 3, [], 0, 0, []) := And.intro dJ9_max_f86c9_2 rfl
theorem oJ9_max_f86c9_3 : OKI 253 3 (.ifCond .lt 7, 6, [10], 0, 0, []) := And.intro dJ9_max_f86c9_3 (And.intro rfl (by decide))
theorem oJ9_max_f86c9_6 : OKI 253 6 (.lload_n 0, 7, [0], 0, 0, []) := And.intro dJ9_max_f86c9_6 (And.intro rfl (rfl))
theorem oJ9_max_f86c9_7 : OKI 253 7 (.goto 4, 10, [11], 0, 0, []) := And.intro dJ9_max_f86c9_7 (And.intro rfl (by decide))
theorem oJ9_max_f86c9_10 : OKI 253 10 (.lload_n 2, 11, [2], 0, 0, []) := And.intro dJ9_max_f86c9_10 (And.intro rfl (rfl))
theorem oJ9_max_f86c9_11 : OKI 253 11 (.lreturn, 12, [], 0, 0, []) := And.intro dJ9_max_f86c9_11 rfl
def pfJ9_max_f86c9 (pc : Nat) : Option XE := (bif Nat.blt pc 6 then (bif Nat.blt pc 2 then (bif Nat.blt pc 1 then (bif Nat.beq pc 0 then some (.lload_n 0, 1, [0], 0, 0, []) else none) else (bif Nat.beq pc 1 then some (.lload_n 2, 2, [2], 0, 0, []) else none)) else (bif Nat.blt pc 3 then (bif Nat.beq pc 2 then some (.lcmp, 3, [], 0, 0, []) else none) else (bif Nat.beq pc 3 then some (.ifCond .lt 7, 6, [10], 0, 0, []) else none))) else (bif Nat.blt pc 10 then (bif Nat.blt pc 7 then (bif Nat.beq pc 6 then some (.lload_n 0, 7, [0], 0, 0, []) else none) else (bif Nat.beq pc 7 then some (.goto 4, 10, [11], 0, 0, []) else none)) else (bif Nat.blt pc 11 then (bif Nat.beq pc 10 then some (.lload_n 2, 11, [2], 0, 0, []) else none) else (bif Nat.beq pc 11 then some (.lreturn, 12, [], 0, 0, []) else none))))
theorem okJ9_max_f86c9 : ∀ pc Y, pfJ9_max_f86c9 pc = some Y → OKI m_J9_max_f86c9 pc Y := fun pc Y => ((bt_node (bt_node (bt_node (bt_leaf (P := OKI m_J9_max_f86c9) oJ9_max_f86c9_0) (bt_leaf (P := OKI m_J9_max_f86c9) oJ9_max_f86c9_1)) (bt_node (bt_leaf (P := OKI m_J9_max_f86c9) oJ9_max_f86c9_2) (bt_leaf (P := OKI m_J9_max_f86c9) oJ9_max_f86c9_3))) (bt_node (bt_node (bt_leaf (P := OKI m_J9_max_f86c9) oJ9_max_f86c9_6) (bt_leaf (P := OKI m_J9_max_f86c9) oJ9_max_f86c9_7)) (bt_node (bt_leaf (P := OKI m_J9_max_f86c9) oJ9_max_f86c9_10) (bt_leaf (P := OKI m_J9_max_f86c9) oJ9_max_f86c9_11)))) : pfJ9_max_f86c9 pc = some Y → OKI m_J9_max_f86c9 pc Y)
def stpJ9_max_f86c9 (pc : Nat) : Option (List Bool) := (bif Nat.beq pc 11 then some [false, false, false, false] else none)
def bJ9_max_f86c9_0 (d rc rs : Nat) (a1 : Int64) (a2 : Int64) (σ : XH) (Q : XV → XH → Prop) : Prop :=
  (((lg_cmp a1 a2) < 0 → Ex d rc rs m_J9_max_f86c9 11 [vU, vU, vU, vU] [vL a2] σ Q) ∧ (¬ (lg_cmp a1 a2) < 0 → Ex d rc rs m_J9_max_f86c9 11 [vU, vU, vU, vU] [vL a1] σ Q))
theorem sJ9_max_f86c9_0 {d rc rs : Nat} {a1 : Int64} {a2 : Int64} {σ : XH} {Q : XV → XH → Prop} (h : bJ9_max_f86c9_0 d rc rs a1 a2 σ Q) : Ex d rc rs m_J9_max_f86c9 0 [vL a1, vU, vL a2, vU] [] σ Q :=
  xtree_sound (stop := stpJ9_max_f86c9) okJ9_max_f86c9 8 _ _ _ _ _ _ h
def bJ9_max_f86c9_11 (d rc rs : Nat) (q0 : Int64) (σ : XH) (Q : XV → XH → Prop) : Prop :=
  Q (vL q0) σ
theorem sJ9_max_f86c9_11 {d rc rs : Nat} {q0 : Int64} {σ : XH} {Q : XV → XH → Prop} (h : bJ9_max_f86c9_11 d rc rs q0 σ Q) : Ex d rc rs m_J9_max_f86c9 11 [vU, vU, vU, vU] [vL q0] σ Q :=
  xtree_sound (stop := stpJ9_max_f86c9) okJ9_max_f86c9 3 _ _ _ _ _ _ h
/-! java/lang/Math.min(II)I -/
theorem dJ9_min_7cf53_0 : decode cJ9_min_7cf53 0 = .ok (.iload_n 0, 1) := by decide +kernel
theorem dJ9_min_7cf53_1 : decode cJ9_min_7cf53 1 = .ok (.iload_n 1, 1) := by decide +kernel
theorem dJ9_min_7cf53_2 : decode cJ9_min_7cf53 2 = .ok (.if_icmp .gt 7, 3) := by decide +kernel
theorem dJ9_min_7cf53_5 : decode cJ9_min_7cf53 5 = .ok (.iload_n 0, 1) := by decide +kernel
theorem dJ9_min_7cf53_6 : decode cJ9_min_7cf53 6 = .ok (.goto 4, 3) := by decide +kernel
theorem dJ9_min_7cf53_9 : decode cJ9_min_7cf53 9 = .ok (.iload_n 1, 1) := by decide +kernel
theorem dJ9_min_7cf53_10 : decode cJ9_min_7cf53 10 = .ok (.ireturn, 1) := by decide +kernel
theorem oJ9_min_7cf53_0 : OKI 254 0 (.iload_n 0, 1, [0], 0, 0, []) := And.intro dJ9_min_7cf53_0 (And.intro rfl (rfl))
theorem oJ9_min_7cf53_1 : OKI 254 1 (.iload_n 1, 2, [1], 0, 0, []) := And.intro dJ9_min_7cf53_1 (And.intro rfl (rfl))
theorem oJ9_min_7cf53_2 : OKI 254 2 (.if_icmp .gt 7, 5, [9], 0, 0, []) := And.intro dJ9_min_7cf53_2 (And.intro rfl (by decide))
theorem oJ9_min_7cf53_5 : OKI 254 5 (.iload_n 0, 6, [0], 0, 0, []) := And.intro dJ9_min_7cf53_5 (And.intro rfl (rfl))
theorem oJ9_min_7cf53_6 : OKI 254 6 (.goto 4, 9, [10], 0, 0, []) := And.intro dJ9_min_7cf53_6 (And.intro rfl (by decide))
theorem oJ9_min_7cf53_9 : OKI 254 9 (.iload_n 1, 10, [1], 0, 0, []) := And.intro dJ9_min_7cf53_9 (And.intro rfl (rfl))
theorem oJ9_min_7cf53_10 : OKI 254 10 (.ireturn, 11, [0], 0, 0, []) := And.intro dJ9_min_7cf53_10 (Or.inl (And.intro rfl rfl))
def pfJ9_min_7cf53 (pc : Nat) : Option XE := (bif Nat.blt pc 5 then (bif Nat.blt pc 1 then (bif Nat.beq pc 0 then some (.iload_n 0, 1, [0], 0, 0, []) else none) else (bif Nat.blt pc 2 then (bif Nat.beq pc 1 then some (.iload_n 1, 2, [1], 0, 0, []) else none) else (bif Nat.beq pc 2 then some (.if_icmp .gt 7, 5, [9], 0, 0, []) else none))) else (bif Nat.blt pc 9 then (bif Nat.blt pc 6 then (bif Nat.beq pc 5 then some (.iload_n 0, 6, [0], 0, 0, []) else none) else (bif Nat.beq pc 6 then some (.goto 4, 9, [10], 0, 0, []) else none)) else (bif Nat.blt pc 10 then (bif Nat.beq pc 9 then some (.iload_n 1, 10, [1], 0, 0, []) else none) else (bif Nat.beq pc 10 then some (.ireturn, 11, [0], 0, 0, []) else none))))
theorem okJ9_min_7cf53 : ∀ pc Y, pfJ9_min_7cf53 pc = some Y → OKI m_J9_min_7cf53 pc Y := fun pc Y => ((bt_node (bt_node (bt_leaf (P := OKI m_J9_min_7cf53) oJ9_min_7cf53_0) (bt_node (bt_leaf (P := OKI m_J9_min_7cf53) oJ9_min_7cf53_1) (bt_leaf (P := OKI m_J9_min_7cf53) oJ9_min_7cf53_2))) (bt_node (bt_node (bt_leaf (P := OKI m_J9_min_7cf53) oJ9_min_7cf53_5) (bt_leaf (P := OKI m_J9_min_7cf53) oJ9_min_7cf53_6)) (bt_node (bt_leaf (P := OKI m_J9_min_7cf53) oJ9_min_7cf53_9) (bt_leaf (P := OKI m_J9_min_7cf53) oJ9_min_7cf53_10)))) : pfJ9_min_7cf53 pc = some Y → OKI m_J9_min_7cf53 pc Y)
def stpJ9_min_7cf53 (pc : Nat) : Option (List Bool) := (bif Nat.beq pc 10 then some [false, false] else none)
def bJ9_min_7cf53_0 (d rc rs : Nat) (a1 : Int32) (a2 : Int32) (σ : XH) (Q : XV → XH → Prop) : Prop :=
  ((a2 < a1 → Ex d rc rs m_J9_min_7cf53 10 [vU, vU] [vI a2] σ Q) ∧ (¬ a2 < a1 → Ex d rc rs m_J9_min_7cf53 10 [vU, vU] [vI a1] σ Q))
theorem sJ9_min_7cf53_0 {d rc rs : Nat} {a1 : Int32} {a2 : Int32} {σ : XH} {Q : XV → XH → Prop} (h : bJ9_min_7cf53_0 d rc rs a1 a2 σ Q) : Ex d rc rs m_J9_min_7cf53 0 [vI a1, vI a2] [] σ Q :=
  xtree_sound (stop := stpJ9_min_7cf53) okJ9_min_7cf53 7 _ _ _ _ _ _ h
def bJ9_min_7cf53_10 (d rc rs : Nat) (q0 : Int32) (σ : XH) (Q : XV → XH → Prop) : Prop :=
  Q (vI q0) σ
theorem sJ9_min_7cf53_10 {d rc rs : Nat} {q0 : Int32} {σ : XH} {Q : XV → XH → Prop} (h : bJ9_min_7cf53_10 d rc rs q0 σ Q) : Ex d rc rs m_J9_min_7cf53 10 [vU, vU] [vI q0] σ Q :=
  xtree_sound (stop := stpJ9_min_7cf53) okJ9_min_7cf53 3 _ _ _ _ _ _ h
/-! java/lang/Math.min(JJ)J -/
theorem dJ9_min_f86c9_0 : decode cJ9_min_f86c9 0 = .ok (.lload_n 0, 1) := by decide +kernel
theorem dJ9_min_f86c9_1 : decode cJ9_min_f86c9 1 = .ok (.lload_n 2, 1) := by decide +kernel
theorem dJ9_min_f86c9_2 : decode cJ9_min_f86c9 2 = .ok (.lcmp, 1) := by decide +kernel
theorem dJ9_min_f86c9_3 : decode cJ9_min_f86c9 3 = .ok (.ifCond .gt 7, 3) := by decide +kernel
theorem dJ9_min_f86c9_6 : decode cJ9_min_f86c9 6 = .ok (.lload_n 0, 1) := by decide +kernel
theorem dJ9_min_f86c9_7 : decode cJ9_min_f86c9 7 = .ok (.goto 4, 3) := by decide +kernel
theorem dJ9_min_f86c9_10 : decode cJ9_min_f86c9 10 = .ok (.lload_n 2, 1) := by decide +kernel
theorem dJ9_min_f86c9_11 : decode cJ9_min_f86c9 11 = .ok (.lreturn, 1) := by decide +kernel
theorem oJ9_min_f86c9_0 : OKI 255 0 (.lload_n 0, 1, [0], 0, 0, []) := And.intro dJ9_min_f86c9_0 (And.intro rfl (rfl))
theorem oJ9_min_f86c9_1 : OKI 255 1 (.lload_n 2, 2, [2], 0, 0, []) := And.intro dJ9_min_f86c9_1 (And.intro rfl (rfl))
theorem oJ9_min_f86c9_2 : OKI 255 2 (.lcmp, 3, [], 0, 0, []) := And.intro dJ9_min_f86c9_2 rfl
theorem oJ9_min_f86c9_3 : OKI 255 3 (.ifCond .gt 7, 6, [10], 0, 0, []) := And.intro dJ9_min_f86c9_3 (And.intro rfl (by decide))
theorem oJ9_min_f86c9_6 : OKI 255 6 (.lload_n 0, 7, [0], 0, 0, []) := And.intro dJ9_min_f86c9_6 (And.intro rfl (rfl))
theorem oJ9_min_f86c9_7 : OKI 255 7 (.goto 4, 10, [11], 0, 0, []) := And.intro dJ9_min_f86c9_7 (And.intro rfl (by decide))
theorem oJ9_min_f86c9_10 : OKI 255 10 (.lload_n 2, 11, [2], 0, 0, []) := And.intro dJ9_min_f86c9_10 (And.intro rfl (rfl))
theorem oJ9_min_f86c9_11 : OKI 255 11 (.lreturn, 12, [], 0, 0, []) := And.intro dJ9_min_f86c9_11 rfl
def pfJ9_min_f86c9 (pc : Nat) : Option XE := (bif Nat.blt pc 6 then (bif Nat.blt pc 2 then (bif Nat.blt pc 1 then (bif Nat.beq pc 0 then some (.lload_n 0, 1, [0], 0, 0, []) else none) else (bif Nat.beq pc 1 then some (.lload_n 2, 2, [2], 0, 0, []) else none)) else (bif Nat.blt pc 3 then (bif Nat.beq pc 2 then some (.lcmp, 3, [], 0, 0, []) else none) else (bif Nat.beq pc 3 then some (.ifCond .gt 7, 6, [10], 0, 0, []) else none))) else (bif Nat.blt pc 10 then (bif Nat.blt pc 7 then (bif Nat.beq pc 6 then some (.lload_n 0, 7, [0], 0, 0, []) else none) else (bif Nat.beq pc 7 then some (.goto 4, 10, [11], 0, 0, []) else none)) else (bif Nat.blt pc 11 then (bif Nat.beq pc 10 then some (.lload_n 2, 11, [2], 0, 0, []) else none) else (bif Nat.beq pc 11 then some (.lreturn, 12, [], 0, 0, []) else none))))
theorem okJ9_min_f86c9 : ∀ pc Y, pfJ9_min_f86c9 pc = some Y → OKI m_J9_min_f86c9 pc Y := fun pc Y => ((bt_node (bt_node (bt_node (bt_leaf (P := OKI m_J9_min_f86c9) oJ9_min_f86c9_0) (bt_leaf (P := OKI m_J9_min_f86c9) oJ9_min_f86c9_1)) (bt_node (bt_leaf (P := OKI m_J9_min_f86c9) oJ9_min_f86c9_2) (bt_leaf (P := OKI m_J9_min_f86c9) oJ9_min_f86c9_3))) (bt_node (bt_node (bt_leaf (P := OKI m_J9_min_f86c9) oJ9_min_f86c9_6) (bt_leaf (P := OKI m_J9_min_f86c9) oJ9_min_f86c9_7)) (bt_node (bt_leaf (P := OKI m_J9_min_f86c9) oJ9_min_f86c9_10) (bt_leaf (P := OKI m_J9_min_f86c9) oJ9_min_f86c9_11)))) : pfJ9_min_f86c9 pc = some Y → OKI m_J9_min_f86c9 pc Y)
def stpJ9_min_f86c9 (pc : Nat) : Option (List Bool) := (bif Nat.beq pc 11 then some [false, false, false, false] else none)
def bJ9_min_f86c9_0 (d rc rs : Nat) (a1 : Int64) (a2 : Int64) (σ : XH) (Q : XV → XH → Prop) : Prop :=
  ((0 < (lg_cmp a1 a2) → Ex d rc rs m_J9_min_f86c9 11 [vU, vU, vU, vU] [vL a2] σ Q) ∧ (¬ 0 < (lg_cmp a1 a2) → Ex d rc rs m_J9_min_f86c9 11 [vU, vU, vU, vU] [vL a1] σ Q))
theorem sJ9_min_f86c9_0 {d rc rs : Nat} {a1 : Int64} {a2 : Int64} {σ : XH} {Q : XV → XH → Prop} (h : bJ9_min_f86c9_0 d rc rs a1 a2 σ Q) : Ex d rc rs m_J9_min_f86c9 0 [vL a1, vU, vL a2, vU] [] σ Q :=
  xtree_sound (stop := stpJ9_min_f86c9) okJ9_min_f86c9 8 _ _ _ _ _ _ h
def bJ9_min_f86c9_11 (d rc rs : Nat) (q0 : Int64) (σ : XH) (Q : XV → XH → Prop) : Prop :=
  Q (vL q0) σ
theorem sJ9_min_f86c9_11 {d rc rs : Nat} {q0 : Int64} {σ : XH} {Q : XV → XH → Prop} (h : bJ9_min_f86c9_11 d rc rs q0 σ Q) : Ex d rc rs m_J9_min_f86c9 11 [vU, vU, vU, vU] [vL q0] σ Q :=
  xtree_sound (stop := stpJ9_min_f86c9) okJ9_min_f86c9 3 _ _ _ _ _ _ h
/-! java/lang/String.length()I -/
theorem dJ0_length_8abf5_0 : decode cJ0_length_8abf5 0 = .ok (.aload_n 0, 1) := by decide +kernel
theorem dJ0_length_8abf5_1 : decode cJ0_length_8abf5 1 = .ok (.getfield 9, 3) := by decide +kernel
theorem dJ0_length_8abf5_4 : decode cJ0_length_8abf5 4 = .ok (.arraylength, 1) := by decide +kernel
theorem dJ0_length_8abf5_5 : decode cJ0_length_8abf5 5 = .ok (.aload_n 0, 1) := by decide +kernel
theorem dJ0_length_8abf5_6 : decode cJ0_length_8abf5 6 = .ok (.invokevirtual 335, 3) := by decide +kernel
theorem dJ0_length_8abf5_9 : decode cJ0_length_8abf5 9 = .ok (.ishr, 1) := by decide +kernel
theorem dJ0_length_8abf5_10 : decode cJ0_length_8abf5 10 = .ok (.ireturn, 1) := by decide +kernel
theorem oJ0_length_8abf5_0 : OKI 256 0 (.aload_n 0, 1, [0], 0, 0, []) := And.intro dJ0_length_8abf5_0 (And.intro rfl (rfl))
theorem oJ0_length_8abf5_1 : OKI 256 1 (.getfield 9, 4, [0], 0, 0, []) := And.intro dJ0_length_8abf5_1 (And.intro rfl (Or.inl (And.intro rfl (tm_8 _ (List.mem_of_getElem? (i := 165) rfl) rfl))))
theorem oJ0_length_8abf5_4 : OKI 256 4 (.arraylength, 5, [], 0, 0, []) := And.intro dJ0_length_8abf5_4 rfl
theorem oJ0_length_8abf5_5 : OKI 256 5 (.aload_n 0, 6, [0], 0, 0, []) := And.intro dJ0_length_8abf5_5 (And.intro rfl (rfl))
theorem oJ0_length_8abf5_6 : OKI 256 6 (.invokevirtual 335, 9, [258, 1, 513, 0, 0, 1], 0, 0, []) := And.intro dJ0_length_8abf5_6 (And.intro rfl (And.intro (by decide) (And.intro (by decide) (And.intro mo_J0_coder_7d493 (And.intro (tm_4 _ (List.mem_of_getElem? (i := 31) rfl) rfl) (And.intro (tm_4 _ (List.mem_of_getElem? (i := 32) rfl) rfl) (And.intro (tm_4 _ (List.mem_of_getElem? (i := 33) rfl) rfl) (Or.inr (And.intro rfl rfl)))))))))
theorem oJ0_length_8abf5_9 : OKI 256 9 (.ishr, 10, [], 0, 0, []) := And.intro dJ0_length_8abf5_9 rfl
theorem oJ0_length_8abf5_10 : OKI 256 10 (.ireturn, 11, [0], 0, 0, []) := And.intro dJ0_length_8abf5_10 (Or.inl (And.intro rfl rfl))
def pfJ0_length_8abf5 (pc : Nat) : Option XE := (bif Nat.blt pc 5 then (bif Nat.blt pc 1 then (bif Nat.beq pc 0 then some (.aload_n 0, 1, [0], 0, 0, []) else none) else (bif Nat.blt pc 4 then (bif Nat.beq pc 1 then some (.getfield 9, 4, [0], 0, 0, []) else none) else (bif Nat.beq pc 4 then some (.arraylength, 5, [], 0, 0, []) else none))) else (bif Nat.blt pc 9 then (bif Nat.blt pc 6 then (bif Nat.beq pc 5 then some (.aload_n 0, 6, [0], 0, 0, []) else none) else (bif Nat.beq pc 6 then some (.invokevirtual 335, 9, [258, 1, 513, 0, 0, 1], 0, 0, []) else none)) else (bif Nat.blt pc 10 then (bif Nat.beq pc 9 then some (.ishr, 10, [], 0, 0, []) else none) else (bif Nat.beq pc 10 then some (.ireturn, 11, [0], 0, 0, []) else none))))
theorem okJ0_length_8abf5 : ∀ pc Y, pfJ0_length_8abf5 pc = some Y → OKI m_J0_length_8abf5 pc Y := fun pc Y => ((bt_node (bt_node (bt_leaf (P := OKI m_J0_length_8abf5) oJ0_length_8abf5_0) (bt_node (bt_leaf (P := OKI m_J0_length_8abf5) oJ0_length_8abf5_1) (bt_leaf (P := OKI m_J0_length_8abf5) oJ0_length_8abf5_4))) (bt_node (bt_node (bt_leaf (P := OKI m_J0_length_8abf5) oJ0_length_8abf5_5) (bt_leaf (P := OKI m_J0_length_8abf5) oJ0_length_8abf5_6)) (bt_node (bt_leaf (P := OKI m_J0_length_8abf5) oJ0_length_8abf5_9) (bt_leaf (P := OKI m_J0_length_8abf5) oJ0_length_8abf5_10)))) : pfJ0_length_8abf5 pc = some Y → OKI m_J0_length_8abf5 pc Y)
def stpJ0_length_8abf5 (_ : Nat) : Option (List Bool) := none
def bJ0_length_8abf5_0 (d rc rs : Nat) (t : Nat)  (σ : XH) (Q : XV → XH → Prop) : Prop :=
  ((t < 12 ∧ ((bif Nat.blt t 12 then ((t < 12 ∧ 1 ≤ d ∧ Ec (d - 1) 0 0 m_J0_coder_7d493 [vR (some (512, t))] σ (kI fun x2 h1 => Q (vI ((Int32.ofNat (hn σ 513 t)) >>> (x2 &&& 31))) h1))) else False))))
theorem sJ0_length_8abf5_0 {d rc rs : Nat} {t : Nat}  {σ : XH} {Q : XV → XH → Prop} (h : bJ0_length_8abf5_0 d rc rs t  σ Q) : Ex d rc rs m_J0_length_8abf5 0 [vR (some (512, t))] [] σ Q :=
  xtree_sound (stop := stpJ0_length_8abf5) okJ0_length_8abf5 9 _ _ _ _ _ _ h
/-! java/lang/String.charAt(I)C -/
theorem dJ0_charAt_5068e_0 : decode cJ0_charAt_5068e 0 = .ok (.aload_n 0, 1) := by decide +kernel
theorem dJ0_charAt_5068e_1 : decode cJ0_charAt_5068e 1 = .ok (.invokevirtual 492, 3) := by decide +kernel
theorem dJ0_charAt_5068e_4 : decode cJ0_charAt_5068e 4 = .ok (.ifCond .eq 12, 3) := by decide +kernel
theorem dJ0_charAt_5068e_7 : decode cJ0_charAt_5068e 7 = .ok (.aload_n 0, 1) := by decide +kernel
theorem dJ0_charAt_5068e_8 : decode cJ0_charAt_5068e 8 = .ok (.getfield 9, 3) := by decide +kernel
theorem dJ0_charAt_5068e_11 : decode cJ0_charAt_5068e 11 = .ok (.iload_n 1, 1) := by decide +kernel
theorem dJ0_charAt_5068e_12 : decode cJ0_charAt_5068e 12 = .ok (.invokestatic 495, 3) := by decide +kernel
theorem dJ0_charAt_5068e_15 : decode cJ0_charAt_5068e 15 = .ok (.ireturn, 1) := by decide +kernel
theorem dJ0_charAt_5068e_16 : decode cJ0_charAt_5068e 16 = .ok (.aload_n 0, 1) := by decide +kernel
theorem dJ0_charAt_5068e_17 : decode cJ0_charAt_5068e 17 = .ok (.getfield 9, 3) := by decide +kernel
theorem dJ0_charAt_5068e_20 : decode cJ0_charAt_5068e 20 = .ok (.iload_n 1, 1) := by decide +kernel
theorem dJ0_charAt_5068e_21 : decode cJ0_charAt_5068e 21 = .ok (.invokestatic 498, 3) := by decide +kernel
theorem dJ0_charAt_5068e_24 : decode cJ0_charAt_5068e 24 = .ok (.ireturn, 1) := by decide +kernel
theorem oJ0_charAt_5068e_0 : OKI 257 0 (.aload_n 0, 1, [0], 0, 0, []) := And.intro dJ0_charAt_5068e_0 (And.intro rfl (rfl))
theorem oJ0_charAt_5068e_1 : OKI 257 1 (.invokevirtual 492, 4, [259, 1, 513, 0, 0, 1], 0, 0, []) := And.intro dJ0_charAt_5068e_1 (And.intro rfl (And.intro (by decide) (And.intro (by decide) (And.intro mo_J0_isLatin1_aae02 (And.intro (tm_4 _ (List.mem_of_getElem? (i := 41) rfl) rfl) (And.intro (tm_4 _ (List.mem_of_getElem? (i := 42) rfl) rfl) (And.intro (tm_4 _ (List.mem_of_getElem? (i := 43) rfl) rfl) (Or.inr (And.intro rfl rfl)))))))))
theorem oJ0_charAt_5068e_4 : OKI 257 4 (.ifCond .eq 12, 7, [16], 0, 0, []) := And.intro dJ0_charAt_5068e_4 (And.intro rfl (by decide))
theorem oJ0_charAt_5068e_7 : OKI 257 7 (.aload_n 0, 8, [0], 0, 0, []) := And.intro dJ0_charAt_5068e_7 (And.intro rfl (rfl))
theorem oJ0_charAt_5068e_8 : OKI 257 8 (.getfield 9, 11, [0], 0, 0, []) := And.intro dJ0_charAt_5068e_8 (And.intro rfl (Or.inl (And.intro rfl (tm_8 _ (List.mem_of_getElem? (i := 165) rfl) rfl))))
theorem oJ0_charAt_5068e_11 : OKI 257 11 (.iload_n 1, 12, [1], 0, 0, []) := And.intro dJ0_charAt_5068e_11 (And.intro rfl (rfl))
theorem oJ0_charAt_5068e_12 : OKI 257 12 (.invokestatic 495, 15, [261, 2, 0, 0, 0, 1], 0, 0, []) := And.intro dJ0_charAt_5068e_12 (And.intro rfl (And.intro rfl (And.intro mo_J1_charAt_3b067 (And.intro (Or.inl (tm_4 _ (List.mem_of_getElem? (i := 45) rfl) rfl)) (tm_4 _ (List.mem_of_getElem? (i := 46) rfl) rfl)))))
theorem oJ0_charAt_5068e_15 : OKI 257 15 (.ireturn, 16, [5], 0, 0, []) := And.intro dJ0_charAt_5068e_15 (Or.inr (Or.inr (Or.inr (And.intro rfl rfl))))
theorem oJ0_charAt_5068e_16 : OKI 257 16 (.aload_n 0, 17, [0], 0, 0, []) := And.intro dJ0_charAt_5068e_16 (And.intro rfl (rfl))
theorem oJ0_charAt_5068e_17 : OKI 257 17 (.getfield 9, 20, [0], 0, 0, []) := And.intro dJ0_charAt_5068e_17 (And.intro rfl (Or.inl (And.intro rfl (tm_8 _ (List.mem_of_getElem? (i := 165) rfl) rfl))))
theorem oJ0_charAt_5068e_20 : OKI 257 20 (.iload_n 1, 21, [1], 0, 0, []) := And.intro dJ0_charAt_5068e_20 (And.intro rfl (rfl))
theorem oJ0_charAt_5068e_21 : OKI 257 21 (.invokestatic 498, 24, [264, 2, 0, 0, 0, 1], 0, 0, []) := And.intro dJ0_charAt_5068e_21 (And.intro rfl (And.intro rfl (And.intro mo_J2_charAt_3b067 (And.intro (Or.inl (tm_4 _ (List.mem_of_getElem? (i := 54) rfl) rfl)) (tm_4 _ (List.mem_of_getElem? (i := 55) rfl) rfl)))))
theorem oJ0_charAt_5068e_24 : OKI 257 24 (.ireturn, 25, [5], 0, 0, []) := And.intro dJ0_charAt_5068e_24 (Or.inr (Or.inr (Or.inr (And.intro rfl rfl))))
def pfJ0_charAt_5068e (pc : Nat) : Option XE := (bif Nat.blt pc 12 then (bif Nat.blt pc 7 then (bif Nat.blt pc 1 then (bif Nat.beq pc 0 then some (.aload_n 0, 1, [0], 0, 0, []) else none) else (bif Nat.blt pc 4 then (bif Nat.beq pc 1 then some (.invokevirtual 492, 4, [259, 1, 513, 0, 0, 1], 0, 0, []) else none) else (bif Nat.beq pc 4 then some (.ifCond .eq 12, 7, [16], 0, 0, []) else none))) else (bif Nat.blt pc 8 then (bif Nat.beq pc 7 then some (.aload_n 0, 8, [0], 0, 0, []) else none) else (bif Nat.blt pc 11 then (bif Nat.beq pc 8 then some (.getfield 9, 11, [0], 0, 0, []) else none) else (bif Nat.beq pc 11 then some (.iload_n 1, 12, [1], 0, 0, []) else none)))) else (bif Nat.blt pc 17 then (bif Nat.blt pc 15 then (bif Nat.beq pc 12 then some (.invokestatic 495, 15, [261, 2, 0, 0, 0, 1], 0, 0, []) else none) else (bif Nat.blt pc 16 then (bif Nat.beq pc 15 then some (.ireturn, 16, [5], 0, 0, []) else none) else (bif Nat.beq pc 16 then some (.aload_n 0, 17, [0], 0, 0, []) else none))) else (bif Nat.blt pc 21 then (bif Nat.blt pc 20 then (bif Nat.beq pc 17 then some (.getfield 9, 20, [0], 0, 0, []) else none) else (bif Nat.beq pc 20 then some (.iload_n 1, 21, [1], 0, 0, []) else none)) else (bif Nat.blt pc 24 then (bif Nat.beq pc 21 then some (.invokestatic 498, 24, [264, 2, 0, 0, 0, 1], 0, 0, []) else none) else (bif Nat.beq pc 24 then some (.ireturn, 25, [5], 0, 0, []) else none)))))
theorem okJ0_charAt_5068e : ∀ pc Y, pfJ0_charAt_5068e pc = some Y → OKI m_J0_charAt_5068e pc Y := fun pc Y => ((bt_node (bt_node (bt_node (bt_leaf (P := OKI m_J0_charAt_5068e) oJ0_charAt_5068e_0) (bt_node (bt_leaf (P := OKI m_J0_charAt_5068e) oJ0_charAt_5068e_1) (bt_leaf (P := OKI m_J0_charAt_5068e) oJ0_charAt_5068e_4))) (bt_node (bt_leaf (P := OKI m_J0_charAt_5068e) oJ0_charAt_5068e_7) (bt_node (bt_leaf (P := OKI m_J0_charAt_5068e) oJ0_charAt_5068e_8) (bt_leaf (P := OKI m_J0_charAt_5068e) oJ0_charAt_5068e_11)))) (bt_node (bt_node (bt_leaf (P := OKI m_J0_charAt_5068e) oJ0_charAt_5068e_12) (bt_node (bt_leaf (P := OKI m_J0_charAt_5068e) oJ0_charAt_5068e_15) (bt_leaf (P := OKI m_J0_charAt_5068e) oJ0_charAt_5068e_16))) (bt_node (bt_node (bt_leaf (P := OKI m_J0_charAt_5068e) oJ0_charAt_5068e_17) (bt_leaf (P := OKI m_J0_charAt_5068e) oJ0_charAt_5068e_20)) (bt_node (bt_leaf (P := OKI m_J0_charAt_5068e) oJ0_charAt_5068e_21) (bt_leaf (P := OKI m_J0_charAt_5068e) oJ0_charAt_5068e_24))))) : pfJ0_charAt_5068e pc = some Y → OKI m_J0_charAt_5068e pc Y)
def stpJ0_charAt_5068e (_ : Nat) : Option (List Bool) := none
def bJ0_charAt_5068e_0 (d rc rs : Nat) (t : Nat) (a1 : Int32) (σ : XH) (Q : XV → XH → Prop) : Prop :=
  ((t < 12 ∧ 1 ≤ d ∧ Ec (d - 1) 0 0 m_J0_isLatin1_aae02 [vR (some (512, t))] σ (kI fun x2 h1 => ((x2 = 0 → ((t < 12 ∧ (1 ≤ d ∧ Ec (d - 1) 0 0 m_J2_charAt_3b067 [vR (some (513, t)), vI a1] h1 (kI fun x4 h3 => (x4.toUInt32.toUInt16.toUInt32.toInt32 = x4 ∧ Q (vI x4) h3)))))) ∧ (¬ x2 = 0 → ((t < 12 ∧ (1 ≤ d ∧ Ec (d - 1) 0 0 m_J1_charAt_3b067 [vR (some (513, t)), vI a1] h1 (kI fun x6 h5 => (x6.toUInt32.toUInt16.toUInt32.toInt32 = x6 ∧ Q (vI x6) h5))))))))))
theorem sJ0_charAt_5068e_0 {d rc rs : Nat} {t : Nat} {a1 : Int32} {σ : XH} {Q : XV → XH → Prop} (h : bJ0_charAt_5068e_0 d rc rs t a1 σ Q) : Ex d rc rs m_J0_charAt_5068e 0 [vR (some (512, t)), vI a1] [] σ Q :=
  xtree_sound (stop := stpJ0_charAt_5068e) okJ0_charAt_5068e 10 _ _ _ _ _ _ h
/-! java/lang/String.coder()B -/
theorem dJ0_coder_7d493_0 : decode cJ0_coder_7d493 0 = .ok (.getstatic 38, 3) := by decide +kernel
theorem dJ0_coder_7d493_3 : decode cJ0_coder_7d493 3 = .ok (.ifCond .eq 10, 3) := by decide +kernel
theorem dJ0_coder_7d493_6 : decode cJ0_coder_7d493 6 = .ok (.aload_n 0, 1) := by decide +kernel
theorem dJ0_coder_7d493_7 : decode cJ0_coder_7d493 7 = .ok (.getfield 15, 3) := by decide +kernel
theorem dJ0_coder_7d493_10 : decode cJ0_coder_7d493 10 = .ok (.goto 4, 3) := by decide +kernel
theorem dJ0_coder_7d493_13 : decode cJ0_coder_7d493 13 = .ok (.iconst 1, 1) := by decide +kernel
theorem dJ0_coder_7d493_14 : decode cJ0_coder_7d493 14 = .ok (.ireturn, 1) := by decide +kernel
theorem oJ0_coder_7d493_0 : OKI 258 0 (.getstatic 38, 3, [0], 0, 0, []) := And.intro dJ0_coder_7d493_0 (And.intro rfl (tm_4 _ (List.mem_of_getElem? (i := 35) rfl) rfl))
theorem oJ0_coder_7d493_3 : OKI 258 3 (.ifCond .eq 10, 6, [13], 0, 0, []) := And.intro dJ0_coder_7d493_3 (And.intro rfl (by decide))
theorem oJ0_coder_7d493_6 : OKI 258 6 (.aload_n 0, 7, [0], 0, 0, []) := And.intro dJ0_coder_7d493_6 (And.intro rfl (rfl))
theorem oJ0_coder_7d493_7 : OKI 258 7 (.getfield 15, 10, [1], 0, 0, []) := And.intro dJ0_coder_7d493_7 (And.intro rfl (Or.inr (And.intro rfl (tm_8 _ (List.mem_of_getElem? (i := 166) rfl) rfl))))
theorem oJ0_coder_7d493_10 : OKI 258 10 (.goto 4, 13, [14], 0, 0, []) := And.intro dJ0_coder_7d493_10 (And.intro rfl (by decide))
theorem oJ0_coder_7d493_13 : OKI 258 13 (.iconst 1, 14, [], 1, 0, []) := And.intro dJ0_coder_7d493_13 (And.intro rfl (by decide +kernel))
theorem oJ0_coder_7d493_14 : OKI 258 14 (.ireturn, 15, [4], 0, 0, []) := And.intro dJ0_coder_7d493_14 (Or.inr (Or.inr (Or.inl (And.intro rfl rfl))))
def pfJ0_coder_7d493 (pc : Nat) : Option XE := (bif Nat.blt pc 7 then (bif Nat.blt pc 3 then (bif Nat.beq pc 0 then some (.getstatic 38, 3, [0], 0, 0, []) else none) else (bif Nat.blt pc 6 then (bif Nat.beq pc 3 then some (.ifCond .eq 10, 6, [13], 0, 0, []) else none) else (bif Nat.beq pc 6 then some (.aload_n 0, 7, [0], 0, 0, []) else none))) else (bif Nat.blt pc 13 then (bif Nat.blt pc 10 then (bif Nat.beq pc 7 then some (.getfield 15, 10, [1], 0, 0, []) else none) else (bif Nat.beq pc 10 then some (.goto 4, 13, [14], 0, 0, []) else none)) else (bif Nat.blt pc 14 then (bif Nat.beq pc 13 then some (.iconst 1, 14, [], 1, 0, []) else none) else (bif Nat.beq pc 14 then some (.ireturn, 15, [4], 0, 0, []) else none))))
theorem okJ0_coder_7d493 : ∀ pc Y, pfJ0_coder_7d493 pc = some Y → OKI m_J0_coder_7d493 pc Y := fun pc Y => ((bt_node (bt_node (bt_leaf (P := OKI m_J0_coder_7d493) oJ0_coder_7d493_0) (bt_node (bt_leaf (P := OKI m_J0_coder_7d493) oJ0_coder_7d493_3) (bt_leaf (P := OKI m_J0_coder_7d493) oJ0_coder_7d493_6))) (bt_node (bt_node (bt_leaf (P := OKI m_J0_coder_7d493) oJ0_coder_7d493_7) (bt_leaf (P := OKI m_J0_coder_7d493) oJ0_coder_7d493_10)) (bt_node (bt_leaf (P := OKI m_J0_coder_7d493) oJ0_coder_7d493_13) (bt_leaf (P := OKI m_J0_coder_7d493) oJ0_coder_7d493_14)))) : pfJ0_coder_7d493 pc = some Y → OKI m_J0_coder_7d493 pc Y)
def stpJ0_coder_7d493 (pc : Nat) : Option (List Bool) := (bif Nat.beq pc 14 then some [false] else none)
def bJ0_coder_7d493_0 (d rc rs : Nat) (t : Nat)  (σ : XH) (Q : XV → XH → Prop) : Prop :=
  (((1 : Int32) = 0 → Ex d rc rs m_J0_coder_7d493 14 [vU] [vI 1] σ Q) ∧ (¬ (1 : Int32) = 0 → ((t < 12 ∧ Ex d rc rs m_J0_coder_7d493 14 [vU] [vI 0] σ Q))))
theorem sJ0_coder_7d493_0 {d rc rs : Nat} {t : Nat}  {σ : XH} {Q : XV → XH → Prop} (h : bJ0_coder_7d493_0 d rc rs t  σ Q) : Ex d rc rs m_J0_coder_7d493 0 [vR (some (512, t))] [] σ Q :=
  xtree_sound (stop := stpJ0_coder_7d493) okJ0_coder_7d493 7 _ _ _ _ _ _ h
def bJ0_coder_7d493_14 (d rc rs : Nat) (q0 : Int32) (σ : XH) (Q : XV → XH → Prop) : Prop :=
  (q0.toInt8.toInt32 = q0 ∧ Q (vI q0) σ)
theorem sJ0_coder_7d493_14 {d rc rs : Nat} {q0 : Int32} {σ : XH} {Q : XV → XH → Prop} (h : bJ0_coder_7d493_14 d rc rs q0 σ Q) : Ex d rc rs m_J0_coder_7d493 14 [vU] [vI q0] σ Q :=
  xtree_sound (stop := stpJ0_coder_7d493) okJ0_coder_7d493 3 _ _ _ _ _ _ h
/-! java/lang/String.isLatin1()Z -/
theorem dJ0_isLatin1_aae02_0 : decode cJ0_isLatin1_aae02 0 = .ok (.getstatic 38, 3) := by decide +kernel
theorem dJ0_isLatin1_aae02_3 : decode cJ0_isLatin1_aae02 3 = .ok (.ifCond .eq 14, 3) := by decide +kernel
theorem dJ0_isLatin1_aae02_6 : decode cJ0_isLatin1_aae02 6 = .ok (.aload_n 0, 1) := by decide +kernel
theorem dJ0_isLatin1_aae02_7 : decode cJ0_isLatin1_aae02 7 = .ok (.getfield 15, 3) := by decide +kernel
theorem dJ0_isLatin1_aae02_10 : decode cJ0_isLatin1_aae02 10 = .ok (.ifCond .ne 7, 3) := by decide +kernel
theorem dJ0_isLatin1_aae02_13 : decode cJ0_isLatin1_aae02 13 = .ok (.iconst 1, 1) := by decide +kernel
theorem dJ0_isLatin1_aae02_14 : decode cJ0_isLatin1_aae02 14 = .ok (.goto 4, 3) := by decide +kernel
theorem dJ0_isLatin1_aae02_17 : decode cJ0_isLatin1_aae02 17 = .ok (.iconst 0, 1) := by decide +kernel
theorem dJ0_isLatin1_aae02_18 : decode cJ0_isLatin1_aae02 18 = .ok (.ireturn, 1) := by decide +kernel
theorem oJ0_isLatin1_aae02_0 : OKI 259 0 (.getstatic 38, 3, [0], 0, 0, []) := And.intro dJ0_isLatin1_aae02_0 (And.intro rfl (tm_4 _ (List.mem_of_getElem? (i := 35) rfl) rfl))
theorem oJ0_isLatin1_aae02_3 : OKI 259 3 (.ifCond .eq 14, 6, [17], 0, 0, []) := And.intro dJ0_isLatin1_aae02_3 (And.intro rfl (by decide))
theorem oJ0_isLatin1_aae02_6 : OKI 259 6 (.aload_n 0, 7, [0], 0, 0, []) := And.intro dJ0_isLatin1_aae02_6 (And.intro rfl (rfl))
theorem oJ0_isLatin1_aae02_7 : OKI 259 7 (.getfield 15, 10, [1], 0, 0, []) := And.intro dJ0_isLatin1_aae02_7 (And.intro rfl (Or.inr (And.intro rfl (tm_8 _ (List.mem_of_getElem? (i := 166) rfl) rfl))))
theorem oJ0_isLatin1_aae02_10 : OKI 259 10 (.ifCond .ne 7, 13, [17], 0, 0, []) := And.intro dJ0_isLatin1_aae02_10 (And.intro rfl (by decide))
theorem oJ0_isLatin1_aae02_13 : OKI 259 13 (.iconst 1, 14, [], 1, 0, []) := And.intro dJ0_isLatin1_aae02_13 (And.intro rfl (by decide +kernel))
theorem oJ0_isLatin1_aae02_14 : OKI 259 14 (.goto 4, 17, [18], 0, 0, []) := And.intro dJ0_isLatin1_aae02_14 (And.intro rfl (by decide))
theorem oJ0_isLatin1_aae02_17 : OKI 259 17 (.iconst 0, 18, [], 0, 0, []) := And.intro dJ0_isLatin1_aae02_17 (And.intro rfl (by decide +kernel))
theorem oJ0_isLatin1_aae02_18 : OKI 259 18 (.ireturn, 19, [3], 0, 0, []) := And.intro dJ0_isLatin1_aae02_18 (Or.inr (Or.inl (And.intro rfl rfl)))
def pfJ0_isLatin1_aae02 (pc : Nat) : Option XE := (bif Nat.blt pc 10 then (bif Nat.blt pc 6 then (bif Nat.blt pc 3 then (bif Nat.beq pc 0 then some (.getstatic 38, 3, [0], 0, 0, []) else none) else (bif Nat.beq pc 3 then some (.ifCond .eq 14, 6, [17], 0, 0, []) else none)) else (bif Nat.blt pc 7 then (bif Nat.beq pc 6 then some (.aload_n 0, 7, [0], 0, 0, []) else none) else (bif Nat.beq pc 7 then some (.getfield 15, 10, [1], 0, 0, []) else none))) else (bif Nat.blt pc 14 then (bif Nat.blt pc 13 then (bif Nat.beq pc 10 then some (.ifCond .ne 7, 13, [17], 0, 0, []) else none) else (bif Nat.beq pc 13 then some (.iconst 1, 14, [], 1, 0, []) else none)) else (bif Nat.blt pc 17 then (bif Nat.beq pc 14 then some (.goto 4, 17, [18], 0, 0, []) else none) else (bif Nat.blt pc 18 then (bif Nat.beq pc 17 then some (.iconst 0, 18, [], 0, 0, []) else none) else (bif Nat.beq pc 18 then some (.ireturn, 19, [3], 0, 0, []) else none)))))
theorem okJ0_isLatin1_aae02 : ∀ pc Y, pfJ0_isLatin1_aae02 pc = some Y → OKI m_J0_isLatin1_aae02 pc Y := fun pc Y => ((bt_node (bt_node (bt_node (bt_leaf (P := OKI m_J0_isLatin1_aae02) oJ0_isLatin1_aae02_0) (bt_leaf (P := OKI m_J0_isLatin1_aae02) oJ0_isLatin1_aae02_3)) (bt_node (bt_leaf (P := OKI m_J0_isLatin1_aae02) oJ0_isLatin1_aae02_6) (bt_leaf (P := OKI m_J0_isLatin1_aae02) oJ0_isLatin1_aae02_7))) (bt_node (bt_node (bt_leaf (P := OKI m_J0_isLatin1_aae02) oJ0_isLatin1_aae02_10) (bt_leaf (P := OKI m_J0_isLatin1_aae02) oJ0_isLatin1_aae02_13)) (bt_node (bt_leaf (P := OKI m_J0_isLatin1_aae02) oJ0_isLatin1_aae02_14) (bt_node (bt_leaf (P := OKI m_J0_isLatin1_aae02) oJ0_isLatin1_aae02_17) (bt_leaf (P := OKI m_J0_isLatin1_aae02) oJ0_isLatin1_aae02_18))))) : pfJ0_isLatin1_aae02 pc = some Y → OKI m_J0_isLatin1_aae02 pc Y)
def stpJ0_isLatin1_aae02 (pc : Nat) : Option (List Bool) := (bif Nat.blt pc 18 then (bif Nat.beq pc 17 then some [false] else none) else (bif Nat.beq pc 18 then some [false] else none))
def bJ0_isLatin1_aae02_0 (d rc rs : Nat) (t : Nat)  (σ : XH) (Q : XV → XH → Prop) : Prop :=
  (((1 : Int32) = 0 → Ex d rc rs m_J0_isLatin1_aae02 17 [vU] [] σ Q) ∧ (¬ (1 : Int32) = 0 → ((t < 12 ∧ (((0 : Int32) = 0 → Ex d rc rs m_J0_isLatin1_aae02 18 [vU] [vI 1] σ Q) ∧ (¬ (0 : Int32) = 0 → Ex d rc rs m_J0_isLatin1_aae02 17 [vU] [] σ Q))))))
theorem sJ0_isLatin1_aae02_0 {d rc rs : Nat} {t : Nat}  {σ : XH} {Q : XV → XH → Prop} (h : bJ0_isLatin1_aae02_0 d rc rs t  σ Q) : Ex d rc rs m_J0_isLatin1_aae02 0 [vR (some (512, t))] [] σ Q :=
  xtree_sound (stop := stpJ0_isLatin1_aae02) okJ0_isLatin1_aae02 9 _ _ _ _ _ _ h
def bJ0_isLatin1_aae02_17 (d rc rs : Nat)  (σ : XH) (Q : XV → XH → Prop) : Prop :=
  Ex d rc rs m_J0_isLatin1_aae02 18 [vU] [vI 0] σ Q
theorem sJ0_isLatin1_aae02_17 {d rc rs : Nat}  {σ : XH} {Q : XV → XH → Prop} (h : bJ0_isLatin1_aae02_17 d rc rs  σ Q) : Ex d rc rs m_J0_isLatin1_aae02 17 [vU] [] σ Q :=
  xtree_sound (stop := stpJ0_isLatin1_aae02) okJ0_isLatin1_aae02 3 _ _ _ _ _ _ h
def bJ0_isLatin1_aae02_18 (d rc rs : Nat) (q0 : Int32) (σ : XH) (Q : XV → XH → Prop) : Prop :=
  ((q0 = 0 ∨ q0 = 1) ∧ Q (vI q0) σ)
theorem sJ0_isLatin1_aae02_18 {d rc rs : Nat} {q0 : Int32} {σ : XH} {Q : XV → XH → Prop} (h : bJ0_isLatin1_aae02_18 d rc rs q0 σ Q) : Ex d rc rs m_J0_isLatin1_aae02 18 [vU] [vI q0] σ Q :=
  xtree_sound (stop := stpJ0_isLatin1_aae02) okJ0_isLatin1_aae02 3 _ _ _ _ _ _ h
/-! java/lang/String.checkIndex(II)V -/
theorem dJ0_checkIndex_df160_0 : decode cJ0_checkIndex_df160 0 = .ok (.iload_n 0, 1) := by decide +kernel
theorem dJ0_checkIndex_df160_1 : decode cJ0_checkIndex_df160 1 = .ok (.iload_n 1, 1) := by decide +kernel
theorem dJ0_checkIndex_df160_2 : decode cJ0_checkIndex_df160 2 = .ok (.getstatic 1053, 3) := by decide +kernel
theorem dJ0_checkIndex_df160_5 : decode cJ0_checkIndex_df160 5 = .ok (.invokestatic 1059, 3) := by decide +kernel
theorem dJ0_checkIndex_df160_8 : decode cJ0_checkIndex_df160 8 = .ok (.pop, 1) := by decide +kernel
theorem dJ0_checkIndex_df160_9 : decode cJ0_checkIndex_df160 9 = .ok (.return_, 1) := by decide +kernel
theorem oJ0_checkIndex_df160_0 : OKI 260 0 (.iload_n 0, 1, [0], 0, 0, []) := And.intro dJ0_checkIndex_df160_0 (And.intro rfl (rfl))
theorem oJ0_checkIndex_df160_1 : OKI 260 1 (.iload_n 1, 2, [1], 0, 0, []) := And.intro dJ0_checkIndex_df160_1 (And.intro rfl (rfl))
theorem oJ0_checkIndex_df160_2 : OKI 260 2 (.getstatic 1053, 5, [1], 0, 0, []) := And.intro dJ0_checkIndex_df160_2 (And.intro rfl (tm_4 _ (List.mem_of_getElem? (i := 51) rfl) rfl))
theorem oJ0_checkIndex_df160_5 : OKI 260 5 (.invokestatic 1059, 8, [282, 3, 0, 0, 0, 1], 0, 0, []) := And.intro dJ0_checkIndex_df160_5 (And.intro rfl (And.intro rfl (And.intro mo_J3_checkIndex_8e157 (And.intro (Or.inl (tm_4 _ (List.mem_of_getElem? (i := 53) rfl) rfl)) (tm_2 _ (List.mem_of_getElem? (i := 162) rfl) rfl)))))
theorem oJ0_checkIndex_df160_8 : OKI 260 8 (.pop, 9, [], 0, 0, []) := And.intro dJ0_checkIndex_df160_8 rfl
theorem oJ0_checkIndex_df160_9 : OKI 260 9 (.return_, 10, [], 0, 0, []) := And.intro dJ0_checkIndex_df160_9 rfl
def pfJ0_checkIndex_df160 (pc : Nat) : Option XE := (bif Nat.blt pc 5 then (bif Nat.blt pc 1 then (bif Nat.beq pc 0 then some (.iload_n 0, 1, [0], 0, 0, []) else none) else (bif Nat.blt pc 2 then (bif Nat.beq pc 1 then some (.iload_n 1, 2, [1], 0, 0, []) else none) else (bif Nat.beq pc 2 then some (.getstatic 1053, 5, [1], 0, 0, []) else none))) else (bif Nat.blt pc 8 then (bif Nat.beq pc 5 then some (.invokestatic 1059, 8, [282, 3, 0, 0, 0, 1], 0, 0, []) else none) else (bif Nat.blt pc 9 then (bif Nat.beq pc 8 then some (.pop, 9, [], 0, 0, []) else none) else (bif Nat.beq pc 9 then some (.return_, 10, [], 0, 0, []) else none))))
theorem okJ0_checkIndex_df160 : ∀ pc Y, pfJ0_checkIndex_df160 pc = some Y → OKI m_J0_checkIndex_df160 pc Y := fun pc Y => ((bt_node (bt_node (bt_leaf (P := OKI m_J0_checkIndex_df160) oJ0_checkIndex_df160_0) (bt_node (bt_leaf (P := OKI m_J0_checkIndex_df160) oJ0_checkIndex_df160_1) (bt_leaf (P := OKI m_J0_checkIndex_df160) oJ0_checkIndex_df160_2))) (bt_node (bt_leaf (P := OKI m_J0_checkIndex_df160) oJ0_checkIndex_df160_5) (bt_node (bt_leaf (P := OKI m_J0_checkIndex_df160) oJ0_checkIndex_df160_8) (bt_leaf (P := OKI m_J0_checkIndex_df160) oJ0_checkIndex_df160_9)))) : pfJ0_checkIndex_df160 pc = some Y → OKI m_J0_checkIndex_df160 pc Y)
def stpJ0_checkIndex_df160 (_ : Nat) : Option (List Bool) := none
def bJ0_checkIndex_df160_0 (d rc rs : Nat) (a1 : Int32) (a2 : Int32) (σ : XH) (Q : XV → XH → Prop) : Prop :=
  (1 ≤ d ∧ Ec (d - 1) 0 0 m_J3_checkIndex_8e157 [vI a1, vI a2, vU] σ (kI fun x2 h1 => Q vU h1))
theorem sJ0_checkIndex_df160_0 {d rc rs : Nat} {a1 : Int32} {a2 : Int32} {σ : XH} {Q : XV → XH → Prop} (h : bJ0_checkIndex_df160_0 d rc rs a1 a2 σ Q) : Ex d rc rs m_J0_checkIndex_df160 0 [vI a1, vI a2] [] σ Q :=
  xtree_sound (stop := stpJ0_checkIndex_df160) okJ0_checkIndex_df160 8 _ _ _ _ _ _ h
/-! java/lang/StringLatin1.charAt([BI)C -/
theorem dJ1_charAt_3b067_0 : decode cJ1_charAt_3b067 0 = .ok (.iload_n 1, 1) := by decide +kernel
theorem dJ1_charAt_3b067_1 : decode cJ1_charAt_3b067 1 = .ok (.aload_n 0, 1) := by decide +kernel
theorem dJ1_charAt_3b067_2 : decode cJ1_charAt_3b067 2 = .ok (.arraylength, 1) := by decide +kernel
theorem dJ1_charAt_3b067_3 : decode cJ1_charAt_3b067 3 = .ok (.invokestatic 9, 3) := by decide +kernel
theorem dJ1_charAt_3b067_6 : decode cJ1_charAt_3b067 6 = .ok (.aload_n 0, 1) := by decide +kernel
theorem dJ1_charAt_3b067_7 : decode cJ1_charAt_3b067 7 = .ok (.iload_n 1, 1) := by decide +kernel
theorem dJ1_charAt_3b067_8 : decode cJ1_charAt_3b067 8 = .ok (.baload, 1) := by decide +kernel
theorem dJ1_charAt_3b067_9 : decode cJ1_charAt_3b067 9 = .ok (.sipush 255, 3) := by decide +kernel
theorem dJ1_charAt_3b067_12 : decode cJ1_charAt_3b067 12 = .ok (.iand, 1) := by decide +kernel
theorem dJ1_charAt_3b067_13 : decode cJ1_charAt_3b067 13 = .ok (.i2c, 1) := by decide +kernel
theorem dJ1_charAt_3b067_14 : decode cJ1_charAt_3b067 14 = .ok (.ireturn, 1) := by decide +kernel
theorem oJ1_charAt_3b067_0 : OKI 261 0 (.iload_n 1, 1, [1], 0, 0, []) := And.intro dJ1_charAt_3b067_0 (And.intro rfl (rfl))
theorem oJ1_charAt_3b067_1 : OKI 261 1 (.aload_n 0, 2, [0], 0, 0, []) := And.intro dJ1_charAt_3b067_1 (And.intro rfl (rfl))
theorem oJ1_charAt_3b067_2 : OKI 261 2 (.arraylength, 3, [], 0, 0, []) := And.intro dJ1_charAt_3b067_2 rfl
theorem oJ1_charAt_3b067_3 : OKI 261 3 (.invokestatic 9, 6, [260, 2, 0, 0, 0, 0], 0, 0, []) := And.intro dJ1_charAt_3b067_3 (And.intro rfl (And.intro rfl (And.intro mo_J0_checkIndex_df160 (And.intro (Or.inl (tm_4 _ (List.mem_of_getElem? (i := 48) rfl) rfl)) (tm_4 _ (List.mem_of_getElem? (i := 49) rfl) rfl)))))
theorem oJ1_charAt_3b067_6 : OKI 261 6 (.aload_n 0, 7, [0], 0, 0, []) := And.intro dJ1_charAt_3b067_6 (And.intro rfl (rfl))
theorem oJ1_charAt_3b067_7 : OKI 261 7 (.iload_n 1, 8, [1], 0, 0, []) := And.intro dJ1_charAt_3b067_7 (And.intro rfl (rfl))
theorem oJ1_charAt_3b067_8 : OKI 261 8 (.baload, 9, [], 0, 0, []) := And.intro dJ1_charAt_3b067_8 rfl
theorem oJ1_charAt_3b067_9 : OKI 261 9 (.sipush 255, 12, [], 255, 0, []) := And.intro dJ1_charAt_3b067_9 (And.intro rfl (by decide +kernel))
theorem oJ1_charAt_3b067_12 : OKI 261 12 (.iand, 13, [], 0, 0, []) := And.intro dJ1_charAt_3b067_12 rfl
theorem oJ1_charAt_3b067_13 : OKI 261 13 (.i2c, 14, [], 0, 0, []) := And.intro dJ1_charAt_3b067_13 rfl
theorem oJ1_charAt_3b067_14 : OKI 261 14 (.ireturn, 15, [5], 0, 0, []) := And.intro dJ1_charAt_3b067_14 (Or.inr (Or.inr (Or.inr (And.intro rfl rfl))))
def pfJ1_charAt_3b067 (pc : Nat) : Option XE := (bif Nat.blt pc 7 then (bif Nat.blt pc 2 then (bif Nat.blt pc 1 then (bif Nat.beq pc 0 then some (.iload_n 1, 1, [1], 0, 0, []) else none) else (bif Nat.beq pc 1 then some (.aload_n 0, 2, [0], 0, 0, []) else none)) else (bif Nat.blt pc 3 then (bif Nat.beq pc 2 then some (.arraylength, 3, [], 0, 0, []) else none) else (bif Nat.blt pc 6 then (bif Nat.beq pc 3 then some (.invokestatic 9, 6, [260, 2, 0, 0, 0, 0], 0, 0, []) else none) else (bif Nat.beq pc 6 then some (.aload_n 0, 7, [0], 0, 0, []) else none)))) else (bif Nat.blt pc 12 then (bif Nat.blt pc 8 then (bif Nat.beq pc 7 then some (.iload_n 1, 8, [1], 0, 0, []) else none) else (bif Nat.blt pc 9 then (bif Nat.beq pc 8 then some (.baload, 9, [], 0, 0, []) else none) else (bif Nat.beq pc 9 then some (.sipush 255, 12, [], 255, 0, []) else none))) else (bif Nat.blt pc 13 then (bif Nat.beq pc 12 then some (.iand, 13, [], 0, 0, []) else none) else (bif Nat.blt pc 14 then (bif Nat.beq pc 13 then some (.i2c, 14, [], 0, 0, []) else none) else (bif Nat.beq pc 14 then some (.ireturn, 15, [5], 0, 0, []) else none)))))
theorem okJ1_charAt_3b067 : ∀ pc Y, pfJ1_charAt_3b067 pc = some Y → OKI m_J1_charAt_3b067 pc Y := fun pc Y => ((bt_node (bt_node (bt_node (bt_leaf (P := OKI m_J1_charAt_3b067) oJ1_charAt_3b067_0) (bt_leaf (P := OKI m_J1_charAt_3b067) oJ1_charAt_3b067_1)) (bt_node (bt_leaf (P := OKI m_J1_charAt_3b067) oJ1_charAt_3b067_2) (bt_node (bt_leaf (P := OKI m_J1_charAt_3b067) oJ1_charAt_3b067_3) (bt_leaf (P := OKI m_J1_charAt_3b067) oJ1_charAt_3b067_6)))) (bt_node (bt_node (bt_leaf (P := OKI m_J1_charAt_3b067) oJ1_charAt_3b067_7) (bt_node (bt_leaf (P := OKI m_J1_charAt_3b067) oJ1_charAt_3b067_8) (bt_leaf (P := OKI m_J1_charAt_3b067) oJ1_charAt_3b067_9))) (bt_node (bt_leaf (P := OKI m_J1_charAt_3b067) oJ1_charAt_3b067_12) (bt_node (bt_leaf (P := OKI m_J1_charAt_3b067) oJ1_charAt_3b067_13) (bt_leaf (P := OKI m_J1_charAt_3b067) oJ1_charAt_3b067_14))))) : pfJ1_charAt_3b067 pc = some Y → OKI m_J1_charAt_3b067 pc Y)
def stpJ1_charAt_3b067 (_ : Nat) : Option (List Bool) := none
def bJ1_charAt_3b067_0 (d rc rs : Nat) (a1 : Option XO) (a2 : Int32) (σ : XH) (Q : XV → XH → Prop) : Prop :=
  (arf a1 fun o1 => (bif alOk o1 then (1 ≤ d ∧ Ec (d - 1) 0 0 m_J0_checkIndex_df160 [vI a2, vI (Int32.ofNat (hn σ o1.1 o1.2))] σ (kU fun h2 => (arf a1 fun o3 => (bif (Nat.ble 200 o3.1 && Nat.blt o3.1 400) || (Nat.beq o3.1 513 && Nat.blt o3.2 12) then (vp_in a2 (hn h2 o3.1 o3.2) ∧ (((((hi h2 o3.1 o3.2 a2.toNatClampNeg) &&& 255).toUInt32 % 65536).toInt32).toUInt32.toUInt16.toUInt32.toInt32 = ((((hi h2 o3.1 o3.2 a2.toNatClampNeg) &&& 255).toUInt32 % 65536).toInt32) ∧ Q (vI ((((hi h2 o3.1 o3.2 a2.toNatClampNeg) &&& 255).toUInt32 % 65536).toInt32)) h2)) else False)))) else (bif Nat.beq o1.1 510 && Nat.beq o1.2 0 then (hn σ 510 0 = 0 ∧ (1 ≤ d ∧ Ec (d - 1) 0 0 m_J0_checkIndex_df160 [vI a2, vI (Int32.ofNat (hn σ 510 0))] σ (kU fun h4 => (arf a1 fun o5 => (bif (Nat.ble 200 o5.1 && Nat.blt o5.1 400) || (Nat.beq o5.1 513 && Nat.blt o5.2 12) then (vp_in a2 (hn h4 o5.1 o5.2) ∧ (((((hi h4 o5.1 o5.2 a2.toNatClampNeg) &&& 255).toUInt32 % 65536).toInt32).toUInt32.toUInt16.toUInt32.toInt32 = ((((hi h4 o5.1 o5.2 a2.toNatClampNeg) &&& 255).toUInt32 % 65536).toInt32) ∧ Q (vI ((((hi h4 o5.1 o5.2 a2.toNatClampNeg) &&& 255).toUInt32 % 65536).toInt32)) h4)) else False))))) else False)))
theorem sJ1_charAt_3b067_0 {d rc rs : Nat} {a1 : Option XO} {a2 : Int32} {σ : XH} {Q : XV → XH → Prop} (h : bJ1_charAt_3b067_0 d rc rs a1 a2 σ Q) : Ex d rc rs m_J1_charAt_3b067 0 [vR a1, vI a2] [] σ Q :=
  xtree_sound (stop := stpJ1_charAt_3b067) okJ1_charAt_3b067 13 _ _ _ _ _ _ h
/-! java/util/AbstractCollection.<init>()V -/
theorem dJxa1e45_init_da8c8_0 : decode cJxa1e45_init_da8c8 0 = .ok (.aload_n 0, 1) := by decide +kernel
theorem dJxa1e45_init_da8c8_1 : decode cJxa1e45_init_da8c8 1 = .ok (.invokespecial 1, 3) := by decide +kernel
theorem dJxa1e45_init_da8c8_4 : decode cJxa1e45_init_da8c8 4 = .ok (.return_, 1) := by decide +kernel
theorem oJxa1e45_init_da8c8_0 : OKI 266 0 (.aload_n 0, 1, [0], 0, 0, []) := And.intro dJxa1e45_init_da8c8_0 (And.intro rfl (rfl))
theorem oJxa1e45_init_da8c8_1 : OKI 266 1 (.invokespecial 1, 4, [9004], 0, 0, []) := And.intro dJxa1e45_init_da8c8_1 (And.intro rfl (And.intro rfl (And.intro (tm_1 _ (List.mem_of_getElem? (i := 45) rfl) rfl) (And.intro (tm_1 _ (List.mem_of_getElem? (i := 32) rfl) rfl) (tm_1 _ (List.mem_of_getElem? (i := 33) rfl) rfl)))))
theorem oJxa1e45_init_da8c8_4 : OKI 266 4 (.return_, 5, [], 0, 0, []) := And.intro dJxa1e45_init_da8c8_4 rfl
def pfJxa1e45_init_da8c8 (pc : Nat) : Option XE := (bif Nat.blt pc 1 then (bif Nat.beq pc 0 then some (.aload_n 0, 1, [0], 0, 0, []) else none) else (bif Nat.blt pc 4 then (bif Nat.beq pc 1 then some (.invokespecial 1, 4, [9004], 0, 0, []) else none) else (bif Nat.beq pc 4 then some (.return_, 5, [], 0, 0, []) else none)))
theorem okJxa1e45_init_da8c8 : ∀ pc Y, pfJxa1e45_init_da8c8 pc = some Y → OKI m_Jxa1e45_init_da8c8 pc Y := fun pc Y => ((bt_node (bt_leaf (P := OKI m_Jxa1e45_init_da8c8) oJxa1e45_init_da8c8_0) (bt_node (bt_leaf (P := OKI m_Jxa1e45_init_da8c8) oJxa1e45_init_da8c8_1) (bt_leaf (P := OKI m_Jxa1e45_init_da8c8) oJxa1e45_init_da8c8_4))) : pfJxa1e45_init_da8c8 pc = some Y → OKI m_Jxa1e45_init_da8c8 pc Y)
def stpJxa1e45_init_da8c8 (_ : Nat) : Option (List Bool) := none
def bJxa1e45_init_da8c8_0 (d rc rs : Nat) (t : Nat)  (σ : XH) (Q : XV → XH → Prop) : Prop :=
  ((1 ≤ d ∧ Q vU σ))
theorem sJxa1e45_init_da8c8_0 {d rc rs : Nat} {t : Nat}  {σ : XH} {Q : XV → XH → Prop} (h : bJxa1e45_init_da8c8_0 d rc rs t  σ Q) : Ex d rc rs m_Jxa1e45_init_da8c8 0 [vR (some (0, t))] [] σ Q :=
  xtree_sound (stop := stpJxa1e45_init_da8c8) okJxa1e45_init_da8c8 5 _ _ _ _ _ _ h
/-! java/util/AbstractList.<init>()V -/
theorem dJxc12de_init_da8c8_0 : decode cJxc12de_init_da8c8 0 = .ok (.aload_n 0, 1) := by decide +kernel
theorem dJxc12de_init_da8c8_1 : decode cJxc12de_init_da8c8 1 = .ok (.invokespecial 1, 3) := by decide +kernel
theorem dJxc12de_init_da8c8_4 : decode cJxc12de_init_da8c8 4 = .ok (.aload_n 0, 1) := by decide +kernel
theorem dJxc12de_init_da8c8_5 : decode cJxc12de_init_da8c8 5 = .ok (.iconst 0, 1) := by decide +kernel
theorem dJxc12de_init_da8c8_6 : decode cJxc12de_init_da8c8 6 = .ok (.putfield 7, 3) := by decide +kernel
theorem dJxc12de_init_da8c8_9 : decode cJxc12de_init_da8c8 9 = .ok (.return_, 1) := by decide +kernel
theorem oJxc12de_init_da8c8_0 : OKI 267 0 (.aload_n 0, 1, [0], 0, 0, []) := And.intro dJxc12de_init_da8c8_0 (And.intro rfl (rfl))
theorem oJxc12de_init_da8c8_1 : OKI 267 1 (.invokespecial 1, 4, [266, 1, 1, 0, 0, 0], 0, 0, []) := And.intro dJxc12de_init_da8c8_1 (And.intro rfl (And.intro (by decide) (And.intro (by decide) (And.intro (by decide) (And.intro mo_Jxa1e45_init_da8c8 (And.intro (Or.inl (tm_1 _ (List.mem_of_getElem? (i := 42) rfl) rfl)) (And.intro (tm_1 _ (List.mem_of_getElem? (i := 43) rfl) rfl) (And.intro rfl rfl))))))))
theorem oJxc12de_init_da8c8_4 : OKI 267 4 (.aload_n 0, 5, [0], 0, 0, []) := And.intro dJxc12de_init_da8c8_4 (And.intro rfl (rfl))
theorem oJxc12de_init_da8c8_5 : OKI 267 5 (.iconst 0, 6, [], 0, 0, []) := And.intro dJxc12de_init_da8c8_5 (And.intro rfl (by decide +kernel))
theorem oJxc12de_init_da8c8_6 : OKI 267 6 (.putfield 7, 9, [0, 0, 0], 0, 0, []) := And.intro dJxc12de_init_da8c8_6 (And.intro rfl (⟨(RJx4a65c, TJx4a65c, 3), "java/util/AbstractList", rfl, by decide, tm_1 _ (List.mem_of_getElem? (i := 50) rfl) rfl, Or.inl rfl, Or.inl rfl, rfl⟩))
theorem oJxc12de_init_da8c8_9 : OKI 267 9 (.return_, 10, [], 0, 0, []) := And.intro dJxc12de_init_da8c8_9 rfl
def pfJxc12de_init_da8c8 (pc : Nat) : Option XE := (bif Nat.blt pc 5 then (bif Nat.blt pc 1 then (bif Nat.beq pc 0 then some (.aload_n 0, 1, [0], 0, 0, []) else none) else (bif Nat.blt pc 4 then (bif Nat.beq pc 1 then some (.invokespecial 1, 4, [266, 1, 1, 0, 0, 0], 0, 0, []) else none) else (bif Nat.beq pc 4 then some (.aload_n 0, 5, [0], 0, 0, []) else none))) else (bif Nat.blt pc 6 then (bif Nat.beq pc 5 then some (.iconst 0, 6, [], 0, 0, []) else none) else (bif Nat.blt pc 9 then (bif Nat.beq pc 6 then some (.putfield 7, 9, [0, 0, 0], 0, 0, []) else none) else (bif Nat.beq pc 9 then some (.return_, 10, [], 0, 0, []) else none))))
theorem okJxc12de_init_da8c8 : ∀ pc Y, pfJxc12de_init_da8c8 pc = some Y → OKI m_Jxc12de_init_da8c8 pc Y := fun pc Y => ((bt_node (bt_node (bt_leaf (P := OKI m_Jxc12de_init_da8c8) oJxc12de_init_da8c8_0) (bt_node (bt_leaf (P := OKI m_Jxc12de_init_da8c8) oJxc12de_init_da8c8_1) (bt_leaf (P := OKI m_Jxc12de_init_da8c8) oJxc12de_init_da8c8_4))) (bt_node (bt_leaf (P := OKI m_Jxc12de_init_da8c8) oJxc12de_init_da8c8_5) (bt_node (bt_leaf (P := OKI m_Jxc12de_init_da8c8) oJxc12de_init_da8c8_6) (bt_leaf (P := OKI m_Jxc12de_init_da8c8) oJxc12de_init_da8c8_9)))) : pfJxc12de_init_da8c8 pc = some Y → OKI m_Jxc12de_init_da8c8 pc Y)
def stpJxc12de_init_da8c8 (_ : Nat) : Option (List Bool) := none
def bJxc12de_init_da8c8_0 (d rc rs : Nat) (t : Nat)  (σ : XH) (Q : XV → XH → Prop) : Prop :=
  ((1 ≤ d ∧ Ec (d - 1) 0 0 m_Jxa1e45_init_da8c8 [vR (some (0, t))] σ (kU fun h1 => ((∀ h2, h2 = wI h1 0 t 0 0 → Q vU h2)))))
theorem sJxc12de_init_da8c8_0 {d rc rs : Nat} {t : Nat}  {σ : XH} {Q : XV → XH → Prop} (h : bJxc12de_init_da8c8_0 d rc rs t  σ Q) : Ex d rc rs m_Jxc12de_init_da8c8 0 [vR (some (0, t))] [] σ Q :=
  xtree_sound (stop := stpJxc12de_init_da8c8) okJxc12de_init_da8c8 8 _ _ _ _ _ _ h
/-! java/util/ArrayList.<init>()V -/
theorem dJx4a65c_init_da8c8_0 : decode cJx4a65c_init_da8c8 0 = .ok (.aload_n 0, 1) := by decide +kernel
theorem dJx4a65c_init_da8c8_1 : decode cJx4a65c_init_da8c8 1 = .ok (.invokespecial 1, 3) := by decide +kernel
theorem dJx4a65c_init_da8c8_4 : decode cJx4a65c_init_da8c8 4 = .ok (.aload_n 0, 1) := by decide +kernel
theorem dJx4a65c_init_da8c8_5 : decode cJx4a65c_init_da8c8 5 = .ok (.getstatic 39, 3) := by decide +kernel
theorem dJx4a65c_init_da8c8_8 : decode cJx4a65c_init_da8c8 8 = .ok (.putfield 9, 3) := by decide +kernel
theorem dJx4a65c_init_da8c8_11 : decode cJx4a65c_init_da8c8 11 = .ok (.return_, 1) := by decide +kernel
theorem oJx4a65c_init_da8c8_0 : OKI 268 0 (.aload_n 0, 1, [0], 0, 0, []) := And.intro dJx4a65c_init_da8c8_0 (And.intro rfl (rfl))
theorem oJx4a65c_init_da8c8_1 : OKI 268 1 (.invokespecial 1, 4, [267, 1, 1, 0, 0, 0], 0, 0, []) := And.intro dJx4a65c_init_da8c8_1 (And.intro rfl (And.intro (by decide) (And.intro (by decide) (And.intro (by decide) (And.intro mo_Jxc12de_init_da8c8 (And.intro (Or.inl (tm_1 _ (List.mem_of_getElem? (i := 39) rfl) rfl)) (And.intro (tm_1 _ (List.mem_of_getElem? (i := 40) rfl) rfl) (And.intro rfl rfl))))))))
theorem oJx4a65c_init_da8c8_4 : OKI 268 4 (.aload_n 0, 5, [0], 0, 0, []) := And.intro dJx4a65c_init_da8c8_4 (And.intro rfl (rfl))
theorem oJx4a65c_init_da8c8_5 : OKI 268 5 (.getstatic 39, 8, [510], 0, 0, []) := And.intro dJx4a65c_init_da8c8_5 (And.intro rfl (Or.inl (And.intro rfl (tm_1 _ (List.mem_of_getElem? (i := 46) rfl) rfl))))
theorem oJx4a65c_init_da8c8_8 : OKI 268 8 (.putfield 9, 11, [0, 1, 2], 0, 0, []) := And.intro dJx4a65c_init_da8c8_8 (And.intro rfl (⟨(RJx4a65c, TJx4a65c, 3), "java/util/ArrayList", rfl, by decide, tm_1 _ (List.mem_of_getElem? (i := 48) rfl) rfl, Or.inl rfl, Or.inl rfl, rfl⟩))
theorem oJx4a65c_init_da8c8_11 : OKI 268 11 (.return_, 12, [], 0, 0, []) := And.intro dJx4a65c_init_da8c8_11 rfl
def pfJx4a65c_init_da8c8 (pc : Nat) : Option XE := (bif Nat.blt pc 5 then (bif Nat.blt pc 1 then (bif Nat.beq pc 0 then some (.aload_n 0, 1, [0], 0, 0, []) else none) else (bif Nat.blt pc 4 then (bif Nat.beq pc 1 then some (.invokespecial 1, 4, [267, 1, 1, 0, 0, 0], 0, 0, []) else none) else (bif Nat.beq pc 4 then some (.aload_n 0, 5, [0], 0, 0, []) else none))) else (bif Nat.blt pc 8 then (bif Nat.beq pc 5 then some (.getstatic 39, 8, [510], 0, 0, []) else none) else (bif Nat.blt pc 11 then (bif Nat.beq pc 8 then some (.putfield 9, 11, [0, 1, 2], 0, 0, []) else none) else (bif Nat.beq pc 11 then some (.return_, 12, [], 0, 0, []) else none))))
theorem okJx4a65c_init_da8c8 : ∀ pc Y, pfJx4a65c_init_da8c8 pc = some Y → OKI m_Jx4a65c_init_da8c8 pc Y := fun pc Y => ((bt_node (bt_node (bt_leaf (P := OKI m_Jx4a65c_init_da8c8) oJx4a65c_init_da8c8_0) (bt_node (bt_leaf (P := OKI m_Jx4a65c_init_da8c8) oJx4a65c_init_da8c8_1) (bt_leaf (P := OKI m_Jx4a65c_init_da8c8) oJx4a65c_init_da8c8_4))) (bt_node (bt_leaf (P := OKI m_Jx4a65c_init_da8c8) oJx4a65c_init_da8c8_5) (bt_node (bt_leaf (P := OKI m_Jx4a65c_init_da8c8) oJx4a65c_init_da8c8_8) (bt_leaf (P := OKI m_Jx4a65c_init_da8c8) oJx4a65c_init_da8c8_11)))) : pfJx4a65c_init_da8c8 pc = some Y → OKI m_Jx4a65c_init_da8c8 pc Y)
def stpJx4a65c_init_da8c8 (_ : Nat) : Option (List Bool) := none
def bJx4a65c_init_da8c8_0 (d rc rs : Nat) (t : Nat)  (σ : XH) (Q : XV → XH → Prop) : Prop :=
  ((1 ≤ d ∧ Ec (d - 1) 0 0 m_Jxc12de_init_da8c8 [vR (some (0, t))] σ (kU fun h1 => ((∀ h2, h2 = wR h1 0 t 1 (some (510, 0)) → Q vU h2)))))
theorem sJx4a65c_init_da8c8_0 {d rc rs : Nat} {t : Nat}  {σ : XH} {Q : XV → XH → Prop} (h : bJx4a65c_init_da8c8_0 d rc rs t  σ Q) : Ex d rc rs m_Jx4a65c_init_da8c8 0 [vR (some (0, t))] [] σ Q :=
  xtree_sound (stop := stpJx4a65c_init_da8c8) okJx4a65c_init_da8c8 8 _ _ _ _ _ _ h
/-! java/util/ArrayList.grow(I)[Ljava/lang/Object; -/
theorem dJx4a65c_grow_92f84_0 : decode cJx4a65c_grow_92f84 0 = .ok (.aload_n 0, 1) := by decide +kernel
theorem dJx4a65c_grow_92f84_1 : decode cJx4a65c_grow_92f84 1 = .ok (.getfield 9, 3) := by decide +kernel
theorem dJx4a65c_grow_92f84_4 : decode cJx4a65c_grow_92f84 4 = .ok (.arraylength, 1) := by decide +kernel
theorem dJx4a65c_grow_92f84_5 : decode cJx4a65c_grow_92f84 5 = .ok (.istore_n 2, 1) := by decide +kernel
theorem dJx4a65c_grow_92f84_6 : decode cJx4a65c_grow_92f84 6 = .ok (.iload_n 2, 1) := by decide +kernel
theorem dJx4a65c_grow_92f84_7 : decode cJx4a65c_grow_92f84 7 = .ok (.ifCond .gt 13, 3) := by decide +kernel
theorem dJx4a65c_grow_92f84_10 : decode cJx4a65c_grow_92f84 10 = .ok (.aload_n 0, 1) := by decide +kernel
theorem dJx4a65c_grow_92f84_11 : decode cJx4a65c_grow_92f84 11 = .ok (.getfield 9, 3) := by decide +kernel
theorem dJx4a65c_grow_92f84_14 : decode cJx4a65c_grow_92f84 14 = .ok (.getstatic 39, 3) := by decide +kernel
theorem dJx4a65c_grow_92f84_17 : decode cJx4a65c_grow_92f84 17 = .ok (.if_acmp .eq 28, 3) := by decide +kernel
theorem dJx4a65c_grow_92f84_20 : decode cJx4a65c_grow_92f84 20 = .ok (.iload_n 2, 1) := by decide +kernel
theorem dJx4a65c_grow_92f84_21 : decode cJx4a65c_grow_92f84 21 = .ok (.iload_n 1, 1) := by decide +kernel
theorem dJx4a65c_grow_92f84_22 : decode cJx4a65c_grow_92f84 22 = .ok (.iload_n 2, 1) := by decide +kernel
theorem dJx4a65c_grow_92f84_23 : decode cJx4a65c_grow_92f84 23 = .ok (.isub, 1) := by decide +kernel
theorem dJx4a65c_grow_92f84_24 : decode cJx4a65c_grow_92f84 24 = .ok (.iload_n 2, 1) := by decide +kernel
theorem dJx4a65c_grow_92f84_25 : decode cJx4a65c_grow_92f84 25 = .ok (.iconst 1, 1) := by decide +kernel
theorem dJx4a65c_grow_92f84_26 : decode cJx4a65c_grow_92f84 26 = .ok (.ishr, 1) := by decide +kernel
theorem dJx4a65c_grow_92f84_27 : decode cJx4a65c_grow_92f84 27 = .ok (.invokestatic 73, 3) := by decide +kernel
theorem dJx4a65c_grow_92f84_30 : decode cJx4a65c_grow_92f84 30 = .ok (.istore_n 3, 1) := by decide +kernel
theorem dJx4a65c_grow_92f84_31 : decode cJx4a65c_grow_92f84 31 = .ok (.aload_n 0, 1) := by decide +kernel
theorem dJx4a65c_grow_92f84_32 : decode cJx4a65c_grow_92f84 32 = .ok (.aload_n 0, 1) := by decide +kernel
theorem dJx4a65c_grow_92f84_33 : decode cJx4a65c_grow_92f84 33 = .ok (.getfield 9, 3) := by decide +kernel
theorem dJx4a65c_grow_92f84_36 : decode cJx4a65c_grow_92f84 36 = .ok (.iload_n 3, 1) := by decide +kernel
theorem dJx4a65c_grow_92f84_37 : decode cJx4a65c_grow_92f84 37 = .ok (.invokestatic 66, 3) := by decide +kernel
theorem dJx4a65c_grow_92f84_40 : decode cJx4a65c_grow_92f84 40 = .ok (.dup_x1, 1) := by decide +kernel
theorem dJx4a65c_grow_92f84_41 : decode cJx4a65c_grow_92f84 41 = .ok (.putfield 9, 3) := by decide +kernel
theorem dJx4a65c_grow_92f84_44 : decode cJx4a65c_grow_92f84 44 = .ok (.areturn, 1) := by decide +kernel
theorem dJx4a65c_grow_92f84_45 : decode cJx4a65c_grow_92f84 45 = .ok (.aload_n 0, 1) := by decide +kernel
theorem dJx4a65c_grow_92f84_46 : decode cJx4a65c_grow_92f84 46 = .ok (.bipush 10, 2) := by decide +kernel
theorem dJx4a65c_grow_92f84_48 : decode cJx4a65c_grow_92f84 48 = .ok (.iload_n 1, 1) := by decide +kernel
theorem dJx4a65c_grow_92f84_49 : decode cJx4a65c_grow_92f84 49 = .ok (.invokestatic 79, 3) := by decide +kernel
theorem dJx4a65c_grow_92f84_52 : decode cJx4a65c_grow_92f84 52 = .ok (.anewarray 7, 3) := by decide +kernel
theorem dJx4a65c_grow_92f84_55 : decode cJx4a65c_grow_92f84 55 = .ok (.dup_x1, 1) := by decide +kernel
theorem dJx4a65c_grow_92f84_56 : decode cJx4a65c_grow_92f84 56 = .ok (.putfield 9, 3) := by decide +kernel
theorem dJx4a65c_grow_92f84_59 : decode cJx4a65c_grow_92f84 59 = .ok (.areturn, 1) := by decide +kernel
theorem oJx4a65c_grow_92f84_0 : OKI 269 0 (.aload_n 0, 1, [0], 0, 0, []) := And.intro dJx4a65c_grow_92f84_0 (And.intro rfl (rfl))
theorem oJx4a65c_grow_92f84_1 : OKI 269 1 (.getfield 9, 4, [0, 1, 2], 0, 0, []) := And.intro dJx4a65c_grow_92f84_1 (And.intro rfl (⟨(RJx4a65c, TJx4a65c, 3), "java/util/ArrayList", rfl, by decide, tm_1 _ (List.mem_of_getElem? (i := 48) rfl) rfl, Or.inl rfl, Or.inr (Or.inl (And.intro rfl rfl))⟩))
theorem oJx4a65c_grow_92f84_4 : OKI 269 4 (.arraylength, 5, [], 0, 0, []) := And.intro dJx4a65c_grow_92f84_4 rfl
theorem oJx4a65c_grow_92f84_5 : OKI 269 5 (.istore_n 2, 6, [2], 0, 0, []) := And.intro dJx4a65c_grow_92f84_5 (And.intro rfl (And.intro rfl (by decide)))
theorem oJx4a65c_grow_92f84_6 : OKI 269 6 (.iload_n 2, 7, [2], 0, 0, []) := And.intro dJx4a65c_grow_92f84_6 (And.intro rfl (rfl))
theorem oJx4a65c_grow_92f84_7 : OKI 269 7 (.ifCond .gt 13, 10, [20], 0, 0, []) := And.intro dJx4a65c_grow_92f84_7 (And.intro rfl (by decide))
theorem oJx4a65c_grow_92f84_10 : OKI 269 10 (.aload_n 0, 11, [0], 0, 0, []) := And.intro dJx4a65c_grow_92f84_10 (And.intro rfl (rfl))
theorem oJx4a65c_grow_92f84_11 : OKI 269 11 (.getfield 9, 14, [0, 1, 2], 0, 0, []) := And.intro dJx4a65c_grow_92f84_11 (And.intro rfl (⟨(RJx4a65c, TJx4a65c, 3), "java/util/ArrayList", rfl, by decide, tm_1 _ (List.mem_of_getElem? (i := 48) rfl) rfl, Or.inl rfl, Or.inr (Or.inl (And.intro rfl rfl))⟩))
theorem oJx4a65c_grow_92f84_14 : OKI 269 14 (.getstatic 39, 17, [510], 0, 0, []) := And.intro dJx4a65c_grow_92f84_14 (And.intro rfl (Or.inl (And.intro rfl (tm_1 _ (List.mem_of_getElem? (i := 46) rfl) rfl))))
theorem oJx4a65c_grow_92f84_17 : OKI 269 17 (.if_acmp .eq 28, 20, [45], 0, 0, []) := And.intro dJx4a65c_grow_92f84_17 (And.intro rfl (by decide))
theorem oJx4a65c_grow_92f84_20 : OKI 269 20 (.iload_n 2, 21, [2], 0, 0, []) := And.intro dJx4a65c_grow_92f84_20 (And.intro rfl (rfl))
theorem oJx4a65c_grow_92f84_21 : OKI 269 21 (.iload_n 1, 22, [1], 0, 0, []) := And.intro dJx4a65c_grow_92f84_21 (And.intro rfl (rfl))
theorem oJx4a65c_grow_92f84_22 : OKI 269 22 (.iload_n 2, 23, [2], 0, 0, []) := And.intro dJx4a65c_grow_92f84_22 (And.intro rfl (rfl))
theorem oJx4a65c_grow_92f84_23 : OKI 269 23 (.isub, 24, [], 0, 0, []) := And.intro dJx4a65c_grow_92f84_23 rfl
theorem oJx4a65c_grow_92f84_24 : OKI 269 24 (.iload_n 2, 25, [2], 0, 0, []) := And.intro dJx4a65c_grow_92f84_24 (And.intro rfl (rfl))
theorem oJx4a65c_grow_92f84_25 : OKI 269 25 (.iconst 1, 26, [], 1, 0, []) := And.intro dJx4a65c_grow_92f84_25 (And.intro rfl (by decide +kernel))
theorem oJx4a65c_grow_92f84_26 : OKI 269 26 (.ishr, 27, [], 0, 0, []) := And.intro dJx4a65c_grow_92f84_26 rfl
theorem oJx4a65c_grow_92f84_27 : OKI 269 27 (.invokestatic 73, 30, [280, 3, 0, 0, 0, 1], 0, 0, []) := And.intro dJx4a65c_grow_92f84_27 (And.intro rfl (And.intro rfl (And.intro mo_J8_newLength_cabcc (And.intro (Or.inl (tm_2 _ (List.mem_of_getElem? (i := 104) rfl) rfl)) (tm_2 _ (List.mem_of_getElem? (i := 105) rfl) rfl)))))
theorem oJx4a65c_grow_92f84_30 : OKI 269 30 (.istore_n 3, 31, [3], 0, 0, []) := And.intro dJx4a65c_grow_92f84_30 (And.intro rfl (And.intro rfl (by decide)))
theorem oJx4a65c_grow_92f84_31 : OKI 269 31 (.aload_n 0, 32, [0], 0, 0, []) := And.intro dJx4a65c_grow_92f84_31 (And.intro rfl (rfl))
theorem oJx4a65c_grow_92f84_32 : OKI 269 32 (.aload_n 0, 33, [0], 0, 0, []) := And.intro dJx4a65c_grow_92f84_32 (And.intro rfl (rfl))
theorem oJx4a65c_grow_92f84_33 : OKI 269 33 (.getfield 9, 36, [0, 1, 2], 0, 0, []) := And.intro dJx4a65c_grow_92f84_33 (And.intro rfl (⟨(RJx4a65c, TJx4a65c, 3), "java/util/ArrayList", rfl, by decide, tm_1 _ (List.mem_of_getElem? (i := 48) rfl) rfl, Or.inl rfl, Or.inr (Or.inl (And.intro rfl rfl))⟩))
theorem oJx4a65c_grow_92f84_36 : OKI 269 36 (.iload_n 3, 37, [3], 0, 0, []) := And.intro dJx4a65c_grow_92f84_36 (And.intro rfl (rfl))
theorem oJx4a65c_grow_92f84_37 : OKI 269 37 (.invokestatic 66, 40, [277, 2, 0, 1, 200, 3], 0, 0, []) := And.intro dJx4a65c_grow_92f84_37 (And.intro rfl (And.intro rfl (And.intro mo_J7_copyOf_1904c (And.intro (Or.inl (tm_2 _ (List.mem_of_getElem? (i := 112) rfl) rfl)) (tm_2 _ (List.mem_of_getElem? (i := 113) rfl) rfl)))))
theorem oJx4a65c_grow_92f84_40 : OKI 269 40 (.dup_x1, 41, [], 0, 0, []) := And.intro dJx4a65c_grow_92f84_40 rfl
theorem oJx4a65c_grow_92f84_41 : OKI 269 41 (.putfield 9, 44, [0, 1, 2], 0, 0, []) := And.intro dJx4a65c_grow_92f84_41 (And.intro rfl (⟨(RJx4a65c, TJx4a65c, 3), "java/util/ArrayList", rfl, by decide, tm_1 _ (List.mem_of_getElem? (i := 48) rfl) rfl, Or.inl rfl, Or.inl rfl, rfl⟩))
theorem oJx4a65c_grow_92f84_44 : OKI 269 44 (.areturn, 45, [], 0, 0, []) := And.intro dJx4a65c_grow_92f84_44 ⟨_, rfl, Or.inr ⟨_, rfl⟩⟩
theorem oJx4a65c_grow_92f84_45 : OKI 269 45 (.aload_n 0, 46, [0], 0, 0, []) := And.intro dJx4a65c_grow_92f84_45 (And.intro rfl (rfl))
theorem oJx4a65c_grow_92f84_46 : OKI 269 46 (.bipush 10, 48, [], 10, 0, []) := And.intro dJx4a65c_grow_92f84_46 (And.intro rfl (by decide +kernel))
theorem oJx4a65c_grow_92f84_48 : OKI 269 48 (.iload_n 1, 49, [1], 0, 0, []) := And.intro dJx4a65c_grow_92f84_48 (And.intro rfl (rfl))
theorem oJx4a65c_grow_92f84_49 : OKI 269 49 (.invokestatic 79, 52, [252, 2, 0, 0, 0, 1], 0, 0, []) := And.intro dJx4a65c_grow_92f84_49 (And.intro rfl (And.intro rfl (And.intro mo_J9_max_7cf53 (And.intro (Or.inl (tm_2 _ (List.mem_of_getElem? (i := 144) rfl) rfl)) (tm_1 _ (List.mem_of_getElem? (i := 89) rfl) rfl)))))
theorem oJx4a65c_grow_92f84_52 : OKI 269 52 (.anewarray 7, 55, [410], 0, 0, []) := And.intro dJx4a65c_grow_92f84_52 (And.intro rfl (And.intro (And.intro (by decide) (by decide)) ⟨"java/lang/Object", rfl, tm_2 _ (List.mem_of_getElem? (i := 145) rfl) rfl, nm_A _ (List.mem_of_getElem? (i := 5) rfl)⟩))
theorem oJx4a65c_grow_92f84_55 : OKI 269 55 (.dup_x1, 56, [], 0, 0, []) := And.intro dJx4a65c_grow_92f84_55 rfl
theorem oJx4a65c_grow_92f84_56 : OKI 269 56 (.putfield 9, 59, [0, 1, 2], 0, 0, []) := And.intro dJx4a65c_grow_92f84_56 (And.intro rfl (⟨(RJx4a65c, TJx4a65c, 3), "java/util/ArrayList", rfl, by decide, tm_1 _ (List.mem_of_getElem? (i := 48) rfl) rfl, Or.inl rfl, Or.inl rfl, rfl⟩))
theorem oJx4a65c_grow_92f84_59 : OKI 269 59 (.areturn, 60, [], 0, 0, []) := And.intro dJx4a65c_grow_92f84_59 ⟨_, rfl, Or.inr ⟨_, rfl⟩⟩
def pfJx4a65c_grow_92f84 (pc : Nat) : Option XE := (bif Nat.blt pc 27 then (bif Nat.blt pc 14 then (bif Nat.blt pc 6 then (bif Nat.blt pc 4 then (bif Nat.blt pc 1 then (bif Nat.beq pc 0 then some (.aload_n 0, 1, [0], 0, 0, []) else none) else (bif Nat.beq pc 1 then some (.getfield 9, 4, [0, 1, 2], 0, 0, []) else none)) else (bif Nat.blt pc 5 then (bif Nat.beq pc 4 then some (.arraylength, 5, [], 0, 0, []) else none) else (bif Nat.beq pc 5 then some (.istore_n 2, 6, [2], 0, 0, []) else none))) else (bif Nat.blt pc 10 then (bif Nat.blt pc 7 then (bif Nat.beq pc 6 then some (.iload_n 2, 7, [2], 0, 0, []) else none) else (bif Nat.beq pc 7 then some (.ifCond .gt 13, 10, [20], 0, 0, []) else none)) else (bif Nat.blt pc 11 then (bif Nat.beq pc 10 then some (.aload_n 0, 11, [0], 0, 0, []) else none) else (bif Nat.beq pc 11 then some (.getfield 9, 14, [0, 1, 2], 0, 0, []) else none)))) else (bif Nat.blt pc 22 then (bif Nat.blt pc 20 then (bif Nat.blt pc 17 then (bif Nat.beq pc 14 then some (.getstatic 39, 17, [510], 0, 0, []) else none) else (bif Nat.beq pc 17 then some (.if_acmp .eq 28, 20, [45], 0, 0, []) else none)) else (bif Nat.blt pc 21 then (bif Nat.beq pc 20 then some (.iload_n 2, 21, [2], 0, 0, []) else none) else (bif Nat.beq pc 21 then some (.iload_n 1, 22, [1], 0, 0, []) else none))) else (bif Nat.blt pc 24 then (bif Nat.blt pc 23 then (bif Nat.beq pc 22 then some (.iload_n 2, 23, [2], 0, 0, []) else none) else (bif Nat.beq pc 23 then some (.isub, 24, [], 0, 0, []) else none)) else (bif Nat.blt pc 25 then (bif Nat.beq pc 24 then some (.iload_n 2, 25, [2], 0, 0, []) else none) else (bif Nat.blt pc 26 then (bif Nat.beq pc 25 then some (.iconst 1, 26, [], 1, 0, []) else none) else (bif Nat.beq pc 26 then some (.ishr, 27, [], 0, 0, []) else none)))))) else (bif Nat.blt pc 44 then (bif Nat.blt pc 33 then (bif Nat.blt pc 31 then (bif Nat.blt pc 30 then (bif Nat.beq pc 27 then some (.invokestatic 73, 30, [280, 3, 0, 0, 0, 1], 0, 0, []) else none) else (bif Nat.beq pc 30 then some (.istore_n 3, 31, [3], 0, 0, []) else none)) else (bif Nat.blt pc 32 then (bif Nat.beq pc 31 then some (.aload_n 0, 32, [0], 0, 0, []) else none) else (bif Nat.beq pc 32 then some (.aload_n 0, 33, [0], 0, 0, []) else none))) else (bif Nat.blt pc 37 then (bif Nat.blt pc 36 then (bif Nat.beq pc 33 then some (.getfield 9, 36, [0, 1, 2], 0, 0, []) else none) else (bif Nat.beq pc 36 then some (.iload_n 3, 37, [3], 0, 0, []) else none)) else (bif Nat.blt pc 40 then (bif Nat.beq pc 37 then some (.invokestatic 66, 40, [277, 2, 0, 1, 200, 3], 0, 0, []) else none) else (bif Nat.blt pc 41 then (bif Nat.beq pc 40 then some (.dup_x1, 41, [], 0, 0, []) else none) else (bif Nat.beq pc 41 then some (.putfield 9, 44, [0, 1, 2], 0, 0, []) else none))))) else (bif Nat.blt pc 49 then (bif Nat.blt pc 46 then (bif Nat.blt pc 45 then (bif Nat.beq pc 44 then some (.areturn, 45, [], 0, 0, []) else none) else (bif Nat.beq pc 45 then some (.aload_n 0, 46, [0], 0, 0, []) else none)) else (bif Nat.blt pc 48 then (bif Nat.beq pc 46 then some (.bipush 10, 48, [], 10, 0, []) else none) else (bif Nat.beq pc 48 then some (.iload_n 1, 49, [1], 0, 0, []) else none))) else (bif Nat.blt pc 55 then (bif Nat.blt pc 52 then (bif Nat.beq pc 49 then some (.invokestatic 79, 52, [252, 2, 0, 0, 0, 1], 0, 0, []) else none) else (bif Nat.beq pc 52 then some (.anewarray 7, 55, [410], 0, 0, []) else none)) else (bif Nat.blt pc 56 then (bif Nat.beq pc 55 then some (.dup_x1, 56, [], 0, 0, []) else none) else (bif Nat.blt pc 59 then (bif Nat.beq pc 56 then some (.putfield 9, 59, [0, 1, 2], 0, 0, []) else none) else (bif Nat.beq pc 59 then some (.areturn, 60, [], 0, 0, []) else none)))))))
theorem okJx4a65c_grow_92f84 : ∀ pc Y, pfJx4a65c_grow_92f84 pc = some Y → OKI m_Jx4a65c_grow_92f84 pc Y := fun pc Y => ((bt_node (bt_node (bt_node (bt_node (bt_node (bt_leaf (P := OKI m_Jx4a65c_grow_92f84) oJx4a65c_grow_92f84_0) (bt_leaf (P := OKI m_Jx4a65c_grow_92f84) oJx4a65c_grow_92f84_1)) (bt_node (bt_leaf (P := OKI m_Jx4a65c_grow_92f84) oJx4a65c_grow_92f84_4) (bt_leaf (P := OKI m_Jx4a65c_grow_92f84) oJx4a65c_grow_92f84_5))) (bt_node (bt_node (bt_leaf (P := OKI m_Jx4a65c_grow_92f84) oJx4a65c_grow_92f84_6) (bt_leaf (P := OKI m_Jx4a65c_grow_92f84) oJx4a65c_grow_92f84_7)) (bt_node (bt_leaf (P := OKI m_Jx4a65c_grow_92f84) oJx4a65c_grow_92f84_10) (bt_leaf (P := OKI m_Jx4a65c_grow_92f84) oJx4a65c_grow_92f84_11)))) (bt_node (bt_node (bt_node (bt_leaf (P := OKI m_Jx4a65c_grow_92f84) oJx4a65c_grow_92f84_14) (bt_leaf (P := OKI m_Jx4a65c_grow_92f84) oJx4a65c_grow_92f84_17)) (bt_node (bt_leaf (P := OKI m_Jx4a65c_grow_92f84) oJx4a65c_grow_92f84_20) (bt_leaf (P := OKI m_Jx4a65c_grow_92f84) oJx4a65c_grow_92f84_21))) (bt_node (bt_node (bt_leaf (P := OKI m_Jx4a65c_grow_92f84) oJx4a65c_grow_92f84_22) (bt_leaf (P := OKI m_Jx4a65c_grow_92f84) oJx4a65c_grow_92f84_23)) (bt_node (bt_leaf (P := OKI m_Jx4a65c_grow_92f84) oJx4a65c_grow_92f84_24) (bt_node (bt_leaf (P := OKI m_Jx4a65c_grow_92f84) oJx4a65c_grow_92f84_25) (bt_leaf (P := OKI m_Jx4a65c_grow_92f84) oJx4a65c_grow_92f84_26)))))) (bt_node (bt_node (bt_node (bt_node (bt_leaf (P := OKI m_Jx4a65c_grow_92f84) oJx4a65c_grow_92f84_27) (bt_leaf (P := OKI m_Jx4a65c_grow_92f84) oJx4a65c_grow_92f84_30)) (bt_node (bt_leaf (P := OKI m_Jx4a65c_grow_92f84) oJx4a65c_grow_92f84_31) (bt_leaf (P := OKI m_Jx4a65c_grow_92f84) oJx4a65c_grow_92f84_32))) (bt_node (bt_node (bt_leaf (P := OKI m_Jx4a65c_grow_92f84) oJx4a65c_grow_92f84_33) (bt_leaf (P := OKI m_Jx4a65c_grow_92f84) oJx4a65c_grow_92f84_36)) (bt_node (bt_leaf (P := OKI m_Jx4a65c_grow_92f84) oJx4a65c_grow_92f84_37) (bt_node (bt_leaf (P := OKI m_Jx4a65c_grow_92f84) oJx4a65c_grow_92f84_40) (bt_leaf (P := OKI m_Jx4a65c_grow_92f84) oJx4a65c_grow_92f84_41))))) (bt_node (bt_node (bt_node (bt_leaf (P := OKI m_Jx4a65c_grow_92f84) oJx4a65c_grow_92f84_44) (bt_leaf (P := OKI m_Jx4a65c_grow_92f84) oJx4a65c_grow_92f84_45)) (bt_node (bt_leaf (P := OKI m_Jx4a65c_grow_92f84) oJx4a65c_grow_92f84_46) (bt_leaf (P := OKI m_Jx4a65c_grow_92f84) oJx4a65c_grow_92f84_48))) (bt_node (bt_node (bt_leaf (P := OKI m_Jx4a65c_grow_92f84) oJx4a65c_grow_92f84_49) (bt_leaf (P := OKI m_Jx4a65c_grow_92f84) oJx4a65c_grow_92f84_52)) (bt_node (bt_leaf (P := OKI m_Jx4a65c_grow_92f84) oJx4a65c_grow_92f84_55) (bt_node (bt_leaf (P := OKI m_Jx4a65c_grow_92f84) oJx4a65c_grow_92f84_56) (bt_leaf (P := OKI m_Jx4a65c_grow_92f84) oJx4a65c_grow_92f84_59))))))) : pfJx4a65c_grow_92f84 pc = some Y → OKI m_Jx4a65c_grow_92f84 pc Y)
def stpJx4a65c_grow_92f84 (pc : Nat) : Option (List Bool) := (bif Nat.beq pc 20 then some [true, true, true, false] else none)
def bJx4a65c_grow_92f84_0 (d rc rs : Nat) (t : Nat) (a1 : Int32) (σ : XH) (Q : XV → XH → Prop) : Prop :=
  ((arf (hr σ 0 t 1) fun o1 => (bif alOk o1 then ((0 < (Int32.ofNat (hn σ o1.1 o1.2)) → Ex d rc rs m_Jx4a65c_grow_92f84 20 [vR (some (0, t)), vI a1, vI (Int32.ofNat (hn σ o1.1 o1.2)), vU] [] σ Q) ∧ (¬ 0 < (Int32.ofNat (hn σ o1.1 o1.2)) → ((acmpOk (hr σ 0 t 1) (some (510, 0)) ∧ (((hr σ 0 t 1 : Option XO) = some (510, 0) → (1 ≤ d ∧ Ec (d - 1) 0 0 m_J9_max_7cf53 [vI 10, vI a1] σ (kI fun x3 h2 => (¬ x3 < 0 ∧ x3.toNatClampNeg ≤ 100000 ∧ 1 ≤ rc ∧ x3.toNatClampNeg ≤ rs ∧ (∀ h4, h4 = nwA h2 410 x3.toNatClampNeg → ((∀ h5, h5 = wR h4 0 t 1 (some (410, hc h2 410)) → Q (vR (some (410, hc h2 410))) h5))))))) ∧ (¬ (hr σ 0 t 1 : Option XO) = some (510, 0) → Ex d rc rs m_Jx4a65c_grow_92f84 20 [vR (some (0, t)), vI a1, vI (Int32.ofNat (hn σ o1.1 o1.2)), vU] [] σ Q)))))) else (bif Nat.beq o1.1 510 && Nat.beq o1.2 0 then (hn σ 510 0 = 0 ∧ ((0 < (Int32.ofNat (hn σ 510 0)) → Ex d rc rs m_Jx4a65c_grow_92f84 20 [vR (some (0, t)), vI a1, vI (Int32.ofNat (hn σ 510 0)), vU] [] σ Q) ∧ (¬ 0 < (Int32.ofNat (hn σ 510 0)) → ((acmpOk (hr σ 0 t 1) (some (510, 0)) ∧ (((hr σ 0 t 1 : Option XO) = some (510, 0) → (1 ≤ d ∧ Ec (d - 1) 0 0 m_J9_max_7cf53 [vI 10, vI a1] σ (kI fun x7 h6 => (¬ x7 < 0 ∧ x7.toNatClampNeg ≤ 100000 ∧ 1 ≤ rc ∧ x7.toNatClampNeg ≤ rs ∧ (∀ h8, h8 = nwA h6 410 x7.toNatClampNeg → ((∀ h9, h9 = wR h8 0 t 1 (some (410, hc h6 410)) → Q (vR (some (410, hc h6 410))) h9))))))) ∧ (¬ (hr σ 0 t 1 : Option XO) = some (510, 0) → Ex d rc rs m_Jx4a65c_grow_92f84 20 [vR (some (0, t)), vI a1, vI (Int32.ofNat (hn σ 510 0)), vU] [] σ Q))))))) else False))))
theorem sJx4a65c_grow_92f84_0 {d rc rs : Nat} {t : Nat} {a1 : Int32} {σ : XH} {Q : XV → XH → Prop} (h : bJx4a65c_grow_92f84_0 d rc rs t a1 σ Q) : Ex d rc rs m_Jx4a65c_grow_92f84 0 [vR (some (0, t)), vI a1, vU, vU] [] σ Q :=
  xtree_sound (stop := stpJx4a65c_grow_92f84) okJx4a65c_grow_92f84 20 _ _ _ _ _ _ h
def bJx4a65c_grow_92f84_20 (d rc rs : Nat) (t : Nat) (l1 : Int32) (l2 : Int32) (σ : XH) (Q : XV → XH → Prop) : Prop :=
  (1 ≤ d ∧ Ec (d - 1) 0 0 m_J8_newLength_cabcc [vI l2, vI (l1 - l2), vI (l2 >>> (1 &&& 31))] σ (kI fun x2 h1 => ((1 ≤ d ∧ 1 ≤ rc ∧ 200 ≤ rs ∧ Ec (d - 1) 1 200 m_J7_copyOf_1904c [vR (hr h1 0 t 1), vI x2] h1 (kR fun x4 h3 => ((∀ h5, h5 = wR h3 0 t 1 x4 → Q (vR x4) h5)))))))
theorem sJx4a65c_grow_92f84_20 {d rc rs : Nat} {t : Nat} {l1 : Int32} {l2 : Int32} {σ : XH} {Q : XV → XH → Prop} (h : bJx4a65c_grow_92f84_20 d rc rs t l1 l2 σ Q) : Ex d rc rs m_Jx4a65c_grow_92f84 20 [vR (some (0, t)), vI l1, vI l2, vU] [] σ Q :=
  xtree_sound (stop := stpJx4a65c_grow_92f84) okJx4a65c_grow_92f84 19 _ _ _ _ _ _ h
/-! java/util/ArrayList.grow()[Ljava/lang/Object; -/
theorem dJx4a65c_grow_d5877_0 : decode cJx4a65c_grow_d5877 0 = .ok (.aload_n 0, 1) := by decide +kernel
theorem dJx4a65c_grow_d5877_1 : decode cJx4a65c_grow_d5877 1 = .ok (.aload_n 0, 1) := by decide +kernel
theorem dJx4a65c_grow_d5877_2 : decode cJx4a65c_grow_d5877 2 = .ok (.getfield 48, 3) := by decide +kernel
theorem dJx4a65c_grow_d5877_5 : decode cJx4a65c_grow_d5877 5 = .ok (.iconst 1, 1) := by decide +kernel
theorem dJx4a65c_grow_d5877_6 : decode cJx4a65c_grow_d5877 6 = .ok (.iadd, 1) := by decide +kernel
theorem dJx4a65c_grow_d5877_7 : decode cJx4a65c_grow_d5877 7 = .ok (.invokevirtual 69, 3) := by decide +kernel
theorem dJx4a65c_grow_d5877_10 : decode cJx4a65c_grow_d5877 10 = .ok (.areturn, 1) := by decide +kernel
theorem oJx4a65c_grow_d5877_0 : OKI 270 0 (.aload_n 0, 1, [0], 0, 0, []) := And.intro dJx4a65c_grow_d5877_0 (And.intro rfl (rfl))
theorem oJx4a65c_grow_d5877_1 : OKI 270 1 (.aload_n 0, 2, [0], 0, 0, []) := And.intro dJx4a65c_grow_d5877_1 (And.intro rfl (rfl))
theorem oJx4a65c_grow_d5877_2 : OKI 270 2 (.getfield 48, 5, [0, 2, 0], 0, 0, []) := And.intro dJx4a65c_grow_d5877_2 (And.intro rfl (⟨(RJx4a65c, TJx4a65c, 3), "java/util/ArrayList", rfl, by decide, tm_1 _ (List.mem_of_getElem? (i := 49) rfl) rfl, Or.inl rfl, Or.inr (Or.inr (And.intro rfl (Or.inl rfl)))⟩))
theorem oJx4a65c_grow_d5877_5 : OKI 270 5 (.iconst 1, 6, [], 1, 0, []) := And.intro dJx4a65c_grow_d5877_5 (And.intro rfl (by decide +kernel))
theorem oJx4a65c_grow_d5877_6 : OKI 270 6 (.iadd, 7, [], 0, 0, []) := And.intro dJx4a65c_grow_d5877_6 rfl
theorem oJx4a65c_grow_d5877_7 : OKI 270 7 (.invokevirtual 69, 10, [269, 2, 1, 1, 200, 3], 0, 0, []) := And.intro dJx4a65c_grow_d5877_7 (And.intro rfl (And.intro (by decide) (And.intro (by decide) (And.intro mo_Jx4a65c_grow_92f84 (And.intro (tm_2 _ (List.mem_of_getElem? (i := 100) rfl) rfl) (And.intro (tm_2 _ (List.mem_of_getElem? (i := 102) rfl) rfl) (And.intro (pm_1 _ (List.mem_of_getElem? (i := 2) rfl)) (Or.inl ⟨(RJx4a65c, TJx4a65c, 3), rfl, rfl⟩))))))))
theorem oJx4a65c_grow_d5877_10 : OKI 270 10 (.areturn, 11, [], 0, 0, []) := And.intro dJx4a65c_grow_d5877_10 ⟨_, rfl, Or.inr ⟨_, rfl⟩⟩
def pfJx4a65c_grow_d5877 (pc : Nat) : Option XE := (bif Nat.blt pc 5 then (bif Nat.blt pc 1 then (bif Nat.beq pc 0 then some (.aload_n 0, 1, [0], 0, 0, []) else none) else (bif Nat.blt pc 2 then (bif Nat.beq pc 1 then some (.aload_n 0, 2, [0], 0, 0, []) else none) else (bif Nat.beq pc 2 then some (.getfield 48, 5, [0, 2, 0], 0, 0, []) else none))) else (bif Nat.blt pc 7 then (bif Nat.blt pc 6 then (bif Nat.beq pc 5 then some (.iconst 1, 6, [], 1, 0, []) else none) else (bif Nat.beq pc 6 then some (.iadd, 7, [], 0, 0, []) else none)) else (bif Nat.blt pc 10 then (bif Nat.beq pc 7 then some (.invokevirtual 69, 10, [269, 2, 1, 1, 200, 3], 0, 0, []) else none) else (bif Nat.beq pc 10 then some (.areturn, 11, [], 0, 0, []) else none))))
theorem okJx4a65c_grow_d5877 : ∀ pc Y, pfJx4a65c_grow_d5877 pc = some Y → OKI m_Jx4a65c_grow_d5877 pc Y := fun pc Y => ((bt_node (bt_node (bt_leaf (P := OKI m_Jx4a65c_grow_d5877) oJx4a65c_grow_d5877_0) (bt_node (bt_leaf (P := OKI m_Jx4a65c_grow_d5877) oJx4a65c_grow_d5877_1) (bt_leaf (P := OKI m_Jx4a65c_grow_d5877) oJx4a65c_grow_d5877_2))) (bt_node (bt_node (bt_leaf (P := OKI m_Jx4a65c_grow_d5877) oJx4a65c_grow_d5877_5) (bt_leaf (P := OKI m_Jx4a65c_grow_d5877) oJx4a65c_grow_d5877_6)) (bt_node (bt_leaf (P := OKI m_Jx4a65c_grow_d5877) oJx4a65c_grow_d5877_7) (bt_leaf (P := OKI m_Jx4a65c_grow_d5877) oJx4a65c_grow_d5877_10)))) : pfJx4a65c_grow_d5877 pc = some Y → OKI m_Jx4a65c_grow_d5877 pc Y)
def stpJx4a65c_grow_d5877 (_ : Nat) : Option (List Bool) := none
def bJx4a65c_grow_d5877_0 (d rc rs : Nat) (t : Nat)  (σ : XH) (Q : XV → XH → Prop) : Prop :=
  (((1 ≤ d ∧ 1 ≤ rc ∧ 200 ≤ rs ∧ Ec (d - 1) 1 200 m_Jx4a65c_grow_92f84 [vR (some (0, t)), vI ((hi σ 0 t 2) + 1)] σ (kR fun x2 h1 => Q (vR x2) h1))))
theorem sJx4a65c_grow_d5877_0 {d rc rs : Nat} {t : Nat}  {σ : XH} {Q : XV → XH → Prop} (h : bJx4a65c_grow_d5877_0 d rc rs t  σ Q) : Ex d rc rs m_Jx4a65c_grow_d5877 0 [vR (some (0, t))] [] σ Q :=
  xtree_sound (stop := stpJx4a65c_grow_d5877) okJx4a65c_grow_d5877 9 _ _ _ _ _ _ h
/-! java/util/ArrayList.size()I -/
theorem dJx4a65c_size_8abf5_0 : decode cJx4a65c_size_8abf5 0 = .ok (.aload_n 0, 1) := by decide +kernel
theorem dJx4a65c_size_8abf5_1 : decode cJx4a65c_size_8abf5 1 = .ok (.getfield 48, 3) := by decide +kernel
theorem dJx4a65c_size_8abf5_4 : decode cJx4a65c_size_8abf5 4 = .ok (.ireturn, 1) := by decide +kernel
theorem oJx4a65c_size_8abf5_0 : OKI 271 0 (.aload_n 0, 1, [0], 0, 0, []) := And.intro dJx4a65c_size_8abf5_0 (And.intro rfl (rfl))
theorem oJx4a65c_size_8abf5_1 : OKI 271 1 (.getfield 48, 4, [0, 2, 0], 0, 0, []) := And.intro dJx4a65c_size_8abf5_1 (And.intro rfl (⟨(RJx4a65c, TJx4a65c, 3), "java/util/ArrayList", rfl, by decide, tm_1 _ (List.mem_of_getElem? (i := 49) rfl) rfl, Or.inl rfl, Or.inr (Or.inr (And.intro rfl (Or.inl rfl)))⟩))
theorem oJx4a65c_size_8abf5_4 : OKI 271 4 (.ireturn, 5, [0], 0, 0, []) := And.intro dJx4a65c_size_8abf5_4 (Or.inl (And.intro rfl rfl))
def pfJx4a65c_size_8abf5 (pc : Nat) : Option XE := (bif Nat.blt pc 1 then (bif Nat.beq pc 0 then some (.aload_n 0, 1, [0], 0, 0, []) else none) else (bif Nat.blt pc 4 then (bif Nat.beq pc 1 then some (.getfield 48, 4, [0, 2, 0], 0, 0, []) else none) else (bif Nat.beq pc 4 then some (.ireturn, 5, [0], 0, 0, []) else none)))
theorem okJx4a65c_size_8abf5 : ∀ pc Y, pfJx4a65c_size_8abf5 pc = some Y → OKI m_Jx4a65c_size_8abf5 pc Y := fun pc Y => ((bt_node (bt_leaf (P := OKI m_Jx4a65c_size_8abf5) oJx4a65c_size_8abf5_0) (bt_node (bt_leaf (P := OKI m_Jx4a65c_size_8abf5) oJx4a65c_size_8abf5_1) (bt_leaf (P := OKI m_Jx4a65c_size_8abf5) oJx4a65c_size_8abf5_4))) : pfJx4a65c_size_8abf5 pc = some Y → OKI m_Jx4a65c_size_8abf5 pc Y)
def stpJx4a65c_size_8abf5 (_ : Nat) : Option (List Bool) := none
def bJx4a65c_size_8abf5_0 (d rc rs : Nat) (t : Nat)  (σ : XH) (Q : XV → XH → Prop) : Prop :=
  (Q (vI (hi σ 0 t 2)) σ)
theorem sJx4a65c_size_8abf5_0 {d rc rs : Nat} {t : Nat}  {σ : XH} {Q : XV → XH → Prop} (h : bJx4a65c_size_8abf5_0 d rc rs t  σ Q) : Ex d rc rs m_Jx4a65c_size_8abf5 0 [vR (some (0, t))] [] σ Q :=
  xtree_sound (stop := stpJx4a65c_size_8abf5) okJx4a65c_size_8abf5 5 _ _ _ _ _ _ h
/-! java/util/ArrayList.elementData(I)Ljava/lang/Object; -/
theorem dJx4a65c_elementData_915e3_0 : decode cJx4a65c_elementData_915e3 0 = .ok (.aload_n 0, 1) := by decide +kernel
theorem dJx4a65c_elementData_915e3_1 : decode cJx4a65c_elementData_915e3 1 = .ok (.getfield 9, 3) := by decide +kernel
theorem dJx4a65c_elementData_915e3_4 : decode cJx4a65c_elementData_915e3 4 = .ok (.iload_n 1, 1) := by decide +kernel
theorem dJx4a65c_elementData_915e3_5 : decode cJx4a65c_elementData_915e3 5 = .ok (.aaload, 1) := by decide +kernel
theorem dJx4a65c_elementData_915e3_6 : decode cJx4a65c_elementData_915e3 6 = .ok (.areturn, 1) := by decide +kernel
theorem oJx4a65c_elementData_915e3_0 : OKI 272 0 (.aload_n 0, 1, [0], 0, 0, []) := And.intro dJx4a65c_elementData_915e3_0 (And.intro rfl (rfl))
theorem oJx4a65c_elementData_915e3_1 : OKI 272 1 (.getfield 9, 4, [0, 1, 2], 0, 0, []) := And.intro dJx4a65c_elementData_915e3_1 (And.intro rfl (⟨(RJx4a65c, TJx4a65c, 3), "java/util/ArrayList", rfl, by decide, tm_1 _ (List.mem_of_getElem? (i := 48) rfl) rfl, Or.inl rfl, Or.inr (Or.inl (And.intro rfl rfl))⟩))
theorem oJx4a65c_elementData_915e3_4 : OKI 272 4 (.iload_n 1, 5, [1], 0, 0, []) := And.intro dJx4a65c_elementData_915e3_4 (And.intro rfl (rfl))
theorem oJx4a65c_elementData_915e3_5 : OKI 272 5 (.aaload, 6, [], 0, 0, []) := And.intro dJx4a65c_elementData_915e3_5 rfl
theorem oJx4a65c_elementData_915e3_6 : OKI 272 6 (.areturn, 7, [], 0, 0, []) := And.intro dJx4a65c_elementData_915e3_6 ⟨_, rfl, Or.inl ⟨_, rfl⟩⟩
def pfJx4a65c_elementData_915e3 (pc : Nat) : Option XE := (bif Nat.blt pc 4 then (bif Nat.blt pc 1 then (bif Nat.beq pc 0 then some (.aload_n 0, 1, [0], 0, 0, []) else none) else (bif Nat.beq pc 1 then some (.getfield 9, 4, [0, 1, 2], 0, 0, []) else none)) else (bif Nat.blt pc 5 then (bif Nat.beq pc 4 then some (.iload_n 1, 5, [1], 0, 0, []) else none) else (bif Nat.blt pc 6 then (bif Nat.beq pc 5 then some (.aaload, 6, [], 0, 0, []) else none) else (bif Nat.beq pc 6 then some (.areturn, 7, [], 0, 0, []) else none))))
theorem okJx4a65c_elementData_915e3 : ∀ pc Y, pfJx4a65c_elementData_915e3 pc = some Y → OKI m_Jx4a65c_elementData_915e3 pc Y := fun pc Y => ((bt_node (bt_node (bt_leaf (P := OKI m_Jx4a65c_elementData_915e3) oJx4a65c_elementData_915e3_0) (bt_leaf (P := OKI m_Jx4a65c_elementData_915e3) oJx4a65c_elementData_915e3_1)) (bt_node (bt_leaf (P := OKI m_Jx4a65c_elementData_915e3) oJx4a65c_elementData_915e3_4) (bt_node (bt_leaf (P := OKI m_Jx4a65c_elementData_915e3) oJx4a65c_elementData_915e3_5) (bt_leaf (P := OKI m_Jx4a65c_elementData_915e3) oJx4a65c_elementData_915e3_6)))) : pfJx4a65c_elementData_915e3 pc = some Y → OKI m_Jx4a65c_elementData_915e3 pc Y)
def stpJx4a65c_elementData_915e3 (_ : Nat) : Option (List Bool) := none
def bJx4a65c_elementData_915e3_0 (d rc rs : Nat) (t : Nat) (a1 : Int32) (σ : XH) (Q : XV → XH → Prop) : Prop :=
  ((arf (hr σ 0 t 1) fun o1 => (bif Nat.ble 400 o1.1 && Nat.blt o1.1 500 then (vp_in a1 (hn σ o1.1 o1.2) ∧ Q (vR (hr σ o1.1 o1.2 a1.toNatClampNeg)) σ) else False)))
theorem sJx4a65c_elementData_915e3_0 {d rc rs : Nat} {t : Nat} {a1 : Int32} {σ : XH} {Q : XV → XH → Prop} (h : bJx4a65c_elementData_915e3_0 d rc rs t a1 σ Q) : Ex d rc rs m_Jx4a65c_elementData_915e3 0 [vR (some (0, t)), vI a1] [] σ Q :=
  xtree_sound (stop := stpJx4a65c_elementData_915e3) okJx4a65c_elementData_915e3 7 _ _ _ _ _ _ h
/-! java/util/ArrayList.get(I)Ljava/lang/Object; -/
theorem dJx4a65c_get_915e3_0 : decode cJx4a65c_get_915e3 0 = .ok (.iload_n 1, 1) := by decide +kernel
theorem dJx4a65c_get_915e3_1 : decode cJx4a65c_get_915e3 1 = .ok (.aload_n 0, 1) := by decide +kernel
theorem dJx4a65c_get_915e3_2 : decode cJx4a65c_get_915e3 2 = .ok (.getfield 48, 3) := by decide +kernel
theorem dJx4a65c_get_915e3_5 : decode cJx4a65c_get_915e3 5 = .ok (.invokestatic 118, 3) := by decide +kernel
theorem dJx4a65c_get_915e3_8 : decode cJx4a65c_get_915e3 8 = .ok (.pop, 1) := by decide +kernel
theorem dJx4a65c_get_915e3_9 : decode cJx4a65c_get_915e3 9 = .ok (.aload_n 0, 1) := by decide +kernel
theorem dJx4a65c_get_915e3_10 : decode cJx4a65c_get_915e3 10 = .ok (.iload_n 1, 1) := by decide +kernel
theorem dJx4a65c_get_915e3_11 : decode cJx4a65c_get_915e3 11 = .ok (.invokevirtual 123, 3) := by decide +kernel
theorem dJx4a65c_get_915e3_14 : decode cJx4a65c_get_915e3 14 = .ok (.areturn, 1) := by decide +kernel
theorem oJx4a65c_get_915e3_0 : OKI 273 0 (.iload_n 1, 1, [1], 0, 0, []) := And.intro dJx4a65c_get_915e3_0 (And.intro rfl (rfl))
theorem oJx4a65c_get_915e3_1 : OKI 273 1 (.aload_n 0, 2, [0], 0, 0, []) := And.intro dJx4a65c_get_915e3_1 (And.intro rfl (rfl))
theorem oJx4a65c_get_915e3_2 : OKI 273 2 (.getfield 48, 5, [0, 2, 0], 0, 0, []) := And.intro dJx4a65c_get_915e3_2 (And.intro rfl (⟨(RJx4a65c, TJx4a65c, 3), "java/util/ArrayList", rfl, by decide, tm_1 _ (List.mem_of_getElem? (i := 49) rfl) rfl, Or.inl rfl, Or.inr (Or.inr (And.intro rfl (Or.inl rfl)))⟩))
theorem oJx4a65c_get_915e3_5 : OKI 273 5 (.invokestatic 118, 8, [279, 2, 0, 0, 0, 1], 0, 0, []) := And.intro dJx4a65c_get_915e3_5 (And.intro rfl (And.intro rfl (And.intro mo_J15_checkIndex_7cf53 (And.intro (Or.inl (tm_2 _ (List.mem_of_getElem? (i := 158) rfl) rfl)) (tm_2 _ (List.mem_of_getElem? (i := 159) rfl) rfl)))))
theorem oJx4a65c_get_915e3_8 : OKI 273 8 (.pop, 9, [], 0, 0, []) := And.intro dJx4a65c_get_915e3_8 rfl
theorem oJx4a65c_get_915e3_9 : OKI 273 9 (.aload_n 0, 10, [0], 0, 0, []) := And.intro dJx4a65c_get_915e3_9 (And.intro rfl (rfl))
theorem oJx4a65c_get_915e3_10 : OKI 273 10 (.iload_n 1, 11, [1], 0, 0, []) := And.intro dJx4a65c_get_915e3_10 (And.intro rfl (rfl))
theorem oJx4a65c_get_915e3_11 : OKI 273 11 (.invokevirtual 123, 14, [272, 2, 1, 0, 0, 3], 0, 0, []) := And.intro dJx4a65c_get_915e3_11 (And.intro rfl (And.intro (by decide) (And.intro (by decide) (And.intro mo_Jx4a65c_elementData_915e3 (And.intro (tm_2 _ (List.mem_of_getElem? (i := 164) rfl) rfl) (And.intro (tm_2 _ (List.mem_of_getElem? (i := 165) rfl) rfl) (And.intro (tm_2 _ (List.mem_of_getElem? (i := 166) rfl) rfl) (Or.inl ⟨(RJx4a65c, TJx4a65c, 3), rfl, rfl⟩))))))))
theorem oJx4a65c_get_915e3_14 : OKI 273 14 (.areturn, 15, [], 0, 0, []) := And.intro dJx4a65c_get_915e3_14 ⟨_, rfl, Or.inl ⟨_, rfl⟩⟩
def pfJx4a65c_get_915e3 (pc : Nat) : Option XE := (bif Nat.blt pc 8 then (bif Nat.blt pc 2 then (bif Nat.blt pc 1 then (bif Nat.beq pc 0 then some (.iload_n 1, 1, [1], 0, 0, []) else none) else (bif Nat.beq pc 1 then some (.aload_n 0, 2, [0], 0, 0, []) else none)) else (bif Nat.blt pc 5 then (bif Nat.beq pc 2 then some (.getfield 48, 5, [0, 2, 0], 0, 0, []) else none) else (bif Nat.beq pc 5 then some (.invokestatic 118, 8, [279, 2, 0, 0, 0, 1], 0, 0, []) else none))) else (bif Nat.blt pc 10 then (bif Nat.blt pc 9 then (bif Nat.beq pc 8 then some (.pop, 9, [], 0, 0, []) else none) else (bif Nat.beq pc 9 then some (.aload_n 0, 10, [0], 0, 0, []) else none)) else (bif Nat.blt pc 11 then (bif Nat.beq pc 10 then some (.iload_n 1, 11, [1], 0, 0, []) else none) else (bif Nat.blt pc 14 then (bif Nat.beq pc 11 then some (.invokevirtual 123, 14, [272, 2, 1, 0, 0, 3], 0, 0, []) else none) else (bif Nat.beq pc 14 then some (.areturn, 15, [], 0, 0, []) else none)))))
theorem okJx4a65c_get_915e3 : ∀ pc Y, pfJx4a65c_get_915e3 pc = some Y → OKI m_Jx4a65c_get_915e3 pc Y := fun pc Y => ((bt_node (bt_node (bt_node (bt_leaf (P := OKI m_Jx4a65c_get_915e3) oJx4a65c_get_915e3_0) (bt_leaf (P := OKI m_Jx4a65c_get_915e3) oJx4a65c_get_915e3_1)) (bt_node (bt_leaf (P := OKI m_Jx4a65c_get_915e3) oJx4a65c_get_915e3_2) (bt_leaf (P := OKI m_Jx4a65c_get_915e3) oJx4a65c_get_915e3_5))) (bt_node (bt_node (bt_leaf (P := OKI m_Jx4a65c_get_915e3) oJx4a65c_get_915e3_8) (bt_leaf (P := OKI m_Jx4a65c_get_915e3) oJx4a65c_get_915e3_9)) (bt_node (bt_leaf (P := OKI m_Jx4a65c_get_915e3) oJx4a65c_get_915e3_10) (bt_node (bt_leaf (P := OKI m_Jx4a65c_get_915e3) oJx4a65c_get_915e3_11) (bt_leaf (P := OKI m_Jx4a65c_get_915e3) oJx4a65c_get_915e3_14))))) : pfJx4a65c_get_915e3 pc = some Y → OKI m_Jx4a65c_get_915e3 pc Y)
def stpJx4a65c_get_915e3 (_ : Nat) : Option (List Bool) := none
def bJx4a65c_get_915e3_0 (d rc rs : Nat) (t : Nat) (a1 : Int32) (σ : XH) (Q : XV → XH → Prop) : Prop :=
  ((1 ≤ d ∧ Ec (d - 1) 0 0 m_J15_checkIndex_7cf53 [vI a1, vI (hi σ 0 t 2)] σ (kI fun x2 h1 => ((1 ≤ d ∧ Ec (d - 1) 0 0 m_Jx4a65c_elementData_915e3 [vR (some (0, t)), vI a1] h1 (kR fun x4 h3 => Q (vR x4) h3))))))
theorem sJx4a65c_get_915e3_0 {d rc rs : Nat} {t : Nat} {a1 : Int32} {σ : XH} {Q : XV → XH → Prop} (h : bJx4a65c_get_915e3_0 d rc rs t a1 σ Q) : Ex d rc rs m_Jx4a65c_get_915e3 0 [vR (some (0, t)), vI a1] [] σ Q :=
  xtree_sound (stop := stpJx4a65c_get_915e3) okJx4a65c_get_915e3 11 _ _ _ _ _ _ h
/-! java/util/ArrayList.add(Ljava/lang/Object;[Ljava/lang/Object;I)V -/
theorem dJx4a65c_add_72be8_0 : decode cJx4a65c_add_72be8 0 = .ok (.iload_n 3, 1) := by decide +kernel
theorem dJx4a65c_add_72be8_1 : decode cJx4a65c_add_72be8 1 = .ok (.aload_n 2, 1) := by decide +kernel
theorem dJx4a65c_add_72be8_2 : decode cJx4a65c_add_72be8 2 = .ok (.arraylength, 1) := by decide +kernel
theorem dJx4a65c_add_72be8_3 : decode cJx4a65c_add_72be8 3 = .ok (.if_icmp .ne 8, 3) := by decide +kernel
theorem dJx4a65c_add_72be8_6 : decode cJx4a65c_add_72be8 6 = .ok (.aload_n 0, 1) := by decide +kernel
theorem dJx4a65c_add_72be8_7 : decode cJx4a65c_add_72be8 7 = .ok (.invokevirtual 129, 3) := by decide +kernel
theorem dJx4a65c_add_72be8_10 : decode cJx4a65c_add_72be8 10 = .ok (.astore_n 2, 1) := by decide +kernel
theorem dJx4a65c_add_72be8_11 : decode cJx4a65c_add_72be8 11 = .ok (.aload_n 2, 1) := by decide +kernel
theorem dJx4a65c_add_72be8_12 : decode cJx4a65c_add_72be8 12 = .ok (.iload_n 3, 1) := by decide +kernel
theorem dJx4a65c_add_72be8_13 : decode cJx4a65c_add_72be8 13 = .ok (.aload_n 1, 1) := by decide +kernel
theorem dJx4a65c_add_72be8_14 : decode cJx4a65c_add_72be8 14 = .ok (.aastore, 1) := by decide +kernel
theorem dJx4a65c_add_72be8_15 : decode cJx4a65c_add_72be8 15 = .ok (.aload_n 0, 1) := by decide +kernel
theorem dJx4a65c_add_72be8_16 : decode cJx4a65c_add_72be8 16 = .ok (.iload_n 3, 1) := by decide +kernel
theorem dJx4a65c_add_72be8_17 : decode cJx4a65c_add_72be8 17 = .ok (.iconst 1, 1) := by decide +kernel
theorem dJx4a65c_add_72be8_18 : decode cJx4a65c_add_72be8 18 = .ok (.iadd, 1) := by decide +kernel
theorem dJx4a65c_add_72be8_19 : decode cJx4a65c_add_72be8 19 = .ok (.putfield 48, 3) := by decide +kernel
theorem dJx4a65c_add_72be8_22 : decode cJx4a65c_add_72be8 22 = .ok (.return_, 1) := by decide +kernel
theorem oJx4a65c_add_72be8_0 : OKI 274 0 (.iload_n 3, 1, [3], 0, 0, []) := And.intro dJx4a65c_add_72be8_0 (And.intro rfl (rfl))
theorem oJx4a65c_add_72be8_1 : OKI 274 1 (.aload_n 2, 2, [2], 0, 0, []) := And.intro dJx4a65c_add_72be8_1 (And.intro rfl (rfl))
theorem oJx4a65c_add_72be8_2 : OKI 274 2 (.arraylength, 3, [], 0, 0, []) := And.intro dJx4a65c_add_72be8_2 rfl
theorem oJx4a65c_add_72be8_3 : OKI 274 3 (.if_icmp .ne 8, 6, [11], 0, 0, []) := And.intro dJx4a65c_add_72be8_3 (And.intro rfl (by decide))
theorem oJx4a65c_add_72be8_6 : OKI 274 6 (.aload_n 0, 7, [0], 0, 0, []) := And.intro dJx4a65c_add_72be8_6 (And.intro rfl (rfl))
theorem oJx4a65c_add_72be8_7 : OKI 274 7 (.invokevirtual 129, 10, [270, 1, 1, 1, 200, 3], 0, 0, []) := And.intro dJx4a65c_add_72be8_7 (And.intro rfl (And.intro (by decide) (And.intro (by decide) (And.intro mo_Jx4a65c_grow_d5877 (And.intro (tm_2 _ (List.mem_of_getElem? (i := 96) rfl) rfl) (And.intro (tm_2 _ (List.mem_of_getElem? (i := 98) rfl) rfl) (And.intro (pm_1 _ (List.mem_of_getElem? (i := 1) rfl)) (Or.inl ⟨(RJx4a65c, TJx4a65c, 3), rfl, rfl⟩))))))))
theorem oJx4a65c_add_72be8_10 : OKI 274 10 (.astore_n 2, 11, [2], 0, 0, []) := And.intro dJx4a65c_add_72be8_10 (And.intro rfl (And.intro rfl (by decide)))
theorem oJx4a65c_add_72be8_11 : OKI 274 11 (.aload_n 2, 12, [2], 0, 0, []) := And.intro dJx4a65c_add_72be8_11 (And.intro rfl (rfl))
theorem oJx4a65c_add_72be8_12 : OKI 274 12 (.iload_n 3, 13, [3], 0, 0, []) := And.intro dJx4a65c_add_72be8_12 (And.intro rfl (rfl))
theorem oJx4a65c_add_72be8_13 : OKI 274 13 (.aload_n 1, 14, [1], 0, 0, []) := And.intro dJx4a65c_add_72be8_13 (And.intro rfl (rfl))
theorem oJx4a65c_add_72be8_14 : OKI 274 14 (.aastore, 15, [], 0, 0, []) := And.intro dJx4a65c_add_72be8_14 rfl
theorem oJx4a65c_add_72be8_15 : OKI 274 15 (.aload_n 0, 16, [0], 0, 0, []) := And.intro dJx4a65c_add_72be8_15 (And.intro rfl (rfl))
theorem oJx4a65c_add_72be8_16 : OKI 274 16 (.iload_n 3, 17, [3], 0, 0, []) := And.intro dJx4a65c_add_72be8_16 (And.intro rfl (rfl))
theorem oJx4a65c_add_72be8_17 : OKI 274 17 (.iconst 1, 18, [], 1, 0, []) := And.intro dJx4a65c_add_72be8_17 (And.intro rfl (by decide +kernel))
theorem oJx4a65c_add_72be8_18 : OKI 274 18 (.iadd, 19, [], 0, 0, []) := And.intro dJx4a65c_add_72be8_18 rfl
theorem oJx4a65c_add_72be8_19 : OKI 274 19 (.putfield 48, 22, [0, 2, 0], 0, 0, []) := And.intro dJx4a65c_add_72be8_19 (And.intro rfl (⟨(RJx4a65c, TJx4a65c, 3), "java/util/ArrayList", rfl, by decide, tm_1 _ (List.mem_of_getElem? (i := 49) rfl) rfl, Or.inl rfl, Or.inl rfl, rfl⟩))
theorem oJx4a65c_add_72be8_22 : OKI 274 22 (.return_, 23, [], 0, 0, []) := And.intro dJx4a65c_add_72be8_22 rfl
def pfJx4a65c_add_72be8 (pc : Nat) : Option XE := (bif Nat.blt pc 12 then (bif Nat.blt pc 6 then (bif Nat.blt pc 2 then (bif Nat.blt pc 1 then (bif Nat.beq pc 0 then some (.iload_n 3, 1, [3], 0, 0, []) else none) else (bif Nat.beq pc 1 then some (.aload_n 2, 2, [2], 0, 0, []) else none)) else (bif Nat.blt pc 3 then (bif Nat.beq pc 2 then some (.arraylength, 3, [], 0, 0, []) else none) else (bif Nat.beq pc 3 then some (.if_icmp .ne 8, 6, [11], 0, 0, []) else none))) else (bif Nat.blt pc 10 then (bif Nat.blt pc 7 then (bif Nat.beq pc 6 then some (.aload_n 0, 7, [0], 0, 0, []) else none) else (bif Nat.beq pc 7 then some (.invokevirtual 129, 10, [270, 1, 1, 1, 200, 3], 0, 0, []) else none)) else (bif Nat.blt pc 11 then (bif Nat.beq pc 10 then some (.astore_n 2, 11, [2], 0, 0, []) else none) else (bif Nat.beq pc 11 then some (.aload_n 2, 12, [2], 0, 0, []) else none)))) else (bif Nat.blt pc 16 then (bif Nat.blt pc 14 then (bif Nat.blt pc 13 then (bif Nat.beq pc 12 then some (.iload_n 3, 13, [3], 0, 0, []) else none) else (bif Nat.beq pc 13 then some (.aload_n 1, 14, [1], 0, 0, []) else none)) else (bif Nat.blt pc 15 then (bif Nat.beq pc 14 then some (.aastore, 15, [], 0, 0, []) else none) else (bif Nat.beq pc 15 then some (.aload_n 0, 16, [0], 0, 0, []) else none))) else (bif Nat.blt pc 18 then (bif Nat.blt pc 17 then (bif Nat.beq pc 16 then some (.iload_n 3, 17, [3], 0, 0, []) else none) else (bif Nat.beq pc 17 then some (.iconst 1, 18, [], 1, 0, []) else none)) else (bif Nat.blt pc 19 then (bif Nat.beq pc 18 then some (.iadd, 19, [], 0, 0, []) else none) else (bif Nat.blt pc 22 then (bif Nat.beq pc 19 then some (.putfield 48, 22, [0, 2, 0], 0, 0, []) else none) else (bif Nat.beq pc 22 then some (.return_, 23, [], 0, 0, []) else none))))))
theorem okJx4a65c_add_72be8 : ∀ pc Y, pfJx4a65c_add_72be8 pc = some Y → OKI m_Jx4a65c_add_72be8 pc Y := fun pc Y => ((bt_node (bt_node (bt_node (bt_node (bt_leaf (P := OKI m_Jx4a65c_add_72be8) oJx4a65c_add_72be8_0) (bt_leaf (P := OKI m_Jx4a65c_add_72be8) oJx4a65c_add_72be8_1)) (bt_node (bt_leaf (P := OKI m_Jx4a65c_add_72be8) oJx4a65c_add_72be8_2) (bt_leaf (P := OKI m_Jx4a65c_add_72be8) oJx4a65c_add_72be8_3))) (bt_node (bt_node (bt_leaf (P := OKI m_Jx4a65c_add_72be8) oJx4a65c_add_72be8_6) (bt_leaf (P := OKI m_Jx4a65c_add_72be8) oJx4a65c_add_72be8_7)) (bt_node (bt_leaf (P := OKI m_Jx4a65c_add_72be8) oJx4a65c_add_72be8_10) (bt_leaf (P := OKI m_Jx4a65c_add_72be8) oJx4a65c_add_72be8_11)))) (bt_node (bt_node (bt_node (bt_leaf (P := OKI m_Jx4a65c_add_72be8) oJx4a65c_add_72be8_12) (bt_leaf (P := OKI m_Jx4a65c_add_72be8) oJx4a65c_add_72be8_13)) (bt_node (bt_leaf (P := OKI m_Jx4a65c_add_72be8) oJx4a65c_add_72be8_14) (bt_leaf (P := OKI m_Jx4a65c_add_72be8) oJx4a65c_add_72be8_15))) (bt_node (bt_node (bt_leaf (P := OKI m_Jx4a65c_add_72be8) oJx4a65c_add_72be8_16) (bt_leaf (P := OKI m_Jx4a65c_add_72be8) oJx4a65c_add_72be8_17)) (bt_node (bt_leaf (P := OKI m_Jx4a65c_add_72be8) oJx4a65c_add_72be8_18) (bt_node (bt_leaf (P := OKI m_Jx4a65c_add_72be8) oJx4a65c_add_72be8_19) (bt_leaf (P := OKI m_Jx4a65c_add_72be8) oJx4a65c_add_72be8_22)))))) : pfJx4a65c_add_72be8 pc = some Y → OKI m_Jx4a65c_add_72be8 pc Y)
def stpJx4a65c_add_72be8 (pc : Nat) : Option (List Bool) := (bif Nat.beq pc 11 then some [true, true, true, true] else none)
def bJx4a65c_add_72be8_0 (d rc rs : Nat) (t : Nat) (a1 : Option XO) (a2 : Option XO) (a3 : Int32) (σ : XH) (Q : XV → XH → Prop) : Prop :=
  (arf a2 fun o1 => (bif alOk o1 then ((a3 = (Int32.ofNat (hn σ o1.1 o1.2)) → ((1 ≤ d ∧ 1 ≤ rc ∧ 200 ≤ rs ∧ Ec (d - 1) 1 200 m_Jx4a65c_grow_d5877 [vR (some (0, t))] σ (kR fun x3 h2 => Ex d (rc - 1) (rs - 200) m_Jx4a65c_add_72be8 11 [vR (some (0, t)), vR a1, vR x3, vI a3] [] h2 Q)))) ∧ (¬ a3 = (Int32.ofNat (hn σ o1.1 o1.2)) → Ex d rc rs m_Jx4a65c_add_72be8 11 [vR (some (0, t)), vR a1, vR a2, vI a3] [] σ Q)) else (bif Nat.beq o1.1 510 && Nat.beq o1.2 0 then (hn σ 510 0 = 0 ∧ ((a3 = (Int32.ofNat (hn σ 510 0)) → ((1 ≤ d ∧ 1 ≤ rc ∧ 200 ≤ rs ∧ Ec (d - 1) 1 200 m_Jx4a65c_grow_d5877 [vR (some (0, t))] σ (kR fun x5 h4 => Ex d (rc - 1) (rs - 200) m_Jx4a65c_add_72be8 11 [vR (some (0, t)), vR a1, vR x5, vI a3] [] h4 Q)))) ∧ (¬ a3 = (Int32.ofNat (hn σ 510 0)) → Ex d rc rs m_Jx4a65c_add_72be8 11 [vR (some (0, t)), vR a1, vR a2, vI a3] [] σ Q))) else False)))
theorem sJx4a65c_add_72be8_0 {d rc rs : Nat} {t : Nat} {a1 : Option XO} {a2 : Option XO} {a3 : Int32} {σ : XH} {Q : XV → XH → Prop} (h : bJx4a65c_add_72be8_0 d rc rs t a1 a2 a3 σ Q) : Ex d rc rs m_Jx4a65c_add_72be8 0 [vR (some (0, t)), vR a1, vR a2, vI a3] [] σ Q :=
  xtree_sound (stop := stpJx4a65c_add_72be8) okJx4a65c_add_72be8 9 _ _ _ _ _ _ h
def bJx4a65c_add_72be8_11 (d rc rs : Nat) (t : Nat) (l1 : Option XO) (l2 : Option XO) (l3 : Int32) (σ : XH) (Q : XV → XH → Prop) : Prop :=
  (arf l2 fun o1 => (arf l1 fun o2 => (bif Nat.blt o2.1 13 && ((Nat.ble 410 o1.1 && Nat.blt o1.1 500) || (Nat.ble 400 o1.1 && (Nat.blt o1.1 410 && Nat.beq o2.1 10))) then (vp_in l3 (hn σ o1.1 o1.2) ∧ (∀ h3, h3 = wR σ o1.1 o1.2 l3.toNatClampNeg (some o2) → ((∀ h4, h4 = wI h3 0 t 2 (l3 + 1) → Q vU h4)))) else False)))
theorem sJx4a65c_add_72be8_11 {d rc rs : Nat} {t : Nat} {l1 : Option XO} {l2 : Option XO} {l3 : Int32} {σ : XH} {Q : XV → XH → Prop} (h : bJx4a65c_add_72be8_11 d rc rs t l1 l2 l3 σ Q) : Ex d rc rs m_Jx4a65c_add_72be8 11 [vR (some (0, t)), vR l1, vR l2, vI l3] [] σ Q :=
  xtree_sound (stop := stpJx4a65c_add_72be8) okJx4a65c_add_72be8 12 _ _ _ _ _ _ h
/-! java/util/ArrayList.add(Ljava/lang/Object;)Z -/
theorem dJx4a65c_add_9ea2d_0 : decode cJx4a65c_add_9ea2d 0 = .ok (.aload_n 0, 1) := by decide +kernel
theorem dJx4a65c_add_9ea2d_1 : decode cJx4a65c_add_9ea2d 1 = .ok (.dup, 1) := by decide +kernel
theorem dJx4a65c_add_9ea2d_2 : decode cJx4a65c_add_9ea2d 2 = .ok (.getfield 63, 3) := by decide +kernel
theorem dJx4a65c_add_9ea2d_5 : decode cJx4a65c_add_9ea2d 5 = .ok (.iconst 1, 1) := by decide +kernel
theorem dJx4a65c_add_9ea2d_6 : decode cJx4a65c_add_9ea2d 6 = .ok (.iadd, 1) := by decide +kernel
theorem dJx4a65c_add_9ea2d_7 : decode cJx4a65c_add_9ea2d 7 = .ok (.putfield 63, 3) := by decide +kernel
theorem dJx4a65c_add_9ea2d_10 : decode cJx4a65c_add_9ea2d 10 = .ok (.aload_n 0, 1) := by decide +kernel
theorem dJx4a65c_add_9ea2d_11 : decode cJx4a65c_add_9ea2d 11 = .ok (.aload_n 1, 1) := by decide +kernel
theorem dJx4a65c_add_9ea2d_12 : decode cJx4a65c_add_9ea2d 12 = .ok (.aload_n 0, 1) := by decide +kernel
theorem dJx4a65c_add_9ea2d_13 : decode cJx4a65c_add_9ea2d 13 = .ok (.getfield 9, 3) := by decide +kernel
theorem dJx4a65c_add_9ea2d_16 : decode cJx4a65c_add_9ea2d 16 = .ok (.aload_n 0, 1) := by decide +kernel
theorem dJx4a65c_add_9ea2d_17 : decode cJx4a65c_add_9ea2d 17 = .ok (.getfield 48, 3) := by decide +kernel
theorem dJx4a65c_add_9ea2d_20 : decode cJx4a65c_add_9ea2d 20 = .ok (.invokevirtual 131, 3) := by decide +kernel
theorem dJx4a65c_add_9ea2d_23 : decode cJx4a65c_add_9ea2d 23 = .ok (.iconst 1, 1) := by decide +kernel
theorem dJx4a65c_add_9ea2d_24 : decode cJx4a65c_add_9ea2d 24 = .ok (.ireturn, 1) := by decide +kernel
theorem oJx4a65c_add_9ea2d_0 : OKI 275 0 (.aload_n 0, 1, [0], 0, 0, []) := And.intro dJx4a65c_add_9ea2d_0 (And.intro rfl (rfl))
theorem oJx4a65c_add_9ea2d_1 : OKI 275 1 (.dup, 2, [], 0, 0, []) := And.intro dJx4a65c_add_9ea2d_1 rfl
theorem oJx4a65c_add_9ea2d_2 : OKI 275 2 (.getfield 63, 5, [0, 0, 0], 0, 0, []) := And.intro dJx4a65c_add_9ea2d_2 (And.intro rfl (⟨(RJx4a65c, TJx4a65c, 3), "java/util/ArrayList", rfl, by decide, tm_1 _ (List.mem_of_getElem? (i := 51) rfl) rfl, Or.inr (tm_1 _ (List.mem_of_getElem? (i := 52) rfl) rfl), Or.inr (Or.inr (And.intro rfl (Or.inl rfl)))⟩))
theorem oJx4a65c_add_9ea2d_5 : OKI 275 5 (.iconst 1, 6, [], 1, 0, []) := And.intro dJx4a65c_add_9ea2d_5 (And.intro rfl (by decide +kernel))
theorem oJx4a65c_add_9ea2d_6 : OKI 275 6 (.iadd, 7, [], 0, 0, []) := And.intro dJx4a65c_add_9ea2d_6 rfl
theorem oJx4a65c_add_9ea2d_7 : OKI 275 7 (.putfield 63, 10, [0, 0, 0], 0, 0, []) := And.intro dJx4a65c_add_9ea2d_7 (And.intro rfl (⟨(RJx4a65c, TJx4a65c, 3), "java/util/ArrayList", rfl, by decide, tm_1 _ (List.mem_of_getElem? (i := 51) rfl) rfl, Or.inr (tm_1 _ (List.mem_of_getElem? (i := 52) rfl) rfl), Or.inl rfl, rfl⟩))
theorem oJx4a65c_add_9ea2d_10 : OKI 275 10 (.aload_n 0, 11, [0], 0, 0, []) := And.intro dJx4a65c_add_9ea2d_10 (And.intro rfl (rfl))
theorem oJx4a65c_add_9ea2d_11 : OKI 275 11 (.aload_n 1, 12, [1], 0, 0, []) := And.intro dJx4a65c_add_9ea2d_11 (And.intro rfl (rfl))
theorem oJx4a65c_add_9ea2d_12 : OKI 275 12 (.aload_n 0, 13, [0], 0, 0, []) := And.intro dJx4a65c_add_9ea2d_12 (And.intro rfl (rfl))
theorem oJx4a65c_add_9ea2d_13 : OKI 275 13 (.getfield 9, 16, [0, 1, 2], 0, 0, []) := And.intro dJx4a65c_add_9ea2d_13 (And.intro rfl (⟨(RJx4a65c, TJx4a65c, 3), "java/util/ArrayList", rfl, by decide, tm_1 _ (List.mem_of_getElem? (i := 48) rfl) rfl, Or.inl rfl, Or.inr (Or.inl (And.intro rfl rfl))⟩))
theorem oJx4a65c_add_9ea2d_16 : OKI 275 16 (.aload_n 0, 17, [0], 0, 0, []) := And.intro dJx4a65c_add_9ea2d_16 (And.intro rfl (rfl))
theorem oJx4a65c_add_9ea2d_17 : OKI 275 17 (.getfield 48, 20, [0, 2, 0], 0, 0, []) := And.intro dJx4a65c_add_9ea2d_17 (And.intro rfl (⟨(RJx4a65c, TJx4a65c, 3), "java/util/ArrayList", rfl, by decide, tm_1 _ (List.mem_of_getElem? (i := 49) rfl) rfl, Or.inl rfl, Or.inr (Or.inr (And.intro rfl (Or.inl rfl)))⟩))
theorem oJx4a65c_add_9ea2d_20 : OKI 275 20 (.invokevirtual 131, 23, [274, 4, 1, 1, 200, 0], 0, 0, []) := And.intro dJx4a65c_add_9ea2d_20 (And.intro rfl (And.intro (by decide) (And.intro (by decide) (And.intro mo_Jx4a65c_add_72be8 (And.intro (tm_2 _ (List.mem_of_getElem? (i := 92) rfl) rfl) (And.intro (tm_2 _ (List.mem_of_getElem? (i := 94) rfl) rfl) (And.intro (pm_1 _ (List.mem_of_getElem? (i := 0) rfl)) (Or.inl ⟨(RJx4a65c, TJx4a65c, 3), rfl, rfl⟩))))))))
theorem oJx4a65c_add_9ea2d_23 : OKI 275 23 (.iconst 1, 24, [], 1, 0, []) := And.intro dJx4a65c_add_9ea2d_23 (And.intro rfl (by decide +kernel))
theorem oJx4a65c_add_9ea2d_24 : OKI 275 24 (.ireturn, 25, [3], 0, 0, []) := And.intro dJx4a65c_add_9ea2d_24 (Or.inr (Or.inl (And.intro rfl rfl)))
def pfJx4a65c_add_9ea2d (pc : Nat) : Option XE := (bif Nat.blt pc 11 then (bif Nat.blt pc 5 then (bif Nat.blt pc 1 then (bif Nat.beq pc 0 then some (.aload_n 0, 1, [0], 0, 0, []) else none) else (bif Nat.blt pc 2 then (bif Nat.beq pc 1 then some (.dup, 2, [], 0, 0, []) else none) else (bif Nat.beq pc 2 then some (.getfield 63, 5, [0, 0, 0], 0, 0, []) else none))) else (bif Nat.blt pc 7 then (bif Nat.blt pc 6 then (bif Nat.beq pc 5 then some (.iconst 1, 6, [], 1, 0, []) else none) else (bif Nat.beq pc 6 then some (.iadd, 7, [], 0, 0, []) else none)) else (bif Nat.blt pc 10 then (bif Nat.beq pc 7 then some (.putfield 63, 10, [0, 0, 0], 0, 0, []) else none) else (bif Nat.beq pc 10 then some (.aload_n 0, 11, [0], 0, 0, []) else none)))) else (bif Nat.blt pc 17 then (bif Nat.blt pc 13 then (bif Nat.blt pc 12 then (bif Nat.beq pc 11 then some (.aload_n 1, 12, [1], 0, 0, []) else none) else (bif Nat.beq pc 12 then some (.aload_n 0, 13, [0], 0, 0, []) else none)) else (bif Nat.blt pc 16 then (bif Nat.beq pc 13 then some (.getfield 9, 16, [0, 1, 2], 0, 0, []) else none) else (bif Nat.beq pc 16 then some (.aload_n 0, 17, [0], 0, 0, []) else none))) else (bif Nat.blt pc 23 then (bif Nat.blt pc 20 then (bif Nat.beq pc 17 then some (.getfield 48, 20, [0, 2, 0], 0, 0, []) else none) else (bif Nat.beq pc 20 then some (.invokevirtual 131, 23, [274, 4, 1, 1, 200, 0], 0, 0, []) else none)) else (bif Nat.blt pc 24 then (bif Nat.beq pc 23 then some (.iconst 1, 24, [], 1, 0, []) else none) else (bif Nat.beq pc 24 then some (.ireturn, 25, [3], 0, 0, []) else none)))))
theorem okJx4a65c_add_9ea2d : ∀ pc Y, pfJx4a65c_add_9ea2d pc = some Y → OKI m_Jx4a65c_add_9ea2d pc Y := fun pc Y => ((bt_node (bt_node (bt_node (bt_leaf (P := OKI m_Jx4a65c_add_9ea2d) oJx4a65c_add_9ea2d_0) (bt_node (bt_leaf (P := OKI m_Jx4a65c_add_9ea2d) oJx4a65c_add_9ea2d_1) (bt_leaf (P := OKI m_Jx4a65c_add_9ea2d) oJx4a65c_add_9ea2d_2))) (bt_node (bt_node (bt_leaf (P := OKI m_Jx4a65c_add_9ea2d) oJx4a65c_add_9ea2d_5) (bt_leaf (P := OKI m_Jx4a65c_add_9ea2d) oJx4a65c_add_9ea2d_6)) (bt_node (bt_leaf (P := OKI m_Jx4a65c_add_9ea2d) oJx4a65c_add_9ea2d_7) (bt_leaf (P := OKI m_Jx4a65c_add_9ea2d) oJx4a65c_add_9ea2d_10)))) (bt_node (bt_node (bt_node (bt_leaf (P := OKI m_Jx4a65c_add_9ea2d) oJx4a65c_add_9ea2d_11) (bt_leaf (P := OKI m_Jx4a65c_add_9ea2d) oJx4a65c_add_9ea2d_12)) (bt_node (bt_leaf (P := OKI m_Jx4a65c_add_9ea2d) oJx4a65c_add_9ea2d_13) (bt_leaf (P := OKI m_Jx4a65c_add_9ea2d) oJx4a65c_add_9ea2d_16))) (bt_node (bt_node (bt_leaf (P := OKI m_Jx4a65c_add_9ea2d) oJx4a65c_add_9ea2d_17) (bt_leaf (P := OKI m_Jx4a65c_add_9ea2d) oJx4a65c_add_9ea2d_20)) (bt_node (bt_leaf (P := OKI m_Jx4a65c_add_9ea2d) oJx4a65c_add_9ea2d_23) (bt_leaf (P := OKI m_Jx4a65c_add_9ea2d) oJx4a65c_add_9ea2d_24))))) : pfJx4a65c_add_9ea2d pc = some Y → OKI m_Jx4a65c_add_9ea2d pc Y)
def stpJx4a65c_add_9ea2d (_ : Nat) : Option (List Bool) := none
def bJx4a65c_add_9ea2d_0 (d rc rs : Nat) (t : Nat) (a1 : Option XO) (σ : XH) (Q : XV → XH → Prop) : Prop :=
  (((∀ h1, h1 = wI σ 0 t 0 ((hi σ 0 t 0) + 1) → ((((1 ≤ d ∧ 1 ≤ rc ∧ 200 ≤ rs ∧ Ec (d - 1) 1 200 m_Jx4a65c_add_72be8 [vR (some (0, t)), vR a1, vR (hr h1 0 t 1), vI (hi h1 0 t 2)] h1 (kU fun h2 => (((1 : Int32) = 0 ∨ (1 : Int32) = 1) ∧ Q (vI 1) h2)))))))))
theorem sJx4a65c_add_9ea2d_0 {d rc rs : Nat} {t : Nat} {a1 : Option XO} {σ : XH} {Q : XV → XH → Prop} (h : bJx4a65c_add_9ea2d_0 d rc rs t a1 σ Q) : Ex d rc rs m_Jx4a65c_add_9ea2d 0 [vR (some (0, t)), vR a1] [] σ Q :=
  xtree_sound (stop := stpJx4a65c_add_9ea2d) okJx4a65c_add_9ea2d 17 _ _ _ _ _ _ h
/-! java/util/Arrays.fill([II)V -/
theorem dJ7_fill_53178_0 : decode cJ7_fill_53178 0 = .ok (.iconst 0, 1) := by decide +kernel
theorem dJ7_fill_53178_1 : decode cJ7_fill_53178 1 = .ok (.istore_n 2, 1) := by decide +kernel
theorem dJ7_fill_53178_2 : decode cJ7_fill_53178 2 = .ok (.aload_n 0, 1) := by decide +kernel
theorem dJ7_fill_53178_3 : decode cJ7_fill_53178 3 = .ok (.arraylength, 1) := by decide +kernel
theorem dJ7_fill_53178_4 : decode cJ7_fill_53178 4 = .ok (.istore_n 3, 1) := by decide +kernel
theorem dJ7_fill_53178_5 : decode cJ7_fill_53178 5 = .ok (.iload_n 2, 1) := by decide +kernel
theorem dJ7_fill_53178_6 : decode cJ7_fill_53178 6 = .ok (.iload_n 3, 1) := by decide +kernel
theorem dJ7_fill_53178_7 : decode cJ7_fill_53178 7 = .ok (.if_icmp .ge 13, 3) := by decide +kernel
theorem dJ7_fill_53178_10 : decode cJ7_fill_53178 10 = .ok (.aload_n 0, 1) := by decide +kernel
theorem dJ7_fill_53178_11 : decode cJ7_fill_53178 11 = .ok (.iload_n 2, 1) := by decide +kernel
theorem dJ7_fill_53178_12 : decode cJ7_fill_53178 12 = .ok (.iload_n 1, 1) := by decide +kernel
theorem dJ7_fill_53178_13 : decode cJ7_fill_53178 13 = .ok (.iastore, 1) := by decide +kernel
theorem dJ7_fill_53178_14 : decode cJ7_fill_53178 14 = .ok (.iinc 2 1, 3) := by decide +kernel
theorem dJ7_fill_53178_17 : decode cJ7_fill_53178 17 = .ok (.goto (-12), 3) := by decide +kernel
theorem dJ7_fill_53178_20 : decode cJ7_fill_53178 20 = .ok (.return_, 1) := by decide +kernel
theorem oJ7_fill_53178_0 : OKI 276 0 (.iconst 0, 1, [], 0, 0, []) := And.intro dJ7_fill_53178_0 (And.intro rfl (by decide +kernel))
theorem oJ7_fill_53178_1 : OKI 276 1 (.istore_n 2, 2, [2], 0, 0, []) := And.intro dJ7_fill_53178_1 (And.intro rfl (And.intro rfl (by decide)))
theorem oJ7_fill_53178_2 : OKI 276 2 (.aload_n 0, 3, [0], 0, 0, []) := And.intro dJ7_fill_53178_2 (And.intro rfl (rfl))
theorem oJ7_fill_53178_3 : OKI 276 3 (.arraylength, 4, [], 0, 0, []) := And.intro dJ7_fill_53178_3 rfl
theorem oJ7_fill_53178_4 : OKI 276 4 (.istore_n 3, 5, [3], 0, 0, []) := And.intro dJ7_fill_53178_4 (And.intro rfl (And.intro rfl (by decide)))
theorem oJ7_fill_53178_5 : OKI 276 5 (.iload_n 2, 6, [2], 0, 0, []) := And.intro dJ7_fill_53178_5 (And.intro rfl (rfl))
theorem oJ7_fill_53178_6 : OKI 276 6 (.iload_n 3, 7, [3], 0, 0, []) := And.intro dJ7_fill_53178_6 (And.intro rfl (rfl))
theorem oJ7_fill_53178_7 : OKI 276 7 (.if_icmp .ge 13, 10, [20], 0, 0, []) := And.intro dJ7_fill_53178_7 (And.intro rfl (by decide))
theorem oJ7_fill_53178_10 : OKI 276 10 (.aload_n 0, 11, [0], 0, 0, []) := And.intro dJ7_fill_53178_10 (And.intro rfl (rfl))
theorem oJ7_fill_53178_11 : OKI 276 11 (.iload_n 2, 12, [2], 0, 0, []) := And.intro dJ7_fill_53178_11 (And.intro rfl (rfl))
theorem oJ7_fill_53178_12 : OKI 276 12 (.iload_n 1, 13, [1], 0, 0, []) := And.intro dJ7_fill_53178_12 (And.intro rfl (rfl))
theorem oJ7_fill_53178_13 : OKI 276 13 (.iastore, 14, [], 0, 0, []) := And.intro dJ7_fill_53178_13 rfl
theorem oJ7_fill_53178_14 : OKI 276 14 (.iinc 2 1, 17, [2], 1, 0, []) := And.intro dJ7_fill_53178_14 (And.intro rfl (And.intro rfl (And.intro (by decide +kernel) (by decide))))
theorem oJ7_fill_53178_17 : OKI 276 17 (.goto (-12), 20, [5], 0, 0, []) := And.intro dJ7_fill_53178_17 (And.intro rfl (by decide))
theorem oJ7_fill_53178_20 : OKI 276 20 (.return_, 21, [], 0, 0, []) := And.intro dJ7_fill_53178_20 rfl
def pfJ7_fill_53178 (pc : Nat) : Option XE := (bif Nat.blt pc 7 then (bif Nat.blt pc 3 then (bif Nat.blt pc 1 then (bif Nat.beq pc 0 then some (.iconst 0, 1, [], 0, 0, []) else none) else (bif Nat.blt pc 2 then (bif Nat.beq pc 1 then some (.istore_n 2, 2, [2], 0, 0, []) else none) else (bif Nat.beq pc 2 then some (.aload_n 0, 3, [0], 0, 0, []) else none))) else (bif Nat.blt pc 5 then (bif Nat.blt pc 4 then (bif Nat.beq pc 3 then some (.arraylength, 4, [], 0, 0, []) else none) else (bif Nat.beq pc 4 then some (.istore_n 3, 5, [3], 0, 0, []) else none)) else (bif Nat.blt pc 6 then (bif Nat.beq pc 5 then some (.iload_n 2, 6, [2], 0, 0, []) else none) else (bif Nat.beq pc 6 then some (.iload_n 3, 7, [3], 0, 0, []) else none)))) else (bif Nat.blt pc 13 then (bif Nat.blt pc 11 then (bif Nat.blt pc 10 then (bif Nat.beq pc 7 then some (.if_icmp .ge 13, 10, [20], 0, 0, []) else none) else (bif Nat.beq pc 10 then some (.aload_n 0, 11, [0], 0, 0, []) else none)) else (bif Nat.blt pc 12 then (bif Nat.beq pc 11 then some (.iload_n 2, 12, [2], 0, 0, []) else none) else (bif Nat.beq pc 12 then some (.iload_n 1, 13, [1], 0, 0, []) else none))) else (bif Nat.blt pc 17 then (bif Nat.blt pc 14 then (bif Nat.beq pc 13 then some (.iastore, 14, [], 0, 0, []) else none) else (bif Nat.beq pc 14 then some (.iinc 2 1, 17, [2], 1, 0, []) else none)) else (bif Nat.blt pc 20 then (bif Nat.beq pc 17 then some (.goto (-12), 20, [5], 0, 0, []) else none) else (bif Nat.beq pc 20 then some (.return_, 21, [], 0, 0, []) else none)))))
theorem okJ7_fill_53178 : ∀ pc Y, pfJ7_fill_53178 pc = some Y → OKI m_J7_fill_53178 pc Y := fun pc Y => ((bt_node (bt_node (bt_node (bt_leaf (P := OKI m_J7_fill_53178) oJ7_fill_53178_0) (bt_node (bt_leaf (P := OKI m_J7_fill_53178) oJ7_fill_53178_1) (bt_leaf (P := OKI m_J7_fill_53178) oJ7_fill_53178_2))) (bt_node (bt_node (bt_leaf (P := OKI m_J7_fill_53178) oJ7_fill_53178_3) (bt_leaf (P := OKI m_J7_fill_53178) oJ7_fill_53178_4)) (bt_node (bt_leaf (P := OKI m_J7_fill_53178) oJ7_fill_53178_5) (bt_leaf (P := OKI m_J7_fill_53178) oJ7_fill_53178_6)))) (bt_node (bt_node (bt_node (bt_leaf (P := OKI m_J7_fill_53178) oJ7_fill_53178_7) (bt_leaf (P := OKI m_J7_fill_53178) oJ7_fill_53178_10)) (bt_node (bt_leaf (P := OKI m_J7_fill_53178) oJ7_fill_53178_11) (bt_leaf (P := OKI m_J7_fill_53178) oJ7_fill_53178_12))) (bt_node (bt_node (bt_leaf (P := OKI m_J7_fill_53178) oJ7_fill_53178_13) (bt_leaf (P := OKI m_J7_fill_53178) oJ7_fill_53178_14)) (bt_node (bt_leaf (P := OKI m_J7_fill_53178) oJ7_fill_53178_17) (bt_leaf (P := OKI m_J7_fill_53178) oJ7_fill_53178_20))))) : pfJ7_fill_53178 pc = some Y → OKI m_J7_fill_53178 pc Y)
def stpJ7_fill_53178 (pc : Nat) : Option (List Bool) := (bif Nat.beq pc 5 then some [true, true, true, true] else none)
def bJ7_fill_53178_0 (d rc rs : Nat) (a1 : Option XO) (a2 : Int32) (σ : XH) (Q : XV → XH → Prop) : Prop :=
  (arf a1 fun o1 => (bif alOk o1 then Ex d rc rs m_J7_fill_53178 5 [vR a1, vI a2, vI 0, vI (Int32.ofNat (hn σ o1.1 o1.2))] [] σ Q else (bif Nat.beq o1.1 510 && Nat.beq o1.2 0 then (hn σ 510 0 = 0 ∧ Ex d rc rs m_J7_fill_53178 5 [vR a1, vI a2, vI 0, vI (Int32.ofNat (hn σ 510 0))] [] σ Q) else False)))
theorem sJ7_fill_53178_0 {d rc rs : Nat} {a1 : Option XO} {a2 : Int32} {σ : XH} {Q : XV → XH → Prop} (h : bJ7_fill_53178_0 d rc rs a1 a2 σ Q) : Ex d rc rs m_J7_fill_53178 0 [vR a1, vI a2, vU, vU] [] σ Q :=
  xtree_sound (stop := stpJ7_fill_53178) okJ7_fill_53178 7 _ _ _ _ _ _ h
def bJ7_fill_53178_5 (d rc rs : Nat) (l0 : Option XO) (l1 : Int32) (l2 : Int32) (l3 : Int32) (σ : XH) (Q : XV → XH → Prop) : Prop :=
  ((l2 < l3 → (arf l0 fun o1 => (bif isIo o1 && Nat.blt o1.1 500 then (vp_in l2 (hn σ o1.1 o1.2) ∧ (∀ h2, h2 = wI σ o1.1 o1.2 l2.toNatClampNeg l1 → Ex d rc rs m_J7_fill_53178 5 [vR l0, vI l1, vI (l2 + 1), vI l3] [] h2 Q)) else False))) ∧ (¬ l2 < l3 → Q vU σ))
theorem sJ7_fill_53178_5 {d rc rs : Nat} {l0 : Option XO} {l1 : Int32} {l2 : Int32} {l3 : Int32} {σ : XH} {Q : XV → XH → Prop} (h : bJ7_fill_53178_5 d rc rs l0 l1 l2 l3 σ Q) : Ex d rc rs m_J7_fill_53178 5 [vR l0, vI l1, vI l2, vI l3] [] σ Q :=
  xtree_sound (stop := stpJ7_fill_53178) okJ7_fill_53178 11 _ _ _ _ _ _ h
/-! java/util/Arrays.copyOf([Ljava/lang/Object;I)[Ljava/lang/Object; -/
theorem dJ7_copyOf_1904c_0 : decode cJ7_copyOf_1904c 0 = .ok (.aload_n 0, 1) := by decide +kernel
theorem dJ7_copyOf_1904c_1 : decode cJ7_copyOf_1904c 1 = .ok (.iload_n 1, 1) := by decide +kernel
theorem dJ7_copyOf_1904c_2 : decode cJ7_copyOf_1904c 2 = .ok (.aload_n 0, 1) := by decide +kernel
theorem dJ7_copyOf_1904c_3 : decode cJ7_copyOf_1904c 3 = .ok (.invokevirtual 86, 3) := by decide +kernel
theorem dJ7_copyOf_1904c_6 : decode cJ7_copyOf_1904c 6 = .ok (.invokestatic 300, 3) := by decide +kernel
theorem dJ7_copyOf_1904c_9 : decode cJ7_copyOf_1904c 9 = .ok (.areturn, 1) := by decide +kernel
theorem oJ7_copyOf_1904c_0 : OKI 277 0 (.aload_n 0, 1, [0], 0, 0, []) := And.intro dJ7_copyOf_1904c_0 (And.intro rfl (rfl))
theorem oJ7_copyOf_1904c_1 : OKI 277 1 (.iload_n 1, 2, [1], 0, 0, []) := And.intro dJ7_copyOf_1904c_1 (And.intro rfl (rfl))
theorem oJ7_copyOf_1904c_2 : OKI 277 2 (.aload_n 0, 3, [0], 0, 0, []) := And.intro dJ7_copyOf_1904c_2 (And.intro rfl (rfl))
theorem oJ7_copyOf_1904c_3 : OKI 277 3 (.invokevirtual 86, 6, [9001], 0, 0, []) := And.intro dJ7_copyOf_1904c_3 (And.intro rfl (And.intro rfl (tm_2 _ (List.mem_of_getElem? (i := 115) rfl) rfl)))
theorem oJ7_copyOf_1904c_6 : OKI 277 6 (.invokestatic 300, 9, [278, 3, 0, 1, 200, 3], 0, 0, []) := And.intro dJ7_copyOf_1904c_6 (And.intro rfl (And.intro rfl (And.intro mo_J7_copyOf_6403c (And.intro (Or.inl (tm_2 _ (List.mem_of_getElem? (i := 132) rfl) rfl)) (tm_2 _ (List.mem_of_getElem? (i := 133) rfl) rfl)))))
theorem oJ7_copyOf_1904c_9 : OKI 277 9 (.areturn, 10, [], 0, 0, []) := And.intro dJ7_copyOf_1904c_9 ⟨_, rfl, Or.inr ⟨_, rfl⟩⟩
def pfJ7_copyOf_1904c (pc : Nat) : Option XE := (bif Nat.blt pc 3 then (bif Nat.blt pc 1 then (bif Nat.beq pc 0 then some (.aload_n 0, 1, [0], 0, 0, []) else none) else (bif Nat.blt pc 2 then (bif Nat.beq pc 1 then some (.iload_n 1, 2, [1], 0, 0, []) else none) else (bif Nat.beq pc 2 then some (.aload_n 0, 3, [0], 0, 0, []) else none))) else (bif Nat.blt pc 6 then (bif Nat.beq pc 3 then some (.invokevirtual 86, 6, [9001], 0, 0, []) else none) else (bif Nat.blt pc 9 then (bif Nat.beq pc 6 then some (.invokestatic 300, 9, [278, 3, 0, 1, 200, 3], 0, 0, []) else none) else (bif Nat.beq pc 9 then some (.areturn, 10, [], 0, 0, []) else none))))
theorem okJ7_copyOf_1904c : ∀ pc Y, pfJ7_copyOf_1904c pc = some Y → OKI m_J7_copyOf_1904c pc Y := fun pc Y => ((bt_node (bt_node (bt_leaf (P := OKI m_J7_copyOf_1904c) oJ7_copyOf_1904c_0) (bt_node (bt_leaf (P := OKI m_J7_copyOf_1904c) oJ7_copyOf_1904c_1) (bt_leaf (P := OKI m_J7_copyOf_1904c) oJ7_copyOf_1904c_2))) (bt_node (bt_leaf (P := OKI m_J7_copyOf_1904c) oJ7_copyOf_1904c_3) (bt_node (bt_leaf (P := OKI m_J7_copyOf_1904c) oJ7_copyOf_1904c_6) (bt_leaf (P := OKI m_J7_copyOf_1904c) oJ7_copyOf_1904c_9)))) : pfJ7_copyOf_1904c pc = some Y → OKI m_J7_copyOf_1904c pc Y)
def stpJ7_copyOf_1904c (_ : Nat) : Option (List Bool) := none
def bJ7_copyOf_1904c_0 (d rc rs : Nat) (a1 : Option XO) (a2 : Int32) (σ : XH) (Q : XV → XH → Prop) : Prop :=
  (arf a1 fun o1 => (bif Nat.ble 410 o1.1 && (Nat.blt o1.1 500 && true) then (1 ≤ d ∧ (1 ≤ d ∧ 1 ≤ rc ∧ 200 ≤ rs ∧ Ec (d - 1) 1 200 m_J7_copyOf_6403c [vR a1, vI a2, vR (some (511, 0))] σ (kR fun x3 h2 => Q (vR x3) h2))) else False))
theorem sJ7_copyOf_1904c_0 {d rc rs : Nat} {a1 : Option XO} {a2 : Int32} {σ : XH} {Q : XV → XH → Prop} (h : bJ7_copyOf_1904c_0 d rc rs a1 a2 σ Q) : Ex d rc rs m_J7_copyOf_1904c 0 [vR a1, vI a2] [] σ Q :=
  xtree_sound (stop := stpJ7_copyOf_1904c) okJ7_copyOf_1904c 8 _ _ _ _ _ _ h
/-! java/util/Arrays.copyOf([Ljava/lang/Object;ILjava/lang/Class;)[Ljava/lang/Object; -/
theorem dJ7_copyOf_6403c_0 : decode cJ7_copyOf_6403c 0 = .ok (.aload_n 2, 1) := by decide +kernel
theorem dJ7_copyOf_6403c_1 : decode cJ7_copyOf_6403c 1 = .ok (.ldc 110, 2) := by decide +kernel
theorem dJ7_copyOf_6403c_3 : decode cJ7_copyOf_6403c 3 = .ok (.if_acmp .ne 10, 3) := by decide +kernel
theorem dJ7_copyOf_6403c_6 : decode cJ7_copyOf_6403c 6 = .ok (.iload_n 1, 1) := by decide +kernel
theorem dJ7_copyOf_6403c_7 : decode cJ7_copyOf_6403c 7 = .ok (.anewarray 2, 3) := by decide +kernel
theorem dJ7_copyOf_6403c_10 : decode cJ7_copyOf_6403c 10 = .ok (.goto 14, 3) := by decide +kernel
theorem dJ7_copyOf_6403c_13 : decode cJ7_copyOf_6403c 13 = .ok (.aload_n 2, 1) := by decide +kernel
theorem dJ7_copyOf_6403c_24 : decode cJ7_copyOf_6403c 24 = .ok (.astore_n 3, 1) := by decide +kernel
theorem dJ7_copyOf_6403c_25 : decode cJ7_copyOf_6403c 25 = .ok (.aload_n 0, 1) := by decide +kernel
theorem dJ7_copyOf_6403c_26 : decode cJ7_copyOf_6403c 26 = .ok (.iconst 0, 1) := by decide +kernel
theorem dJ7_copyOf_6403c_27 : decode cJ7_copyOf_6403c 27 = .ok (.aload_n 3, 1) := by decide +kernel
theorem dJ7_copyOf_6403c_28 : decode cJ7_copyOf_6403c 28 = .ok (.iconst 0, 1) := by decide +kernel
theorem dJ7_copyOf_6403c_29 : decode cJ7_copyOf_6403c 29 = .ok (.aload_n 0, 1) := by decide +kernel
theorem dJ7_copyOf_6403c_30 : decode cJ7_copyOf_6403c 30 = .ok (.arraylength, 1) := by decide +kernel
theorem dJ7_copyOf_6403c_31 : decode cJ7_copyOf_6403c 31 = .ok (.iload_n 1, 1) := by decide +kernel
theorem dJ7_copyOf_6403c_32 : decode cJ7_copyOf_6403c 32 = .ok (.invokestatic 304, 3) := by decide +kernel
theorem dJ7_copyOf_6403c_35 : decode cJ7_copyOf_6403c 35 = .ok (.invokestatic 150, 3) := by decide +kernel
theorem dJ7_copyOf_6403c_38 : decode cJ7_copyOf_6403c 38 = .ok (.aload_n 3, 1) := by decide +kernel
theorem dJ7_copyOf_6403c_39 : decode cJ7_copyOf_6403c 39 = .ok (.areturn, 1) := by decide +kernel
theorem oJ7_copyOf_6403c_0 : OKI 278 0 (.aload_n 2, 1, [2], 0, 0, []) := And.intro dJ7_copyOf_6403c_0 (And.intro rfl (rfl))
theorem oJ7_copyOf_6403c_1 : OKI 278 1 (.ldc 110, 3, [1], 0, 0, []) := And.intro dJ7_copyOf_6403c_1 (And.intro rfl (tm_2 _ (List.mem_of_getElem? (i := 135) rfl) rfl))
theorem oJ7_copyOf_6403c_3 : OKI 278 3 (.if_acmp .ne 10, 6, [13], 0, 0, []) := And.intro dJ7_copyOf_6403c_3 (And.intro rfl (by decide))
theorem oJ7_copyOf_6403c_6 : OKI 278 6 (.iload_n 1, 7, [1], 0, 0, []) := And.intro dJ7_copyOf_6403c_6 (And.intro rfl (rfl))
theorem oJ7_copyOf_6403c_7 : OKI 278 7 (.anewarray 2, 10, [411], 0, 0, []) := And.intro dJ7_copyOf_6403c_7 (And.intro rfl (And.intro (And.intro (by decide) (by decide)) ⟨"java/lang/Object", rfl, tm_2 _ (List.mem_of_getElem? (i := 137) rfl) rfl, nm_A _ (List.mem_of_getElem? (i := 5) rfl)⟩))
theorem oJ7_copyOf_6403c_10 : OKI 278 10 (.goto 14, 13, [24], 0, 0, []) := And.intro dJ7_copyOf_6403c_10 (And.intro rfl (by decide))
theorem oJ7_copyOf_6403c_13 : OKI 278 13 (.aload_n 2, 14, [2], 0, 0, []) := And.intro dJ7_copyOf_6403c_13 (And.intro rfl (rfl))
theorem oJ7_copyOf_6403c_24 : OKI 278 24 (.astore_n 3, 25, [3], 0, 0, []) := And.intro dJ7_copyOf_6403c_24 (And.intro rfl (And.intro rfl (by decide)))
theorem oJ7_copyOf_6403c_25 : OKI 278 25 (.aload_n 0, 26, [0], 0, 0, []) := And.intro dJ7_copyOf_6403c_25 (And.intro rfl (rfl))
theorem oJ7_copyOf_6403c_26 : OKI 278 26 (.iconst 0, 27, [], 0, 0, []) := And.intro dJ7_copyOf_6403c_26 (And.intro rfl (by decide +kernel))
theorem oJ7_copyOf_6403c_27 : OKI 278 27 (.aload_n 3, 28, [3], 0, 0, []) := And.intro dJ7_copyOf_6403c_27 (And.intro rfl (rfl))
theorem oJ7_copyOf_6403c_28 : OKI 278 28 (.iconst 0, 29, [], 0, 0, []) := And.intro dJ7_copyOf_6403c_28 (And.intro rfl (by decide +kernel))
theorem oJ7_copyOf_6403c_29 : OKI 278 29 (.aload_n 0, 30, [0], 0, 0, []) := And.intro dJ7_copyOf_6403c_29 (And.intro rfl (rfl))
theorem oJ7_copyOf_6403c_30 : OKI 278 30 (.arraylength, 31, [], 0, 0, []) := And.intro dJ7_copyOf_6403c_30 rfl
theorem oJ7_copyOf_6403c_31 : OKI 278 31 (.iload_n 1, 32, [1], 0, 0, []) := And.intro dJ7_copyOf_6403c_31 (And.intro rfl (rfl))
theorem oJ7_copyOf_6403c_32 : OKI 278 32 (.invokestatic 304, 35, [254, 2, 0, 0, 0, 1], 0, 0, []) := And.intro dJ7_copyOf_6403c_32 (And.intro rfl (And.intro rfl (And.intro mo_J9_min_7cf53 (And.intro (Or.inl (tm_2 _ (List.mem_of_getElem? (i := 138) rfl) rfl)) (tm_2 _ (List.mem_of_getElem? (i := 139) rfl) rfl)))))
theorem oJ7_copyOf_6403c_35 : OKI 278 35 (.invokestatic 150, 38, [9003], 0, 0, []) := And.intro dJ7_copyOf_6403c_35 (And.intro rfl (And.intro (Or.inr rfl) (tm_2 _ (List.mem_of_getElem? (i := 141) rfl) rfl)))
theorem oJ7_copyOf_6403c_38 : OKI 278 38 (.aload_n 3, 39, [3], 0, 0, []) := And.intro dJ7_copyOf_6403c_38 (And.intro rfl (rfl))
theorem oJ7_copyOf_6403c_39 : OKI 278 39 (.areturn, 40, [], 0, 0, []) := And.intro dJ7_copyOf_6403c_39 ⟨_, rfl, Or.inr ⟨_, rfl⟩⟩
def pfJ7_copyOf_6403c (pc : Nat) : Option XE := (bif Nat.blt pc 26 then (bif Nat.blt pc 7 then (bif Nat.blt pc 3 then (bif Nat.blt pc 1 then (bif Nat.beq pc 0 then some (.aload_n 2, 1, [2], 0, 0, []) else none) else (bif Nat.beq pc 1 then some (.ldc 110, 3, [1], 0, 0, []) else none)) else (bif Nat.blt pc 6 then (bif Nat.beq pc 3 then some (.if_acmp .ne 10, 6, [13], 0, 0, []) else none) else (bif Nat.beq pc 6 then some (.iload_n 1, 7, [1], 0, 0, []) else none))) else (bif Nat.blt pc 13 then (bif Nat.blt pc 10 then (bif Nat.beq pc 7 then some (.anewarray 2, 10, [411], 0, 0, []) else none) else (bif Nat.beq pc 10 then some (.goto 14, 13, [24], 0, 0, []) else none)) else (bif Nat.blt pc 24 then (bif Nat.beq pc 13 then some (.aload_n 2, 14, [2], 0, 0, []) else none) else (bif Nat.blt pc 25 then (bif Nat.beq pc 24 then some (.astore_n 3, 25, [3], 0, 0, []) else none) else (bif Nat.beq pc 25 then some (.aload_n 0, 26, [0], 0, 0, []) else none))))) else (bif Nat.blt pc 31 then (bif Nat.blt pc 28 then (bif Nat.blt pc 27 then (bif Nat.beq pc 26 then some (.iconst 0, 27, [], 0, 0, []) else none) else (bif Nat.beq pc 27 then some (.aload_n 3, 28, [3], 0, 0, []) else none)) else (bif Nat.blt pc 29 then (bif Nat.beq pc 28 then some (.iconst 0, 29, [], 0, 0, []) else none) else (bif Nat.blt pc 30 then (bif Nat.beq pc 29 then some (.aload_n 0, 30, [0], 0, 0, []) else none) else (bif Nat.beq pc 30 then some (.arraylength, 31, [], 0, 0, []) else none)))) else (bif Nat.blt pc 35 then (bif Nat.blt pc 32 then (bif Nat.beq pc 31 then some (.iload_n 1, 32, [1], 0, 0, []) else none) else (bif Nat.beq pc 32 then some (.invokestatic 304, 35, [254, 2, 0, 0, 0, 1], 0, 0, []) else none)) else (bif Nat.blt pc 38 then (bif Nat.beq pc 35 then some (.invokestatic 150, 38, [9003], 0, 0, []) else none) else (bif Nat.blt pc 39 then (bif Nat.beq pc 38 then some (.aload_n 3, 39, [3], 0, 0, []) else none) else (bif Nat.beq pc 39 then some (.areturn, 40, [], 0, 0, []) else none))))))
theorem okJ7_copyOf_6403c : ∀ pc Y, pfJ7_copyOf_6403c pc = some Y → OKI m_J7_copyOf_6403c pc Y := fun pc Y => ((bt_node (bt_node (bt_node (bt_node (bt_leaf (P := OKI m_J7_copyOf_6403c) oJ7_copyOf_6403c_0) (bt_leaf (P := OKI m_J7_copyOf_6403c) oJ7_copyOf_6403c_1)) (bt_node (bt_leaf (P := OKI m_J7_copyOf_6403c) oJ7_copyOf_6403c_3) (bt_leaf (P := OKI m_J7_copyOf_6403c) oJ7_copyOf_6403c_6))) (bt_node (bt_node (bt_leaf (P := OKI m_J7_copyOf_6403c) oJ7_copyOf_6403c_7) (bt_leaf (P := OKI m_J7_copyOf_6403c) oJ7_copyOf_6403c_10)) (bt_node (bt_leaf (P := OKI m_J7_copyOf_6403c) oJ7_copyOf_6403c_13) (bt_node (bt_leaf (P := OKI m_J7_copyOf_6403c) oJ7_copyOf_6403c_24) (bt_leaf (P := OKI m_J7_copyOf_6403c) oJ7_copyOf_6403c_25))))) (bt_node (bt_node (bt_node (bt_leaf (P := OKI m_J7_copyOf_6403c) oJ7_copyOf_6403c_26) (bt_leaf (P := OKI m_J7_copyOf_6403c) oJ7_copyOf_6403c_27)) (bt_node (bt_leaf (P := OKI m_J7_copyOf_6403c) oJ7_copyOf_6403c_28) (bt_node (bt_leaf (P := OKI m_J7_copyOf_6403c) oJ7_copyOf_6403c_29) (bt_leaf (P := OKI m_J7_copyOf_6403c) oJ7_copyOf_6403c_30)))) (bt_node (bt_node (bt_leaf (P := OKI m_J7_copyOf_6403c) oJ7_copyOf_6403c_31) (bt_leaf (P := OKI m_J7_copyOf_6403c) oJ7_copyOf_6403c_32)) (bt_node (bt_leaf (P := OKI m_J7_copyOf_6403c) oJ7_copyOf_6403c_35) (bt_node (bt_leaf (P := OKI m_J7_copyOf_6403c) oJ7_copyOf_6403c_38) (bt_leaf (P := OKI m_J7_copyOf_6403c) oJ7_copyOf_6403c_39)))))) : pfJ7_copyOf_6403c pc = some Y → OKI m_J7_copyOf_6403c pc Y)
def stpJ7_copyOf_6403c (_ : Nat) : Option (List Bool) := none
def bJ7_copyOf_6403c_0 (d rc rs : Nat) (a1 : Option XO) (a2 : Int32) (a3 : Option XO) (σ : XH) (Q : XV → XH → Prop) : Prop :=
  (acmpOk a3 (some (511, 0)) ∧ (((a3 : Option XO) = some (511, 0) → (¬ a2 < 0 ∧ a2.toNatClampNeg ≤ 100000 ∧ 1 ≤ rc ∧ a2.toNatClampNeg ≤ rs ∧ (∀ h1, h1 = nwA σ 411 a2.toNatClampNeg → (arf a1 fun o2 => (bif alOk o2 then (1 ≤ d ∧ Ec (d - 1) 0 0 m_J9_min_7cf53 [vI (Int32.ofNat (hn h1 o2.1 o2.2)), vI a2] h1 (kI fun x4 h3 => (arf a1 fun o5 => ((1 ≤ d ∧ ¬ (0 : Int32) < 0 ∧ ¬ (0 : Int32) < 0 ∧ ¬ x4 < 0 ∧ (0 : Int32).toNatClampNeg + x4.toNatClampNeg ≤ hn h3 o5.1 o5.2 ∧ (0 : Int32).toNatClampNeg + x4.toNatClampNeg ≤ hn h3 411 (hc σ 411) ∧ (∀ i, i < x4.toNatClampNeg → ∀ z, hr h3 o5.1 o5.2 ((0 : Int32).toNatClampNeg + i) = some z → z.1 < 13) ∧ (bif Nat.ble 410 o5.1 && (Nat.blt o5.1 500 && (Nat.ble 410 411 && (Nat.blt 411 500 && true))) then (∀ h6, h6 = cpR h3 o5 (0 : Int32).toNatClampNeg (411, hc σ 411) (0 : Int32).toNatClampNeg x4.toNatClampNeg → Q (vR (some (411, hc σ 411))) h6) else False)))))) else (bif Nat.beq o2.1 510 && Nat.beq o2.2 0 then (hn h1 510 0 = 0 ∧ (1 ≤ d ∧ Ec (d - 1) 0 0 m_J9_min_7cf53 [vI (Int32.ofNat (hn h1 510 0)), vI a2] h1 (kI fun x8 h7 => (arf a1 fun o9 => ((1 ≤ d ∧ ¬ (0 : Int32) < 0 ∧ ¬ (0 : Int32) < 0 ∧ ¬ x8 < 0 ∧ (0 : Int32).toNatClampNeg + x8.toNatClampNeg ≤ hn h7 o9.1 o9.2 ∧ (0 : Int32).toNatClampNeg + x8.toNatClampNeg ≤ hn h7 411 (hc σ 411) ∧ (∀ i, i < x8.toNatClampNeg → ∀ z, hr h7 o9.1 o9.2 ((0 : Int32).toNatClampNeg + i) = some z → z.1 < 13) ∧ (bif Nat.ble 410 o9.1 && (Nat.blt o9.1 500 && (Nat.ble 410 411 && (Nat.blt 411 500 && true))) then (∀ h10, h10 = cpR h7 o9 (0 : Int32).toNatClampNeg (411, hc σ 411) (0 : Int32).toNatClampNeg x8.toNatClampNeg → Q (vR (some (411, hc σ 411))) h10) else False))))))) else False)))))) ∧ (¬ (a3 : Option XO) = some (511, 0) → False)))
theorem sJ7_copyOf_6403c_0 {d rc rs : Nat} {a1 : Option XO} {a2 : Int32} {a3 : Option XO} {σ : XH} {Q : XV → XH → Prop} (h : bJ7_copyOf_6403c_0 d rc rs a1 a2 a3 σ Q) : Ex d rc rs m_J7_copyOf_6403c 0 [vR a1, vI a2, vR a3, vU] [] σ Q :=
  xtree_sound (stop := stpJ7_copyOf_6403c) okJ7_copyOf_6403c 20 _ _ _ _ _ _ h
/-! java/util/Objects.checkIndex(II)I -/
theorem dJ15_checkIndex_7cf53_0 : decode cJ15_checkIndex_7cf53 0 = .ok (.iload_n 0, 1) := by decide +kernel
theorem dJ15_checkIndex_7cf53_1 : decode cJ15_checkIndex_7cf53 1 = .ok (.iload_n 1, 1) := by decide +kernel
theorem dJ15_checkIndex_7cf53_2 : decode cJ15_checkIndex_7cf53 2 = .ok (.aconst_null, 1) := by decide +kernel
theorem dJ15_checkIndex_7cf53_3 : decode cJ15_checkIndex_7cf53 3 = .ok (.invokestatic 105, 3) := by decide +kernel
theorem dJ15_checkIndex_7cf53_6 : decode cJ15_checkIndex_7cf53 6 = .ok (.ireturn, 1) := by decide +kernel
theorem oJ15_checkIndex_7cf53_0 : OKI 279 0 (.iload_n 0, 1, [0], 0, 0, []) := And.intro dJ15_checkIndex_7cf53_0 (And.intro rfl (rfl))
theorem oJ15_checkIndex_7cf53_1 : OKI 279 1 (.iload_n 1, 2, [1], 0, 0, []) := And.intro dJ15_checkIndex_7cf53_1 (And.intro rfl (rfl))
theorem oJ15_checkIndex_7cf53_2 : OKI 279 2 (.aconst_null, 3, [], 0, 0, []) := And.intro dJ15_checkIndex_7cf53_2 rfl
theorem oJ15_checkIndex_7cf53_3 : OKI 279 3 (.invokestatic 105, 6, [282, 3, 0, 0, 0, 1], 0, 0, []) := And.intro dJ15_checkIndex_7cf53_3 (And.intro rfl (And.intro rfl (And.intro mo_J3_checkIndex_8e157 (And.intro (Or.inl (tm_2 _ (List.mem_of_getElem? (i := 161) rfl) rfl)) (tm_2 _ (List.mem_of_getElem? (i := 162) rfl) rfl)))))
theorem oJ15_checkIndex_7cf53_6 : OKI 279 6 (.ireturn, 7, [0], 0, 0, []) := And.intro dJ15_checkIndex_7cf53_6 (Or.inl (And.intro rfl rfl))
def pfJ15_checkIndex_7cf53 (pc : Nat) : Option XE := (bif Nat.blt pc 2 then (bif Nat.blt pc 1 then (bif Nat.beq pc 0 then some (.iload_n 0, 1, [0], 0, 0, []) else none) else (bif Nat.beq pc 1 then some (.iload_n 1, 2, [1], 0, 0, []) else none)) else (bif Nat.blt pc 3 then (bif Nat.beq pc 2 then some (.aconst_null, 3, [], 0, 0, []) else none) else (bif Nat.blt pc 6 then (bif Nat.beq pc 3 then some (.invokestatic 105, 6, [282, 3, 0, 0, 0, 1], 0, 0, []) else none) else (bif Nat.beq pc 6 then some (.ireturn, 7, [0], 0, 0, []) else none))))
theorem okJ15_checkIndex_7cf53 : ∀ pc Y, pfJ15_checkIndex_7cf53 pc = some Y → OKI m_J15_checkIndex_7cf53 pc Y := fun pc Y => ((bt_node (bt_node (bt_leaf (P := OKI m_J15_checkIndex_7cf53) oJ15_checkIndex_7cf53_0) (bt_leaf (P := OKI m_J15_checkIndex_7cf53) oJ15_checkIndex_7cf53_1)) (bt_node (bt_leaf (P := OKI m_J15_checkIndex_7cf53) oJ15_checkIndex_7cf53_2) (bt_node (bt_leaf (P := OKI m_J15_checkIndex_7cf53) oJ15_checkIndex_7cf53_3) (bt_leaf (P := OKI m_J15_checkIndex_7cf53) oJ15_checkIndex_7cf53_6)))) : pfJ15_checkIndex_7cf53 pc = some Y → OKI m_J15_checkIndex_7cf53 pc Y)
def stpJ15_checkIndex_7cf53 (_ : Nat) : Option (List Bool) := none
def bJ15_checkIndex_7cf53_0 (d rc rs : Nat) (a1 : Int32) (a2 : Int32) (σ : XH) (Q : XV → XH → Prop) : Prop :=
  (1 ≤ d ∧ Ec (d - 1) 0 0 m_J3_checkIndex_8e157 [vI a1, vI a2, vR none] σ (kI fun x2 h1 => Q (vI x2) h1))
theorem sJ15_checkIndex_7cf53_0 {d rc rs : Nat} {a1 : Int32} {a2 : Int32} {σ : XH} {Q : XV → XH → Prop} (h : bJ15_checkIndex_7cf53_0 d rc rs a1 a2 σ Q) : Ex d rc rs m_J15_checkIndex_7cf53 0 [vI a1, vI a2] [] σ Q :=
  xtree_sound (stop := stpJ15_checkIndex_7cf53) okJ15_checkIndex_7cf53 7 _ _ _ _ _ _ h
/-! jdk/internal/util/ArraysSupport.newLength(III)I -/
theorem dJ8_newLength_cabcc_0 : decode cJ8_newLength_cabcc 0 = .ok (.iload_n 0, 1) := by decide +kernel
theorem dJ8_newLength_cabcc_1 : decode cJ8_newLength_cabcc 1 = .ok (.iload_n 1, 1) := by decide +kernel
theorem dJ8_newLength_cabcc_2 : decode cJ8_newLength_cabcc 2 = .ok (.iload_n 2, 1) := by decide +kernel
theorem dJ8_newLength_cabcc_3 : decode cJ8_newLength_cabcc 3 = .ok (.invokestatic 194, 3) := by decide +kernel
theorem dJ8_newLength_cabcc_6 : decode cJ8_newLength_cabcc 6 = .ok (.iadd, 1) := by decide +kernel
theorem dJ8_newLength_cabcc_7 : decode cJ8_newLength_cabcc 7 = .ok (.istore_n 3, 1) := by decide +kernel
theorem dJ8_newLength_cabcc_8 : decode cJ8_newLength_cabcc 8 = .ok (.iconst 0, 1) := by decide +kernel
theorem dJ8_newLength_cabcc_9 : decode cJ8_newLength_cabcc 9 = .ok (.iload_n 3, 1) := by decide +kernel
theorem dJ8_newLength_cabcc_10 : decode cJ8_newLength_cabcc 10 = .ok (.if_icmp .ge 11, 3) := by decide +kernel
theorem dJ8_newLength_cabcc_13 : decode cJ8_newLength_cabcc 13 = .ok (.iload_n 3, 1) := by decide +kernel
theorem dJ8_newLength_cabcc_14 : decode cJ8_newLength_cabcc 14 = .ok (.ldc 200, 2) := by decide +kernel
theorem dJ8_newLength_cabcc_16 : decode cJ8_newLength_cabcc 16 = .ok (.if_icmp .gt 5, 3) := by decide +kernel
theorem dJ8_newLength_cabcc_19 : decode cJ8_newLength_cabcc 19 = .ok (.iload_n 3, 1) := by decide +kernel
theorem dJ8_newLength_cabcc_20 : decode cJ8_newLength_cabcc 20 = .ok (.ireturn, 1) := by decide +kernel
theorem dJ8_newLength_cabcc_21 : decode cJ8_newLength_cabcc 21 = .ok (.iload_n 0, 1) := by decide +kernel
theorem dJ8_newLength_cabcc_22 : decode cJ8_newLength_cabcc 22 = .ok (.iload_n 1, 1) := by decide +kernel
theorem dJ8_newLength_cabcc_23 : decode cJ8_newLength_cabcc 23 = .ok (.invokestatic 201, 3) := by decide +kernel
theorem dJ8_newLength_cabcc_26 : decode cJ8_newLength_cabcc 26 = .ok (.ireturn, 1) := by decide +kernel
theorem oJ8_newLength_cabcc_0 : OKI 280 0 (.iload_n 0, 1, [0], 0, 0, []) := And.intro dJ8_newLength_cabcc_0 (And.intro rfl (rfl))
theorem oJ8_newLength_cabcc_1 : OKI 280 1 (.iload_n 1, 2, [1], 0, 0, []) := And.intro dJ8_newLength_cabcc_1 (And.intro rfl (rfl))
theorem oJ8_newLength_cabcc_2 : OKI 280 2 (.iload_n 2, 3, [2], 0, 0, []) := And.intro dJ8_newLength_cabcc_2 (And.intro rfl (rfl))
theorem oJ8_newLength_cabcc_3 : OKI 280 3 (.invokestatic 194, 6, [252, 2, 0, 0, 0, 1], 0, 0, []) := And.intro dJ8_newLength_cabcc_3 (And.intro rfl (And.intro rfl (And.intro mo_J9_max_7cf53 (And.intro (Or.inl (tm_2 _ (List.mem_of_getElem? (i := 107) rfl) rfl)) (tm_1 _ (List.mem_of_getElem? (i := 89) rfl) rfl)))))
theorem oJ8_newLength_cabcc_6 : OKI 280 6 (.iadd, 7, [], 0, 0, []) := And.intro dJ8_newLength_cabcc_6 rfl
theorem oJ8_newLength_cabcc_7 : OKI 280 7 (.istore_n 3, 8, [3], 0, 0, []) := And.intro dJ8_newLength_cabcc_7 (And.intro rfl (And.intro rfl (by decide)))
theorem oJ8_newLength_cabcc_8 : OKI 280 8 (.iconst 0, 9, [], 0, 0, []) := And.intro dJ8_newLength_cabcc_8 (And.intro rfl (by decide +kernel))
theorem oJ8_newLength_cabcc_9 : OKI 280 9 (.iload_n 3, 10, [3], 0, 0, []) := And.intro dJ8_newLength_cabcc_9 (And.intro rfl (rfl))
theorem oJ8_newLength_cabcc_10 : OKI 280 10 (.if_icmp .ge 11, 13, [21], 0, 0, []) := And.intro dJ8_newLength_cabcc_10 (And.intro rfl (by decide))
theorem oJ8_newLength_cabcc_13 : OKI 280 13 (.iload_n 3, 14, [3], 0, 0, []) := And.intro dJ8_newLength_cabcc_13 (And.intro rfl (rfl))
theorem oJ8_newLength_cabcc_14 : OKI 280 14 (.ldc 200, 16, [], 2147483639, 0, []) := And.intro dJ8_newLength_cabcc_14 (And.intro rfl (tm_2 _ (List.mem_of_getElem? (i := 108) rfl) rfl))
theorem oJ8_newLength_cabcc_16 : OKI 280 16 (.if_icmp .gt 5, 19, [21], 0, 0, []) := And.intro dJ8_newLength_cabcc_16 (And.intro rfl (by decide))
theorem oJ8_newLength_cabcc_19 : OKI 280 19 (.iload_n 3, 20, [3], 0, 0, []) := And.intro dJ8_newLength_cabcc_19 (And.intro rfl (rfl))
theorem oJ8_newLength_cabcc_20 : OKI 280 20 (.ireturn, 21, [0], 0, 0, []) := And.intro dJ8_newLength_cabcc_20 (Or.inl (And.intro rfl rfl))
theorem oJ8_newLength_cabcc_21 : OKI 280 21 (.iload_n 0, 22, [0], 0, 0, []) := And.intro dJ8_newLength_cabcc_21 (And.intro rfl (rfl))
theorem oJ8_newLength_cabcc_22 : OKI 280 22 (.iload_n 1, 23, [1], 0, 0, []) := And.intro dJ8_newLength_cabcc_22 (And.intro rfl (rfl))
theorem oJ8_newLength_cabcc_23 : OKI 280 23 (.invokestatic 201, 26, [281, 2, 0, 0, 0, 1], 0, 0, []) := And.intro dJ8_newLength_cabcc_23 (And.intro rfl (And.intro rfl (And.intro mo_J8_hugeLength_7cf53 (And.intro (Or.inl (tm_2 _ (List.mem_of_getElem? (i := 109) rfl) rfl)) (tm_2 _ (List.mem_of_getElem? (i := 110) rfl) rfl)))))
theorem oJ8_newLength_cabcc_26 : OKI 280 26 (.ireturn, 27, [0], 0, 0, []) := And.intro dJ8_newLength_cabcc_26 (Or.inl (And.intro rfl rfl))
def pfJ8_newLength_cabcc (pc : Nat) : Option XE := (bif Nat.blt pc 13 then (bif Nat.blt pc 6 then (bif Nat.blt pc 2 then (bif Nat.blt pc 1 then (bif Nat.beq pc 0 then some (.iload_n 0, 1, [0], 0, 0, []) else none) else (bif Nat.beq pc 1 then some (.iload_n 1, 2, [1], 0, 0, []) else none)) else (bif Nat.blt pc 3 then (bif Nat.beq pc 2 then some (.iload_n 2, 3, [2], 0, 0, []) else none) else (bif Nat.beq pc 3 then some (.invokestatic 194, 6, [252, 2, 0, 0, 0, 1], 0, 0, []) else none))) else (bif Nat.blt pc 8 then (bif Nat.blt pc 7 then (bif Nat.beq pc 6 then some (.iadd, 7, [], 0, 0, []) else none) else (bif Nat.beq pc 7 then some (.istore_n 3, 8, [3], 0, 0, []) else none)) else (bif Nat.blt pc 9 then (bif Nat.beq pc 8 then some (.iconst 0, 9, [], 0, 0, []) else none) else (bif Nat.blt pc 10 then (bif Nat.beq pc 9 then some (.iload_n 3, 10, [3], 0, 0, []) else none) else (bif Nat.beq pc 10 then some (.if_icmp .ge 11, 13, [21], 0, 0, []) else none))))) else (bif Nat.blt pc 20 then (bif Nat.blt pc 16 then (bif Nat.blt pc 14 then (bif Nat.beq pc 13 then some (.iload_n 3, 14, [3], 0, 0, []) else none) else (bif Nat.beq pc 14 then some (.ldc 200, 16, [], 2147483639, 0, []) else none)) else (bif Nat.blt pc 19 then (bif Nat.beq pc 16 then some (.if_icmp .gt 5, 19, [21], 0, 0, []) else none) else (bif Nat.beq pc 19 then some (.iload_n 3, 20, [3], 0, 0, []) else none))) else (bif Nat.blt pc 22 then (bif Nat.blt pc 21 then (bif Nat.beq pc 20 then some (.ireturn, 21, [0], 0, 0, []) else none) else (bif Nat.beq pc 21 then some (.iload_n 0, 22, [0], 0, 0, []) else none)) else (bif Nat.blt pc 23 then (bif Nat.beq pc 22 then some (.iload_n 1, 23, [1], 0, 0, []) else none) else (bif Nat.blt pc 26 then (bif Nat.beq pc 23 then some (.invokestatic 201, 26, [281, 2, 0, 0, 0, 1], 0, 0, []) else none) else (bif Nat.beq pc 26 then some (.ireturn, 27, [0], 0, 0, []) else none))))))
theorem okJ8_newLength_cabcc : ∀ pc Y, pfJ8_newLength_cabcc pc = some Y → OKI m_J8_newLength_cabcc pc Y := fun pc Y => ((bt_node (bt_node (bt_node (bt_node (bt_leaf (P := OKI m_J8_newLength_cabcc) oJ8_newLength_cabcc_0) (bt_leaf (P := OKI m_J8_newLength_cabcc) oJ8_newLength_cabcc_1)) (bt_node (bt_leaf (P := OKI m_J8_newLength_cabcc) oJ8_newLength_cabcc_2) (bt_leaf (P := OKI m_J8_newLength_cabcc) oJ8_newLength_cabcc_3))) (bt_node (bt_node (bt_leaf (P := OKI m_J8_newLength_cabcc) oJ8_newLength_cabcc_6) (bt_leaf (P := OKI m_J8_newLength_cabcc) oJ8_newLength_cabcc_7)) (bt_node (bt_leaf (P := OKI m_J8_newLength_cabcc) oJ8_newLength_cabcc_8) (bt_node (bt_leaf (P := OKI m_J8_newLength_cabcc) oJ8_newLength_cabcc_9) (bt_leaf (P := OKI m_J8_newLength_cabcc) oJ8_newLength_cabcc_10))))) (bt_node (bt_node (bt_node (bt_leaf (P := OKI m_J8_newLength_cabcc) oJ8_newLength_cabcc_13) (bt_leaf (P := OKI m_J8_newLength_cabcc) oJ8_newLength_cabcc_14)) (bt_node (bt_leaf (P := OKI m_J8_newLength_cabcc) oJ8_newLength_cabcc_16) (bt_leaf (P := OKI m_J8_newLength_cabcc) oJ8_newLength_cabcc_19))) (bt_node (bt_node (bt_leaf (P := OKI m_J8_newLength_cabcc) oJ8_newLength_cabcc_20) (bt_leaf (P := OKI m_J8_newLength_cabcc) oJ8_newLength_cabcc_21)) (bt_node (bt_leaf (P := OKI m_J8_newLength_cabcc) oJ8_newLength_cabcc_22) (bt_node (bt_leaf (P := OKI m_J8_newLength_cabcc) oJ8_newLength_cabcc_23) (bt_leaf (P := OKI m_J8_newLength_cabcc) oJ8_newLength_cabcc_26)))))) : pfJ8_newLength_cabcc pc = some Y → OKI m_J8_newLength_cabcc pc Y)
def stpJ8_newLength_cabcc (pc : Nat) : Option (List Bool) := (bif Nat.beq pc 21 then some [true, true, false, false] else none)
def bJ8_newLength_cabcc_0 (d rc rs : Nat) (a1 : Int32) (a2 : Int32) (a3 : Int32) (σ : XH) (Q : XV → XH → Prop) : Prop :=
  (1 ≤ d ∧ Ec (d - 1) 0 0 m_J9_max_7cf53 [vI a2, vI a3] σ (kI fun x2 h1 => ((0 < (a1 + x2) → ((2147483639 < (a1 + x2) → Ex d rc rs m_J8_newLength_cabcc 21 [vI a1, vI a2, vU, vU] [] h1 Q) ∧ (¬ 2147483639 < (a1 + x2) → Q (vI (a1 + x2)) h1))) ∧ (¬ 0 < (a1 + x2) → Ex d rc rs m_J8_newLength_cabcc 21 [vI a1, vI a2, vU, vU] [] h1 Q))))
theorem sJ8_newLength_cabcc_0 {d rc rs : Nat} {a1 : Int32} {a2 : Int32} {a3 : Int32} {σ : XH} {Q : XV → XH → Prop} (h : bJ8_newLength_cabcc_0 d rc rs a1 a2 a3 σ Q) : Ex d rc rs m_J8_newLength_cabcc 0 [vI a1, vI a2, vI a3, vU] [] σ Q :=
  xtree_sound (stop := stpJ8_newLength_cabcc) okJ8_newLength_cabcc 16 _ _ _ _ _ _ h
def bJ8_newLength_cabcc_21 (d rc rs : Nat) (l0 : Int32) (l1 : Int32) (σ : XH) (Q : XV → XH → Prop) : Prop :=
  (1 ≤ d ∧ Ec (d - 1) 0 0 m_J8_hugeLength_7cf53 [vI l0, vI l1] σ (kI fun x2 h1 => Q (vI x2) h1))
theorem sJ8_newLength_cabcc_21 {d rc rs : Nat} {l0 : Int32} {l1 : Int32} {σ : XH} {Q : XV → XH → Prop} (h : bJ8_newLength_cabcc_21 d rc rs l0 l1 σ Q) : Ex d rc rs m_J8_newLength_cabcc 21 [vI l0, vI l1, vU, vU] [] σ Q :=
  xtree_sound (stop := stpJ8_newLength_cabcc) okJ8_newLength_cabcc 6 _ _ _ _ _ _ h
/-! jdk/internal/util/ArraysSupport.hugeLength(II)I -/
theorem dJ8_hugeLength_7cf53_0 : decode cJ8_hugeLength_7cf53 0 = .ok (.iload_n 0, 1) := by decide +kernel
theorem dJ8_hugeLength_7cf53_1 : decode cJ8_hugeLength_7cf53 1 = .ok (.iload_n 1, 1) := by decide +kernel
theorem dJ8_hugeLength_7cf53_2 : decode cJ8_hugeLength_7cf53 2 = .ok (.iadd, 1) := by decide +kernel
theorem dJ8_hugeLength_7cf53_3 : decode cJ8_hugeLength_7cf53 3 = .ok (.istore_n 2, 1) := by decide +kernel
theorem dJ8_hugeLength_7cf53_4 : decode cJ8_hugeLength_7cf53 4 = .ok (.iload_n 2, 1) := by decide +kernel
theorem dJ8_hugeLength_7cf53_5 : decode cJ8_hugeLength_7cf53 5 = .ok (.ifCond .ge 44, 3) := by decide +kernel
theorem dJ8_hugeLength_7cf53_49 : decode cJ8_hugeLength_7cf53 49 = .ok (.iload_n 2, 1) := by decide +kernel
theorem dJ8_hugeLength_7cf53_50 : decode cJ8_hugeLength_7cf53 50 = .ok (.ldc 200, 2) := by decide +kernel
theorem dJ8_hugeLength_7cf53_52 : decode cJ8_hugeLength_7cf53 52 = .ok (.if_icmp .gt 6, 3) := by decide +kernel
theorem dJ8_hugeLength_7cf53_55 : decode cJ8_hugeLength_7cf53 55 = .ok (.ldc 200, 2) := by decide +kernel
theorem dJ8_hugeLength_7cf53_57 : decode cJ8_hugeLength_7cf53 57 = .ok (.ireturn, 1) := by decide +kernel
theorem dJ8_hugeLength_7cf53_58 : decode cJ8_hugeLength_7cf53 58 = .ok (.iload_n 2, 1) := by decide +kernel
theorem dJ8_hugeLength_7cf53_59 : decode cJ8_hugeLength_7cf53 59 = .ok (.ireturn, 1) := by decide +kernel
theorem oJ8_hugeLength_7cf53_0 : OKI 281 0 (.iload_n 0, 1, [0], 0, 0, []) := And.intro dJ8_hugeLength_7cf53_0 (And.intro rfl (rfl))
theorem oJ8_hugeLength_7cf53_1 : OKI 281 1 (.iload_n 1, 2, [1], 0, 0, []) := And.intro dJ8_hugeLength_7cf53_1 (And.intro rfl (rfl))
theorem oJ8_hugeLength_7cf53_2 : OKI 281 2 (.iadd, 3, [], 0, 0, []) := And.intro dJ8_hugeLength_7cf53_2 rfl
theorem oJ8_hugeLength_7cf53_3 : OKI 281 3 (.istore_n 2, 4, [2], 0, 0, []) := And.intro dJ8_hugeLength_7cf53_3 (And.intro rfl (And.intro rfl (by decide)))
theorem oJ8_hugeLength_7cf53_4 : OKI 281 4 (.iload_n 2, 5, [2], 0, 0, []) := And.intro dJ8_hugeLength_7cf53_4 (And.intro rfl (rfl))
theorem oJ8_hugeLength_7cf53_5 : OKI 281 5 (.ifCond .ge 44, 8, [49], 0, 0, []) := And.intro dJ8_hugeLength_7cf53_5 (And.intro rfl (by decide))
theorem oJ8_hugeLength_7cf53_49 : OKI 281 49 (.iload_n 2, 50, [2], 0, 0, []) := And.intro dJ8_hugeLength_7cf53_49 (And.intro rfl (rfl))
theorem oJ8_hugeLength_7cf53_50 : OKI 281 50 (.ldc 200, 52, [], 2147483639, 0, []) := And.intro dJ8_hugeLength_7cf53_50 (And.intro rfl (tm_2 _ (List.mem_of_getElem? (i := 108) rfl) rfl))
theorem oJ8_hugeLength_7cf53_52 : OKI 281 52 (.if_icmp .gt 6, 55, [58], 0, 0, []) := And.intro dJ8_hugeLength_7cf53_52 (And.intro rfl (by decide))
theorem oJ8_hugeLength_7cf53_55 : OKI 281 55 (.ldc 200, 57, [], 2147483639, 0, []) := And.intro dJ8_hugeLength_7cf53_55 (And.intro rfl (tm_2 _ (List.mem_of_getElem? (i := 108) rfl) rfl))
theorem oJ8_hugeLength_7cf53_57 : OKI 281 57 (.ireturn, 58, [0], 0, 0, []) := And.intro dJ8_hugeLength_7cf53_57 (Or.inl (And.intro rfl rfl))
theorem oJ8_hugeLength_7cf53_58 : OKI 281 58 (.iload_n 2, 59, [2], 0, 0, []) := And.intro dJ8_hugeLength_7cf53_58 (And.intro rfl (rfl))
theorem oJ8_hugeLength_7cf53_59 : OKI 281 59 (.ireturn, 60, [0], 0, 0, []) := And.intro dJ8_hugeLength_7cf53_59 (Or.inl (And.intro rfl rfl))
def pfJ8_hugeLength_7cf53 (pc : Nat) : Option XE := (bif Nat.blt pc 49 then (bif Nat.blt pc 3 then (bif Nat.blt pc 1 then (bif Nat.beq pc 0 then some (.iload_n 0, 1, [0], 0, 0, []) else none) else (bif Nat.blt pc 2 then (bif Nat.beq pc 1 then some (.iload_n 1, 2, [1], 0, 0, []) else none) else (bif Nat.beq pc 2 then some (.iadd, 3, [], 0, 0, []) else none))) else (bif Nat.blt pc 4 then (bif Nat.beq pc 3 then some (.istore_n 2, 4, [2], 0, 0, []) else none) else (bif Nat.blt pc 5 then (bif Nat.beq pc 4 then some (.iload_n 2, 5, [2], 0, 0, []) else none) else (bif Nat.beq pc 5 then some (.ifCond .ge 44, 8, [49], 0, 0, []) else none)))) else (bif Nat.blt pc 55 then (bif Nat.blt pc 50 then (bif Nat.beq pc 49 then some (.iload_n 2, 50, [2], 0, 0, []) else none) else (bif Nat.blt pc 52 then (bif Nat.beq pc 50 then some (.ldc 200, 52, [], 2147483639, 0, []) else none) else (bif Nat.beq pc 52 then some (.if_icmp .gt 6, 55, [58], 0, 0, []) else none))) else (bif Nat.blt pc 58 then (bif Nat.blt pc 57 then (bif Nat.beq pc 55 then some (.ldc 200, 57, [], 2147483639, 0, []) else none) else (bif Nat.beq pc 57 then some (.ireturn, 58, [0], 0, 0, []) else none)) else (bif Nat.blt pc 59 then (bif Nat.beq pc 58 then some (.iload_n 2, 59, [2], 0, 0, []) else none) else (bif Nat.beq pc 59 then some (.ireturn, 60, [0], 0, 0, []) else none)))))
theorem okJ8_hugeLength_7cf53 : ∀ pc Y, pfJ8_hugeLength_7cf53 pc = some Y → OKI m_J8_hugeLength_7cf53 pc Y := fun pc Y => ((bt_node (bt_node (bt_node (bt_leaf (P := OKI m_J8_hugeLength_7cf53) oJ8_hugeLength_7cf53_0) (bt_node (bt_leaf (P := OKI m_J8_hugeLength_7cf53) oJ8_hugeLength_7cf53_1) (bt_leaf (P := OKI m_J8_hugeLength_7cf53) oJ8_hugeLength_7cf53_2))) (bt_node (bt_leaf (P := OKI m_J8_hugeLength_7cf53) oJ8_hugeLength_7cf53_3) (bt_node (bt_leaf (P := OKI m_J8_hugeLength_7cf53) oJ8_hugeLength_7cf53_4) (bt_leaf (P := OKI m_J8_hugeLength_7cf53) oJ8_hugeLength_7cf53_5)))) (bt_node (bt_node (bt_leaf (P := OKI m_J8_hugeLength_7cf53) oJ8_hugeLength_7cf53_49) (bt_node (bt_leaf (P := OKI m_J8_hugeLength_7cf53) oJ8_hugeLength_7cf53_50) (bt_leaf (P := OKI m_J8_hugeLength_7cf53) oJ8_hugeLength_7cf53_52))) (bt_node (bt_node (bt_leaf (P := OKI m_J8_hugeLength_7cf53) oJ8_hugeLength_7cf53_55) (bt_leaf (P := OKI m_J8_hugeLength_7cf53) oJ8_hugeLength_7cf53_57)) (bt_node (bt_leaf (P := OKI m_J8_hugeLength_7cf53) oJ8_hugeLength_7cf53_58) (bt_leaf (P := OKI m_J8_hugeLength_7cf53) oJ8_hugeLength_7cf53_59))))) : pfJ8_hugeLength_7cf53 pc = some Y → OKI m_J8_hugeLength_7cf53 pc Y)
def stpJ8_hugeLength_7cf53 (_ : Nat) : Option (List Bool) := none
def bJ8_hugeLength_7cf53_0 (d rc rs : Nat) (a1 : Int32) (a2 : Int32) (σ : XH) (Q : XV → XH → Prop) : Prop :=
  (((a1 + a2) < 0 → False) ∧ (¬ (a1 + a2) < 0 → ((2147483639 < (a1 + a2) → Q (vI (a1 + a2)) σ) ∧ (¬ 2147483639 < (a1 + a2) → Q (vI 2147483639) σ))))
theorem sJ8_hugeLength_7cf53_0 {d rc rs : Nat} {a1 : Int32} {a2 : Int32} {σ : XH} {Q : XV → XH → Prop} (h : bJ8_hugeLength_7cf53_0 d rc rs a1 a2 σ Q) : Ex d rc rs m_J8_hugeLength_7cf53 0 [vI a1, vI a2, vU] [] σ Q :=
  xtree_sound (stop := stpJ8_hugeLength_7cf53) okJ8_hugeLength_7cf53 13 _ _ _ _ _ _ h
/-! jdk/internal/util/Preconditions.checkIndex(IILjava/util/function/BiFunction;)I -/
theorem dJ3_checkIndex_8e157_0 : decode cJ3_checkIndex_8e157 0 = .ok (.iload_n 0, 1) := by decide +kernel
theorem dJ3_checkIndex_8e157_1 : decode cJ3_checkIndex_8e157 1 = .ok (.ifCond .lt 8, 3) := by decide +kernel
theorem dJ3_checkIndex_8e157_4 : decode cJ3_checkIndex_8e157 4 = .ok (.iload_n 0, 1) := by decide +kernel
theorem dJ3_checkIndex_8e157_5 : decode cJ3_checkIndex_8e157 5 = .ok (.iload_n 1, 1) := by decide +kernel
theorem dJ3_checkIndex_8e157_6 : decode cJ3_checkIndex_8e157 6 = .ok (.if_icmp .lt 10, 3) := by decide +kernel
theorem dJ3_checkIndex_8e157_9 : decode cJ3_checkIndex_8e157 9 = .ok (.aload_n 2, 1) := by decide +kernel
theorem dJ3_checkIndex_8e157_10 : decode cJ3_checkIndex_8e157 10 = .ok (.iload_n 0, 1) := by decide +kernel
theorem dJ3_checkIndex_8e157_11 : decode cJ3_checkIndex_8e157 11 = .ok (.iload_n 1, 1) := by decide +kernel
theorem dJ3_checkIndex_8e157_16 : decode cJ3_checkIndex_8e157 16 = .ok (.iload_n 0, 1) := by decide +kernel
theorem dJ3_checkIndex_8e157_17 : decode cJ3_checkIndex_8e157 17 = .ok (.ireturn, 1) := by decide +kernel
theorem oJ3_checkIndex_8e157_0 : OKI 282 0 (.iload_n 0, 1, [0], 0, 0, []) := And.intro dJ3_checkIndex_8e157_0 (And.intro rfl (rfl))
theorem oJ3_checkIndex_8e157_1 : OKI 282 1 (.ifCond .lt 8, 4, [9], 0, 0, []) := And.intro dJ3_checkIndex_8e157_1 (And.intro rfl (by decide))
theorem oJ3_checkIndex_8e157_4 : OKI 282 4 (.iload_n 0, 5, [0], 0, 0, []) := And.intro dJ3_checkIndex_8e157_4 (And.intro rfl (rfl))
theorem oJ3_checkIndex_8e157_5 : OKI 282 5 (.iload_n 1, 6, [1], 0, 0, []) := And.intro dJ3_checkIndex_8e157_5 (And.intro rfl (rfl))
theorem oJ3_checkIndex_8e157_6 : OKI 282 6 (.if_icmp .lt 10, 9, [16], 0, 0, []) := And.intro dJ3_checkIndex_8e157_6 (And.intro rfl (by decide))
theorem oJ3_checkIndex_8e157_9 : OKI 282 9 (.aload_n 2, 10, [2], 0, 0, []) := And.intro dJ3_checkIndex_8e157_9 (And.intro rfl (rfl))
theorem oJ3_checkIndex_8e157_10 : OKI 282 10 (.iload_n 0, 11, [0], 0, 0, []) := And.intro dJ3_checkIndex_8e157_10 (And.intro rfl (rfl))
theorem oJ3_checkIndex_8e157_11 : OKI 282 11 (.iload_n 1, 12, [1], 0, 0, []) := And.intro dJ3_checkIndex_8e157_11 (And.intro rfl (rfl))
theorem oJ3_checkIndex_8e157_16 : OKI 282 16 (.iload_n 0, 17, [0], 0, 0, []) := And.intro dJ3_checkIndex_8e157_16 (And.intro rfl (rfl))
theorem oJ3_checkIndex_8e157_17 : OKI 282 17 (.ireturn, 18, [0], 0, 0, []) := And.intro dJ3_checkIndex_8e157_17 (Or.inl (And.intro rfl rfl))
def pfJ3_checkIndex_8e157 (pc : Nat) : Option XE := (bif Nat.blt pc 9 then (bif Nat.blt pc 4 then (bif Nat.blt pc 1 then (bif Nat.beq pc 0 then some (.iload_n 0, 1, [0], 0, 0, []) else none) else (bif Nat.beq pc 1 then some (.ifCond .lt 8, 4, [9], 0, 0, []) else none)) else (bif Nat.blt pc 5 then (bif Nat.beq pc 4 then some (.iload_n 0, 5, [0], 0, 0, []) else none) else (bif Nat.blt pc 6 then (bif Nat.beq pc 5 then some (.iload_n 1, 6, [1], 0, 0, []) else none) else (bif Nat.beq pc 6 then some (.if_icmp .lt 10, 9, [16], 0, 0, []) else none)))) else (bif Nat.blt pc 11 then (bif Nat.blt pc 10 then (bif Nat.beq pc 9 then some (.aload_n 2, 10, [2], 0, 0, []) else none) else (bif Nat.beq pc 10 then some (.iload_n 0, 11, [0], 0, 0, []) else none)) else (bif Nat.blt pc 16 then (bif Nat.beq pc 11 then some (.iload_n 1, 12, [1], 0, 0, []) else none) else (bif Nat.blt pc 17 then (bif Nat.beq pc 16 then some (.iload_n 0, 17, [0], 0, 0, []) else none) else (bif Nat.beq pc 17 then some (.ireturn, 18, [0], 0, 0, []) else none)))))
theorem okJ3_checkIndex_8e157 : ∀ pc Y, pfJ3_checkIndex_8e157 pc = some Y → OKI m_J3_checkIndex_8e157 pc Y := fun pc Y => ((bt_node (bt_node (bt_node (bt_leaf (P := OKI m_J3_checkIndex_8e157) oJ3_checkIndex_8e157_0) (bt_leaf (P := OKI m_J3_checkIndex_8e157) oJ3_checkIndex_8e157_1)) (bt_node (bt_leaf (P := OKI m_J3_checkIndex_8e157) oJ3_checkIndex_8e157_4) (bt_node (bt_leaf (P := OKI m_J3_checkIndex_8e157) oJ3_checkIndex_8e157_5) (bt_leaf (P := OKI m_J3_checkIndex_8e157) oJ3_checkIndex_8e157_6)))) (bt_node (bt_node (bt_leaf (P := OKI m_J3_checkIndex_8e157) oJ3_checkIndex_8e157_9) (bt_leaf (P := OKI m_J3_checkIndex_8e157) oJ3_checkIndex_8e157_10)) (bt_node (bt_leaf (P := OKI m_J3_checkIndex_8e157) oJ3_checkIndex_8e157_11) (bt_node (bt_leaf (P := OKI m_J3_checkIndex_8e157) oJ3_checkIndex_8e157_16) (bt_leaf (P := OKI m_J3_checkIndex_8e157) oJ3_checkIndex_8e157_17))))) : pfJ3_checkIndex_8e157 pc = some Y → OKI m_J3_checkIndex_8e157 pc Y)
def stpJ3_checkIndex_8e157 (pc : Nat) : Option (List Bool) := (bif Nat.beq pc 9 then some [true, true, true] else none)
def bJ3_checkIndex_8e157_0 (d rc rs : Nat) (a1 : Int32) (a2 : Int32) (a3 : Option XO) (σ : XH) (Q : XV → XH → Prop) : Prop :=
  ((a1 < 0 → Ex d rc rs m_J3_checkIndex_8e157 9 [vI a1, vI a2, vR a3] [] σ Q) ∧ (¬ a1 < 0 → ((a1 < a2 → Q (vI a1) σ) ∧ (¬ a1 < a2 → Ex d rc rs m_J3_checkIndex_8e157 9 [vI a1, vI a2, vR a3] [] σ Q))))
theorem sJ3_checkIndex_8e157_0 {d rc rs : Nat} {a1 : Int32} {a2 : Int32} {a3 : Option XO} {σ : XH} {Q : XV → XH → Prop} (h : bJ3_checkIndex_8e157_0 d rc rs a1 a2 a3 σ Q) : Ex d rc rs m_J3_checkIndex_8e157 0 [vI a1, vI a2, vR a3] [] σ Q :=
  xtree_sound (stop := stpJ3_checkIndex_8e157) okJ3_checkIndex_8e157 9 _ _ _ _ _ _ h
def bJ3_checkIndex_8e157_9 (d rc rs : Nat) (l0 : Int32) (l1 : Int32) (l2 : Option XO) (σ : XH) (Q : XV → XH → Prop) : Prop :=
  False
theorem sJ3_checkIndex_8e157_9 {d rc rs : Nat} {l0 : Int32} {l1 : Int32} {l2 : Option XO} {σ : XH} {Q : XV → XH → Prop} (h : bJ3_checkIndex_8e157_9 d rc rs l0 l1 l2 σ Q) : Ex d rc rs m_J3_checkIndex_8e157 9 [vI l0, vI l1, vR l2] [] σ Q :=
  xtree_sound (stop := stpJ3_checkIndex_8e157) okJ3_checkIndex_8e157 6 _ _ _ _ _ _ h
