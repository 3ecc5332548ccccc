/-! ===== blocks: 27.bmod ===== -/
/-! SpotTimersModel.costOf(I)I -/
theorem dX11_costOf_0 : decode cX11_costOf 0 = .ok (.iconst 0, 1) := by decide +kernel
theorem dX11_costOf_1 : decode cX11_costOf 1 = .ok (.istore_n 2, 1) := by decide +kernel
theorem dX11_costOf_2 : decode cX11_costOf 2 = .ok (.iconst 0, 1) := by decide +kernel
theorem dX11_costOf_3 : decode cX11_costOf 3 = .ok (.istore_n 3, 1) := by decide +kernel
theorem dX11_costOf_4 : decode cX11_costOf 4 = .ok (.iload_n 3, 1) := by decide +kernel
theorem dX11_costOf_5 : decode cX11_costOf 5 = .ok (.aload_n 0, 1) := by decide +kernel
theorem dX11_costOf_6 : decode cX11_costOf 6 = .ok (.getfield 191, 3) := by decide +kernel
theorem dX11_costOf_9 : decode cX11_costOf 9 = .ok (.if_icmp .ge 31, 3) := by decide +kernel
theorem dX11_costOf_12 : decode cX11_costOf 12 = .ok (.iload_n 2, 1) := by decide +kernel
theorem dX11_costOf_13 : decode cX11_costOf 13 = .ok (.iload_n 1, 1) := by decide +kernel
theorem dX11_costOf_14 : decode cX11_costOf 14 = .ok (.iload_n 3, 1) := by decide +kernel
theorem dX11_costOf_15 : decode cX11_costOf 15 = .ok (.ishr, 1) := by decide +kernel
theorem dX11_costOf_16 : decode cX11_costOf 16 = .ok (.iconst 1, 1) := by decide +kernel
theorem dX11_costOf_17 : decode cX11_costOf 17 = .ok (.iand, 1) := by decide +kernel
theorem dX11_costOf_18 : decode cX11_costOf 18 = .ok (.iconst 1, 1) := by decide +kernel
theorem dX11_costOf_19 : decode cX11_costOf 19 = .ok (.if_icmp .ne 12, 3) := by decide +kernel
theorem dX11_costOf_22 : decode cX11_costOf 22 = .ok (.aload_n 0, 1) := by decide +kernel
theorem dX11_costOf_23 : decode cX11_costOf 23 = .ok (.getfield 200, 3) := by decide +kernel
theorem dX11_costOf_26 : decode cX11_costOf 26 = .ok (.iload_n 3, 1) := by decide +kernel
theorem dX11_costOf_27 : decode cX11_costOf 27 = .ok (.iaload, 1) := by decide +kernel
theorem dX11_costOf_28 : decode cX11_costOf 28 = .ok (.goto 4, 3) := by decide +kernel
theorem dX11_costOf_31 : decode cX11_costOf 31 = .ok (.iconst 0, 1) := by decide +kernel
theorem dX11_costOf_32 : decode cX11_costOf 32 = .ok (.iadd, 1) := by decide +kernel
theorem dX11_costOf_33 : decode cX11_costOf 33 = .ok (.istore_n 2, 1) := by decide +kernel
theorem dX11_costOf_34 : decode cX11_costOf 34 = .ok (.iinc 3 1, 3) := by decide +kernel
theorem dX11_costOf_37 : decode cX11_costOf 37 = .ok (.goto (-33), 3) := by decide +kernel
theorem dX11_costOf_40 : decode cX11_costOf 40 = .ok (.iload_n 2, 1) := by decide +kernel
theorem dX11_costOf_41 : decode cX11_costOf 41 = .ok (.ireturn, 1) := by decide +kernel
theorem oX11_costOf_0 : OKI 221 0 (.iconst 0, 1, [], 0, 0, []) := And.intro dX11_costOf_0 (And.intro rfl (by decide +kernel))
theorem oX11_costOf_1 : OKI 221 1 (.istore_n 2, 2, [2], 0, 0, []) := And.intro dX11_costOf_1 (And.intro rfl (And.intro rfl (by decide)))
theorem oX11_costOf_2 : OKI 221 2 (.iconst 0, 3, [], 0, 0, []) := And.intro dX11_costOf_2 (And.intro rfl (by decide +kernel))
theorem oX11_costOf_3 : OKI 221 3 (.istore_n 3, 4, [3], 0, 0, []) := And.intro dX11_costOf_3 (And.intro rfl (And.intro rfl (by decide)))
theorem oX11_costOf_4 : OKI 221 4 (.iload_n 3, 5, [3], 0, 0, []) := And.intro dX11_costOf_4 (And.intro rfl (rfl))
theorem oX11_costOf_5 : OKI 221 5 (.aload_n 0, 6, [0], 0, 0, []) := And.intro dX11_costOf_5 (And.intro rfl (rfl))
theorem oX11_costOf_6 : OKI 221 6 (.getfield 191, 9, [12, 59, 0], 0, 0, []) := And.intro dX11_costOf_6 (And.intro rfl (⟨(RX11, TX11, 69), "SpotTimersModel", rfl, by decide, tm_6 _ (List.mem_of_getElem? (i := 25) rfl) rfl, Or.inl rfl, Or.inr (Or.inr (And.intro rfl (Or.inl rfl)))⟩))
theorem oX11_costOf_9 : OKI 221 9 (.if_icmp .ge 31, 12, [40], 0, 0, []) := And.intro dX11_costOf_9 (And.intro rfl (by decide))
theorem oX11_costOf_12 : OKI 221 12 (.iload_n 2, 13, [2], 0, 0, []) := And.intro dX11_costOf_12 (And.intro rfl (rfl))
theorem oX11_costOf_13 : OKI 221 13 (.iload_n 1, 14, [1], 0, 0, []) := And.intro dX11_costOf_13 (And.intro rfl (rfl))
theorem oX11_costOf_14 : OKI 221 14 (.iload_n 3, 15, [3], 0, 0, []) := And.intro dX11_costOf_14 (And.intro rfl (rfl))
theorem oX11_costOf_15 : OKI 221 15 (.ishr, 16, [], 0, 0, []) := And.intro dX11_costOf_15 rfl
theorem oX11_costOf_16 : OKI 221 16 (.iconst 1, 17, [], 1, 0, []) := And.intro dX11_costOf_16 (And.intro rfl (by decide +kernel))
theorem oX11_costOf_17 : OKI 221 17 (.iand, 18, [], 0, 0, []) := And.intro dX11_costOf_17 rfl
theorem oX11_costOf_18 : OKI 221 18 (.iconst 1, 19, [], 1, 0, []) := And.intro dX11_costOf_18 (And.intro rfl (by decide +kernel))
theorem oX11_costOf_19 : OKI 221 19 (.if_icmp .ne 12, 22, [31], 0, 0, []) := And.intro dX11_costOf_19 (And.intro rfl (by decide))
theorem oX11_costOf_22 : OKI 221 22 (.aload_n 0, 23, [0], 0, 0, []) := And.intro dX11_costOf_22 (And.intro rfl (rfl))
theorem oX11_costOf_23 : OKI 221 23 (.getfield 200, 26, [12, 62, 2, 149, 0], 0, 0, []) := And.intro dX11_costOf_23 (And.intro rfl (⟨(RX11, TX11, 69), "SpotTimersModel", rfl, by decide, tm_6 _ (List.mem_of_getElem? (i := 28) rfl) rfl, Or.inl rfl, rfl, rfl⟩))
theorem oX11_costOf_26 : OKI 221 26 (.iload_n 3, 27, [3], 0, 0, []) := And.intro dX11_costOf_26 (And.intro rfl (rfl))
theorem oX11_costOf_27 : OKI 221 27 (.iaload, 28, [], 0, 0, []) := And.intro dX11_costOf_27 rfl
theorem oX11_costOf_28 : OKI 221 28 (.goto 4, 31, [32], 0, 0, []) := And.intro dX11_costOf_28 (And.intro rfl (by decide))
theorem oX11_costOf_31 : OKI 221 31 (.iconst 0, 32, [], 0, 0, []) := And.intro dX11_costOf_31 (And.intro rfl (by decide +kernel))
theorem oX11_costOf_32 : OKI 221 32 (.iadd, 33, [], 0, 0, []) := And.intro dX11_costOf_32 rfl
theorem oX11_costOf_33 : OKI 221 33 (.istore_n 2, 34, [2], 0, 0, []) := And.intro dX11_costOf_33 (And.intro rfl (And.intro rfl (by decide)))
theorem oX11_costOf_34 : OKI 221 34 (.iinc 3 1, 37, [3], 1, 0, []) := And.intro dX11_costOf_34 (And.intro rfl (And.intro rfl (And.intro (by decide +kernel) (by decide))))
theorem oX11_costOf_37 : OKI 221 37 (.goto (-33), 40, [4], 0, 0, []) := And.intro dX11_costOf_37 (And.intro rfl (by decide))
theorem oX11_costOf_40 : OKI 221 40 (.iload_n 2, 41, [2], 0, 0, []) := And.intro dX11_costOf_40 (And.intro rfl (rfl))
theorem oX11_costOf_41 : OKI 221 41 (.ireturn, 42, [0], 0, 0, []) := And.intro dX11_costOf_41 (Or.inl (And.intro rfl rfl))
def pfX11_costOf (pc : Nat) : Option XE := (bif Nat.blt pc 18 then (bif Nat.blt pc 9 then (bif Nat.blt pc 3 then (bif Nat.blt pc 1 then (bif Nat.beq pc 0 then some (.iconst 0, 1, [], 0, 0, []) else none) else (bif Nat.blt pc 2 then (bif Nat.beq pc 1 then some (.istore_n 2, 2, [2], 0, 0, []) else none) else (bif Nat.beq pc 2 then some (.iconst 0, 3, [], 0, 0, []) else none))) else (bif Nat.blt pc 5 then (bif Nat.blt pc 4 then (bif Nat.beq pc 3 then some (.istore_n 3, 4, [3], 0, 0, []) else none) else (bif Nat.beq pc 4 then some (.iload_n 3, 5, [3], 0, 0, []) else none)) else (bif Nat.blt pc 6 then (bif Nat.beq pc 5 then some (.aload_n 0, 6, [0], 0, 0, []) else none) else (bif Nat.beq pc 6 then some (.getfield 191, 9, [12, 59, 0], 0, 0, []) else none)))) else (bif Nat.blt pc 14 then (bif Nat.blt pc 12 then (bif Nat.beq pc 9 then some (.if_icmp .ge 31, 12, [40], 0, 0, []) else none) else (bif Nat.blt pc 13 then (bif Nat.beq pc 12 then some (.iload_n 2, 13, [2], 0, 0, []) else none) else (bif Nat.beq pc 13 then some (.iload_n 1, 14, [1], 0, 0, []) else none))) else (bif Nat.blt pc 16 then (bif Nat.blt pc 15 then (bif Nat.beq pc 14 then some (.iload_n 3, 15, [3], 0, 0, []) else none) else (bif Nat.beq pc 15 then some (.ishr, 16, [], 0, 0, []) else none)) else (bif Nat.blt pc 17 then (bif Nat.beq pc 16 then some (.iconst 1, 17, [], 1, 0, []) else none) else (bif Nat.beq pc 17 then some (.iand, 18, [], 0, 0, []) else none))))) else (bif Nat.blt pc 31 then (bif Nat.blt pc 23 then (bif Nat.blt pc 19 then (bif Nat.beq pc 18 then some (.iconst 1, 19, [], 1, 0, []) else none) else (bif Nat.blt pc 22 then (bif Nat.beq pc 19 then some (.if_icmp .ne 12, 22, [31], 0, 0, []) else none) else (bif Nat.beq pc 22 then some (.aload_n 0, 23, [0], 0, 0, []) else none))) else (bif Nat.blt pc 27 then (bif Nat.blt pc 26 then (bif Nat.beq pc 23 then some (.getfield 200, 26, [12, 62, 2, 149, 0], 0, 0, []) else none) else (bif Nat.beq pc 26 then some (.iload_n 3, 27, [3], 0, 0, []) else none)) else (bif Nat.blt pc 28 then (bif Nat.beq pc 27 then some (.iaload, 28, [], 0, 0, []) else none) else (bif Nat.beq pc 28 then some (.goto 4, 31, [32], 0, 0, []) else none)))) else (bif Nat.blt pc 34 then (bif Nat.blt pc 32 then (bif Nat.beq pc 31 then some (.iconst 0, 32, [], 0, 0, []) else none) else (bif Nat.blt pc 33 then (bif Nat.beq pc 32 then some (.iadd, 33, [], 0, 0, []) else none) else (bif Nat.beq pc 33 then some (.istore_n 2, 34, [2], 0, 0, []) else none))) else (bif Nat.blt pc 40 then (bif Nat.blt pc 37 then (bif Nat.beq pc 34 then some (.iinc 3 1, 37, [3], 1, 0, []) else none) else (bif Nat.beq pc 37 then some (.goto (-33), 40, [4], 0, 0, []) else none)) else (bif Nat.blt pc 41 then (bif Nat.beq pc 40 then some (.iload_n 2, 41, [2], 0, 0, []) else none) else (bif Nat.beq pc 41 then some (.ireturn, 42, [0], 0, 0, []) else none))))))
theorem okX11_costOf : ∀ pc Y, pfX11_costOf pc = some Y → OKI m_X11_costOf pc Y := fun pc Y => ((bt_node (bt_node (bt_node (bt_node (bt_leaf (P := OKI m_X11_costOf) oX11_costOf_0) (bt_node (bt_leaf (P := OKI m_X11_costOf) oX11_costOf_1) (bt_leaf (P := OKI m_X11_costOf) oX11_costOf_2))) (bt_node (bt_node (bt_leaf (P := OKI m_X11_costOf) oX11_costOf_3) (bt_leaf (P := OKI m_X11_costOf) oX11_costOf_4)) (bt_node (bt_leaf (P := OKI m_X11_costOf) oX11_costOf_5) (bt_leaf (P := OKI m_X11_costOf) oX11_costOf_6)))) (bt_node (bt_node (bt_leaf (P := OKI m_X11_costOf) oX11_costOf_9) (bt_node (bt_leaf (P := OKI m_X11_costOf) oX11_costOf_12) (bt_leaf (P := OKI m_X11_costOf) oX11_costOf_13))) (bt_node (bt_node (bt_leaf (P := OKI m_X11_costOf) oX11_costOf_14) (bt_leaf (P := OKI m_X11_costOf) oX11_costOf_15)) (bt_node (bt_leaf (P := OKI m_X11_costOf) oX11_costOf_16) (bt_leaf (P := OKI m_X11_costOf) oX11_costOf_17))))) (bt_node (bt_node (bt_node (bt_leaf (P := OKI m_X11_costOf) oX11_costOf_18) (bt_node (bt_leaf (P := OKI m_X11_costOf) oX11_costOf_19) (bt_leaf (P := OKI m_X11_costOf) oX11_costOf_22))) (bt_node (bt_node (bt_leaf (P := OKI m_X11_costOf) oX11_costOf_23) (bt_leaf (P := OKI m_X11_costOf) oX11_costOf_26)) (bt_node (bt_leaf (P := OKI m_X11_costOf) oX11_costOf_27) (bt_leaf (P := OKI m_X11_costOf) oX11_costOf_28)))) (bt_node (bt_node (bt_leaf (P := OKI m_X11_costOf) oX11_costOf_31) (bt_node (bt_leaf (P := OKI m_X11_costOf) oX11_costOf_32) (bt_leaf (P := OKI m_X11_costOf) oX11_costOf_33))) (bt_node (bt_node (bt_leaf (P := OKI m_X11_costOf) oX11_costOf_34) (bt_leaf (P := OKI m_X11_costOf) oX11_costOf_37)) (bt_node (bt_leaf (P := OKI m_X11_costOf) oX11_costOf_40) (bt_leaf (P := OKI m_X11_costOf) oX11_costOf_41)))))) : pfX11_costOf pc = some Y → OKI m_X11_costOf pc Y)
def stpX11_costOf (pc : Nat) : Option (List Bool) := (bif Nat.blt pc 32 then (bif Nat.beq pc 4 then some [true, true, true, true] else none) else (bif Nat.beq pc 32 then some [true, true, false, true] else none))
def bX11_costOf_0 (d rc rs : Nat) (a1 : Int32) (σ : XH) (Q : XV → XH → Prop) : Prop :=
  Ex d rc rs m_X11_costOf 4 [vR (some (12, 0)), vI a1, vI 0, vI 0] [] σ Q
theorem sX11_costOf_0 {d rc rs : Nat} {a1 : Int32} {σ : XH} {Q : XV → XH → Prop} (h : bX11_costOf_0 d rc rs a1 σ Q) : Ex d rc rs m_X11_costOf 0 [vR (some (12, 0)), vI a1, vU, vU] [] σ Q :=
  xtree_sound (stop := stpX11_costOf) okX11_costOf 6 _ _ _ _ _ _ h
def bX11_costOf_4 (d rc rs : Nat) (l1 : Int32) (l2 : Int32) (l3 : Int32) (σ : XH) (Q : XV → XH → Prop) : Prop :=
  (((l3 < (hi σ 12 0 59) → ((((l1 >>> (l3 &&& 31)) &&& 1) = 1 → ((hr σ 12 0 62 = some (149, 0) ∧ ((vp_in l3 (hn σ 149 0) ∧ Ex d rc rs m_X11_costOf 32 [vR (some (12, 0)), vI l1, vU, vI l3] [vI (hi σ 149 0 l3.toNatClampNeg), vI l2] σ Q))))) ∧ (¬ ((l1 >>> (l3 &&& 31)) &&& 1) = 1 → Ex d rc rs m_X11_costOf 32 [vR (some (12, 0)), vI l1, vU, vI l3] [vI 0, vI l2] σ Q))) ∧ (¬ l3 < (hi σ 12 0 59) → Q (vI l2) σ)))
theorem sX11_costOf_4 {d rc rs : Nat} {l1 : Int32} {l2 : Int32} {l3 : Int32} {σ : XH} {Q : XV → XH → Prop} (h : bX11_costOf_4 d rc rs l1 l2 l3 σ Q) : Ex d rc rs m_X11_costOf 4 [vR (some (12, 0)), vI l1, vI l2, vI l3] [] σ Q :=
  xtree_sound (stop := stpX11_costOf) okX11_costOf 19 _ _ _ _ _ _ h
def bX11_costOf_32 (d rc rs : Nat) (l1 : Int32) (l3 : Int32) (q0 : Int32) (q1 : Int32) (σ : XH) (Q : XV → XH → Prop) : Prop :=
  Ex d rc rs m_X11_costOf 4 [vR (some (12, 0)), vI l1, vI (q1 + q0), vI (l3 + 1)] [] σ Q
theorem sX11_costOf_32 {d rc rs : Nat} {l1 : Int32} {l3 : Int32} {q0 : Int32} {q1 : Int32} {σ : XH} {Q : XV → XH → Prop} (h : bX11_costOf_32 d rc rs l1 l3 q0 q1 σ Q) : Ex d rc rs m_X11_costOf 32 [vR (some (12, 0)), vI l1, vU, vI l3] [vI q0, vI q1] σ Q :=
  xtree_sound (stop := stpX11_costOf) okX11_costOf 6 _ _ _ _ _ _ h
/-! SpotTimersModel.bestSet(III)I -/
theorem dX11_bestSet_0 : decode cX11_bestSet 0 = .ok (.iconst (-1), 1) := by decide +kernel
theorem dX11_bestSet_1 : decode cX11_bestSet 1 = .ok (.istore 4, 2) := by decide +kernel
theorem dX11_bestSet_3 : decode cX11_bestSet 3 = .ok (.iconst 0, 1) := by decide +kernel
theorem dX11_bestSet_4 : decode cX11_bestSet 4 = .ok (.istore 5, 2) := by decide +kernel
theorem dX11_bestSet_6 : decode cX11_bestSet 6 = .ok (.iload 5, 2) := by decide +kernel
theorem dX11_bestSet_8 : decode cX11_bestSet 8 = .ok (.iconst 1, 1) := by decide +kernel
theorem dX11_bestSet_9 : decode cX11_bestSet 9 = .ok (.aload_n 0, 1) := by decide +kernel
theorem dX11_bestSet_10 : decode cX11_bestSet 10 = .ok (.getfield 191, 3) := by decide +kernel
theorem dX11_bestSet_13 : decode cX11_bestSet 13 = .ok (.ishl, 1) := by decide +kernel
theorem dX11_bestSet_14 : decode cX11_bestSet 14 = .ok (.if_icmp .ge 93, 3) := by decide +kernel
theorem dX11_bestSet_17 : decode cX11_bestSet 17 = .ok (.aload_n 0, 1) := by decide +kernel
theorem dX11_bestSet_18 : decode cX11_bestSet 18 = .ok (.iload 5, 2) := by decide +kernel
theorem dX11_bestSet_20 : decode cX11_bestSet 20 = .ok (.invokevirtual 418, 3) := by decide +kernel
theorem dX11_bestSet_23 : decode cX11_bestSet 23 = .ok (.iload_n 1, 1) := by decide +kernel
theorem dX11_bestSet_24 : decode cX11_bestSet 24 = .ok (.if_icmp .ne 77, 3) := by decide +kernel
theorem dX11_bestSet_27 : decode cX11_bestSet 27 = .ok (.aload_n 0, 1) := by decide +kernel
theorem dX11_bestSet_28 : decode cX11_bestSet 28 = .ok (.iload 5, 2) := by decide +kernel
theorem dX11_bestSet_30 : decode cX11_bestSet 30 = .ok (.invokevirtual 424, 3) := by decide +kernel
theorem dX11_bestSet_33 : decode cX11_bestSet 33 = .ok (.iload_n 2, 1) := by decide +kernel
theorem dX11_bestSet_34 : decode cX11_bestSet 34 = .ok (.if_icmp .gt 67, 3) := by decide +kernel
theorem dX11_bestSet_37 : decode cX11_bestSet 37 = .ok (.iload 5, 2) := by decide +kernel
theorem dX11_bestSet_39 : decode cX11_bestSet 39 = .ok (.iload_n 3, 1) := by decide +kernel
theorem dX11_bestSet_40 : decode cX11_bestSet 40 = .ok (.iand, 1) := by decide +kernel
theorem dX11_bestSet_41 : decode cX11_bestSet 41 = .ok (.ifCond .eq 6, 3) := by decide +kernel
theorem dX11_bestSet_44 : decode cX11_bestSet 44 = .ok (.goto 57, 3) := by decide +kernel
theorem dX11_bestSet_47 : decode cX11_bestSet 47 = .ok (.iload 4, 2) := by decide +kernel
theorem dX11_bestSet_49 : decode cX11_bestSet 49 = .ok (.ifCond .lt 48, 3) := by decide +kernel
theorem dX11_bestSet_52 : decode cX11_bestSet 52 = .ok (.aload_n 0, 1) := by decide +kernel
theorem dX11_bestSet_53 : decode cX11_bestSet 53 = .ok (.iload 5, 2) := by decide +kernel
theorem dX11_bestSet_55 : decode cX11_bestSet 55 = .ok (.invokevirtual 427, 3) := by decide +kernel
theorem dX11_bestSet_58 : decode cX11_bestSet 58 = .ok (.aload_n 0, 1) := by decide +kernel
theorem dX11_bestSet_59 : decode cX11_bestSet 59 = .ok (.iload 4, 2) := by decide +kernel
theorem dX11_bestSet_61 : decode cX11_bestSet 61 = .ok (.invokevirtual 427, 3) := by decide +kernel
theorem dX11_bestSet_64 : decode cX11_bestSet 64 = .ok (.if_icmp .gt 33, 3) := by decide +kernel
theorem dX11_bestSet_67 : decode cX11_bestSet 67 = .ok (.aload_n 0, 1) := by decide +kernel
theorem dX11_bestSet_68 : decode cX11_bestSet 68 = .ok (.iload 5, 2) := by decide +kernel
theorem dX11_bestSet_70 : decode cX11_bestSet 70 = .ok (.invokevirtual 427, 3) := by decide +kernel
theorem dX11_bestSet_73 : decode cX11_bestSet 73 = .ok (.aload_n 0, 1) := by decide +kernel
theorem dX11_bestSet_74 : decode cX11_bestSet 74 = .ok (.iload 4, 2) := by decide +kernel
theorem dX11_bestSet_76 : decode cX11_bestSet 76 = .ok (.invokevirtual 427, 3) := by decide +kernel
theorem dX11_bestSet_79 : decode cX11_bestSet 79 = .ok (.if_icmp .ne 22, 3) := by decide +kernel
theorem dX11_bestSet_82 : decode cX11_bestSet 82 = .ok (.aload_n 0, 1) := by decide +kernel
theorem dX11_bestSet_83 : decode cX11_bestSet 83 = .ok (.iload 5, 2) := by decide +kernel
theorem dX11_bestSet_85 : decode cX11_bestSet 85 = .ok (.invokevirtual 424, 3) := by decide +kernel
theorem dX11_bestSet_88 : decode cX11_bestSet 88 = .ok (.aload_n 0, 1) := by decide +kernel
theorem dX11_bestSet_89 : decode cX11_bestSet 89 = .ok (.iload 4, 2) := by decide +kernel
theorem dX11_bestSet_91 : decode cX11_bestSet 91 = .ok (.invokevirtual 424, 3) := by decide +kernel
theorem dX11_bestSet_94 : decode cX11_bestSet 94 = .ok (.if_icmp .ge 7, 3) := by decide +kernel
theorem dX11_bestSet_97 : decode cX11_bestSet 97 = .ok (.iload 5, 2) := by decide +kernel
theorem dX11_bestSet_99 : decode cX11_bestSet 99 = .ok (.istore 4, 2) := by decide +kernel
theorem dX11_bestSet_101 : decode cX11_bestSet 101 = .ok (.iinc 5 1, 3) := by decide +kernel
theorem dX11_bestSet_104 : decode cX11_bestSet 104 = .ok (.goto (-98), 3) := by decide +kernel
theorem dX11_bestSet_107 : decode cX11_bestSet 107 = .ok (.iload 4, 2) := by decide +kernel
theorem dX11_bestSet_109 : decode cX11_bestSet 109 = .ok (.ireturn, 1) := by decide +kernel
theorem oX11_bestSet_0 : OKI 222 0 (.iconst (-1), 1, [], (-1), 0, []) := And.intro dX11_bestSet_0 (And.intro rfl (by decide +kernel))
theorem oX11_bestSet_1 : OKI 222 1 (.istore 4, 3, [4], 0, 0, []) := And.intro dX11_bestSet_1 (And.intro rfl (And.intro rfl (by decide)))
theorem oX11_bestSet_3 : OKI 222 3 (.iconst 0, 4, [], 0, 0, []) := And.intro dX11_bestSet_3 (And.intro rfl (by decide +kernel))
theorem oX11_bestSet_4 : OKI 222 4 (.istore 5, 6, [5], 0, 0, []) := And.intro dX11_bestSet_4 (And.intro rfl (And.intro rfl (by decide)))
theorem oX11_bestSet_6 : OKI 222 6 (.iload 5, 8, [5], 0, 0, []) := And.intro dX11_bestSet_6 (And.intro rfl (rfl))
theorem oX11_bestSet_8 : OKI 222 8 (.iconst 1, 9, [], 1, 0, []) := And.intro dX11_bestSet_8 (And.intro rfl (by decide +kernel))
theorem oX11_bestSet_9 : OKI 222 9 (.aload_n 0, 10, [0], 0, 0, []) := And.intro dX11_bestSet_9 (And.intro rfl (rfl))
theorem oX11_bestSet_10 : OKI 222 10 (.getfield 191, 13, [12, 59, 0], 0, 0, []) := And.intro dX11_bestSet_10 (And.intro rfl (⟨(RX11, TX11, 69), "SpotTimersModel", rfl, by decide, tm_6 _ (List.mem_of_getElem? (i := 25) rfl) rfl, Or.inl rfl, Or.inr (Or.inr (And.intro rfl (Or.inl rfl)))⟩))
theorem oX11_bestSet_13 : OKI 222 13 (.ishl, 14, [], 0, 0, []) := And.intro dX11_bestSet_13 rfl
theorem oX11_bestSet_14 : OKI 222 14 (.if_icmp .ge 93, 17, [107], 0, 0, []) := And.intro dX11_bestSet_14 (And.intro rfl (by decide))
theorem oX11_bestSet_17 : OKI 222 17 (.aload_n 0, 18, [0], 0, 0, []) := And.intro dX11_bestSet_17 (And.intro rfl (rfl))
theorem oX11_bestSet_18 : OKI 222 18 (.iload 5, 20, [5], 0, 0, []) := And.intro dX11_bestSet_18 (And.intro rfl (rfl))
theorem oX11_bestSet_20 : OKI 222 20 (.invokevirtual 418, 23, [216, 2, 13, 0, 0, 1], 0, 0, []) := And.intro dX11_bestSet_20 (And.intro rfl (And.intro (by decide) (And.intro (by decide) (And.intro mo_X11_ones (And.intro (tm_8 _ (List.mem_of_getElem? (i := 17) rfl) rfl) (And.intro (tm_8 _ (List.mem_of_getElem? (i := 19) rfl) rfl) (And.intro (pm_6 _ (List.mem_of_getElem? (i := 7) rfl)) (Or.inl ⟨(RX11, TX11, 69), rfl, rfl⟩))))))))
theorem oX11_bestSet_23 : OKI 222 23 (.iload_n 1, 24, [1], 0, 0, []) := And.intro dX11_bestSet_23 (And.intro rfl (rfl))
theorem oX11_bestSet_24 : OKI 222 24 (.if_icmp .ne 77, 27, [101], 0, 0, []) := And.intro dX11_bestSet_24 (And.intro rfl (by decide))
theorem oX11_bestSet_27 : OKI 222 27 (.aload_n 0, 28, [0], 0, 0, []) := And.intro dX11_bestSet_27 (And.intro rfl (rfl))
theorem oX11_bestSet_28 : OKI 222 28 (.iload 5, 30, [5], 0, 0, []) := And.intro dX11_bestSet_28 (And.intro rfl (rfl))
theorem oX11_bestSet_30 : OKI 222 30 (.invokevirtual 424, 33, [221, 2, 13, 0, 0, 1], 0, 0, []) := And.intro dX11_bestSet_30 (And.intro rfl (And.intro (by decide) (And.intro (by decide) (And.intro mo_X11_costOf (And.intro (tm_8 _ (List.mem_of_getElem? (i := 49) rfl) rfl) (And.intro (tm_8 _ (List.mem_of_getElem? (i := 51) rfl) rfl) (And.intro (pm_6 _ (List.mem_of_getElem? (i := 12) rfl)) (Or.inl ⟨(RX11, TX11, 69), rfl, rfl⟩))))))))
theorem oX11_bestSet_33 : OKI 222 33 (.iload_n 2, 34, [2], 0, 0, []) := And.intro dX11_bestSet_33 (And.intro rfl (rfl))
theorem oX11_bestSet_34 : OKI 222 34 (.if_icmp .gt 67, 37, [101], 0, 0, []) := And.intro dX11_bestSet_34 (And.intro rfl (by decide))
theorem oX11_bestSet_37 : OKI 222 37 (.iload 5, 39, [5], 0, 0, []) := And.intro dX11_bestSet_37 (And.intro rfl (rfl))
theorem oX11_bestSet_39 : OKI 222 39 (.iload_n 3, 40, [3], 0, 0, []) := And.intro dX11_bestSet_39 (And.intro rfl (rfl))
theorem oX11_bestSet_40 : OKI 222 40 (.iand, 41, [], 0, 0, []) := And.intro dX11_bestSet_40 rfl
theorem oX11_bestSet_41 : OKI 222 41 (.ifCond .eq 6, 44, [47], 0, 0, []) := And.intro dX11_bestSet_41 (And.intro rfl (by decide))
theorem oX11_bestSet_44 : OKI 222 44 (.goto 57, 47, [101], 0, 0, []) := And.intro dX11_bestSet_44 (And.intro rfl (by decide))
theorem oX11_bestSet_47 : OKI 222 47 (.iload 4, 49, [4], 0, 0, []) := And.intro dX11_bestSet_47 (And.intro rfl (rfl))
theorem oX11_bestSet_49 : OKI 222 49 (.ifCond .lt 48, 52, [97], 0, 0, []) := And.intro dX11_bestSet_49 (And.intro rfl (by decide))
theorem oX11_bestSet_52 : OKI 222 52 (.aload_n 0, 53, [0], 0, 0, []) := And.intro dX11_bestSet_52 (And.intro rfl (rfl))
theorem oX11_bestSet_53 : OKI 222 53 (.iload 5, 55, [5], 0, 0, []) := And.intro dX11_bestSet_53 (And.intro rfl (rfl))
theorem oX11_bestSet_55 : OKI 222 55 (.invokevirtual 427, 58, [220, 2, 13, 0, 0, 1], 0, 0, []) := And.intro dX11_bestSet_55 (And.intro rfl (And.intro (by decide) (And.intro (by decide) (And.intro mo_X11_worthOf (And.intro (tm_8 _ (List.mem_of_getElem? (i := 53) rfl) rfl) (And.intro (tm_8 _ (List.mem_of_getElem? (i := 55) rfl) rfl) (And.intro (pm_6 _ (List.mem_of_getElem? (i := 13) rfl)) (Or.inl ⟨(RX11, TX11, 69), rfl, rfl⟩))))))))
theorem oX11_bestSet_58 : OKI 222 58 (.aload_n 0, 59, [0], 0, 0, []) := And.intro dX11_bestSet_58 (And.intro rfl (rfl))
theorem oX11_bestSet_59 : OKI 222 59 (.iload 4, 61, [4], 0, 0, []) := And.intro dX11_bestSet_59 (And.intro rfl (rfl))
theorem oX11_bestSet_61 : OKI 222 61 (.invokevirtual 427, 64, [220, 2, 13, 0, 0, 1], 0, 0, []) := And.intro dX11_bestSet_61 (And.intro rfl (And.intro (by decide) (And.intro (by decide) (And.intro mo_X11_worthOf (And.intro (tm_8 _ (List.mem_of_getElem? (i := 53) rfl) rfl) (And.intro (tm_8 _ (List.mem_of_getElem? (i := 55) rfl) rfl) (And.intro (pm_6 _ (List.mem_of_getElem? (i := 13) rfl)) (Or.inl ⟨(RX11, TX11, 69), rfl, rfl⟩))))))))
theorem oX11_bestSet_64 : OKI 222 64 (.if_icmp .gt 33, 67, [97], 0, 0, []) := And.intro dX11_bestSet_64 (And.intro rfl (by decide))
theorem oX11_bestSet_67 : OKI 222 67 (.aload_n 0, 68, [0], 0, 0, []) := And.intro dX11_bestSet_67 (And.intro rfl (rfl))
theorem oX11_bestSet_68 : OKI 222 68 (.iload 5, 70, [5], 0, 0, []) := And.intro dX11_bestSet_68 (And.intro rfl (rfl))
theorem oX11_bestSet_70 : OKI 222 70 (.invokevirtual 427, 73, [220, 2, 13, 0, 0, 1], 0, 0, []) := And.intro dX11_bestSet_70 (And.intro rfl (And.intro (by decide) (And.intro (by decide) (And.intro mo_X11_worthOf (And.intro (tm_8 _ (List.mem_of_getElem? (i := 53) rfl) rfl) (And.intro (tm_8 _ (List.mem_of_getElem? (i := 55) rfl) rfl) (And.intro (pm_6 _ (List.mem_of_getElem? (i := 13) rfl)) (Or.inl ⟨(RX11, TX11, 69), rfl, rfl⟩))))))))
theorem oX11_bestSet_73 : OKI 222 73 (.aload_n 0, 74, [0], 0, 0, []) := And.intro dX11_bestSet_73 (And.intro rfl (rfl))
theorem oX11_bestSet_74 : OKI 222 74 (.iload 4, 76, [4], 0, 0, []) := And.intro dX11_bestSet_74 (And.intro rfl (rfl))
theorem oX11_bestSet_76 : OKI 222 76 (.invokevirtual 427, 79, [220, 2, 13, 0, 0, 1], 0, 0, []) := And.intro dX11_bestSet_76 (And.intro rfl (And.intro (by decide) (And.intro (by decide) (And.intro mo_X11_worthOf (And.intro (tm_8 _ (List.mem_of_getElem? (i := 53) rfl) rfl) (And.intro (tm_8 _ (List.mem_of_getElem? (i := 55) rfl) rfl) (And.intro (pm_6 _ (List.mem_of_getElem? (i := 13) rfl)) (Or.inl ⟨(RX11, TX11, 69), rfl, rfl⟩))))))))
theorem oX11_bestSet_79 : OKI 222 79 (.if_icmp .ne 22, 82, [101], 0, 0, []) := And.intro dX11_bestSet_79 (And.intro rfl (by decide))
theorem oX11_bestSet_82 : OKI 222 82 (.aload_n 0, 83, [0], 0, 0, []) := And.intro dX11_bestSet_82 (And.intro rfl (rfl))
theorem oX11_bestSet_83 : OKI 222 83 (.iload 5, 85, [5], 0, 0, []) := And.intro dX11_bestSet_83 (And.intro rfl (rfl))
theorem oX11_bestSet_85 : OKI 222 85 (.invokevirtual 424, 88, [221, 2, 13, 0, 0, 1], 0, 0, []) := And.intro dX11_bestSet_85 (And.intro rfl (And.intro (by decide) (And.intro (by decide) (And.intro mo_X11_costOf (And.intro (tm_8 _ (List.mem_of_getElem? (i := 49) rfl) rfl) (And.intro (tm_8 _ (List.mem_of_getElem? (i := 51) rfl) rfl) (And.intro (pm_6 _ (List.mem_of_getElem? (i := 12) rfl)) (Or.inl ⟨(RX11, TX11, 69), rfl, rfl⟩))))))))
theorem oX11_bestSet_88 : OKI 222 88 (.aload_n 0, 89, [0], 0, 0, []) := And.intro dX11_bestSet_88 (And.intro rfl (rfl))
theorem oX11_bestSet_89 : OKI 222 89 (.iload 4, 91, [4], 0, 0, []) := And.intro dX11_bestSet_89 (And.intro rfl (rfl))
theorem oX11_bestSet_91 : OKI 222 91 (.invokevirtual 424, 94, [221, 2, 13, 0, 0, 1], 0, 0, []) := And.intro dX11_bestSet_91 (And.intro rfl (And.intro (by decide) (And.intro (by decide) (And.intro mo_X11_costOf (And.intro (tm_8 _ (List.mem_of_getElem? (i := 49) rfl) rfl) (And.intro (tm_8 _ (List.mem_of_getElem? (i := 51) rfl) rfl) (And.intro (pm_6 _ (List.mem_of_getElem? (i := 12) rfl)) (Or.inl ⟨(RX11, TX11, 69), rfl, rfl⟩))))))))
theorem oX11_bestSet_94 : OKI 222 94 (.if_icmp .ge 7, 97, [101], 0, 0, []) := And.intro dX11_bestSet_94 (And.intro rfl (by decide))
theorem oX11_bestSet_97 : OKI 222 97 (.iload 5, 99, [5], 0, 0, []) := And.intro dX11_bestSet_97 (And.intro rfl (rfl))
theorem oX11_bestSet_99 : OKI 222 99 (.istore 4, 101, [4], 0, 0, []) := And.intro dX11_bestSet_99 (And.intro rfl (And.intro rfl (by decide)))
theorem oX11_bestSet_101 : OKI 222 101 (.iinc 5 1, 104, [5], 1, 0, []) := And.intro dX11_bestSet_101 (And.intro rfl (And.intro rfl (And.intro (by decide +kernel) (by decide))))
theorem oX11_bestSet_104 : OKI 222 104 (.goto (-98), 107, [6], 0, 0, []) := And.intro dX11_bestSet_104 (And.intro rfl (by decide))
theorem oX11_bestSet_107 : OKI 222 107 (.iload 4, 109, [4], 0, 0, []) := And.intro dX11_bestSet_107 (And.intro rfl (rfl))
theorem oX11_bestSet_109 : OKI 222 109 (.ireturn, 110, [0], 0, 0, []) := And.intro dX11_bestSet_109 (Or.inl (And.intro rfl rfl))
def pfX11_bestSet (pc : Nat) : Option XE := (bif Nat.blt pc 52 then (bif Nat.blt pc 23 then (bif Nat.blt pc 9 then (bif Nat.blt pc 4 then (bif Nat.blt pc 1 then (bif Nat.beq pc 0 then some (.iconst (-1), 1, [], (-1), 0, []) else none) else (bif Nat.blt pc 3 then (bif Nat.beq pc 1 then some (.istore 4, 3, [4], 0, 0, []) else none) else (bif Nat.beq pc 3 then some (.iconst 0, 4, [], 0, 0, []) else none))) else (bif Nat.blt pc 6 then (bif Nat.beq pc 4 then some (.istore 5, 6, [5], 0, 0, []) else none) else (bif Nat.blt pc 8 then (bif Nat.beq pc 6 then some (.iload 5, 8, [5], 0, 0, []) else none) else (bif Nat.beq pc 8 then some (.iconst 1, 9, [], 1, 0, []) else none)))) else (bif Nat.blt pc 14 then (bif Nat.blt pc 10 then (bif Nat.beq pc 9 then some (.aload_n 0, 10, [0], 0, 0, []) else none) else (bif Nat.blt pc 13 then (bif Nat.beq pc 10 then some (.getfield 191, 13, [12, 59, 0], 0, 0, []) else none) else (bif Nat.beq pc 13 then some (.ishl, 14, [], 0, 0, []) else none))) else (bif Nat.blt pc 18 then (bif Nat.blt pc 17 then (bif Nat.beq pc 14 then some (.if_icmp .ge 93, 17, [107], 0, 0, []) else none) else (bif Nat.beq pc 17 then some (.aload_n 0, 18, [0], 0, 0, []) else none)) else (bif Nat.blt pc 20 then (bif Nat.beq pc 18 then some (.iload 5, 20, [5], 0, 0, []) else none) else (bif Nat.beq pc 20 then some (.invokevirtual 418, 23, [216, 2, 13, 0, 0, 1], 0, 0, []) else none))))) else (bif Nat.blt pc 37 then (bif Nat.blt pc 28 then (bif Nat.blt pc 24 then (bif Nat.beq pc 23 then some (.iload_n 1, 24, [1], 0, 0, []) else none) else (bif Nat.blt pc 27 then (bif Nat.beq pc 24 then some (.if_icmp .ne 77, 27, [101], 0, 0, []) else none) else (bif Nat.beq pc 27 then some (.aload_n 0, 28, [0], 0, 0, []) else none))) else (bif Nat.blt pc 33 then (bif Nat.blt pc 30 then (bif Nat.beq pc 28 then some (.iload 5, 30, [5], 0, 0, []) else none) else (bif Nat.beq pc 30 then some (.invokevirtual 424, 33, [221, 2, 13, 0, 0, 1], 0, 0, []) else none)) else (bif Nat.blt pc 34 then (bif Nat.beq pc 33 then some (.iload_n 2, 34, [2], 0, 0, []) else none) else (bif Nat.beq pc 34 then some (.if_icmp .gt 67, 37, [101], 0, 0, []) else none)))) else (bif Nat.blt pc 41 then (bif Nat.blt pc 39 then (bif Nat.beq pc 37 then some (.iload 5, 39, [5], 0, 0, []) else none) else (bif Nat.blt pc 40 then (bif Nat.beq pc 39 then some (.iload_n 3, 40, [3], 0, 0, []) else none) else (bif Nat.beq pc 40 then some (.iand, 41, [], 0, 0, []) else none))) else (bif Nat.blt pc 47 then (bif Nat.blt pc 44 then (bif Nat.beq pc 41 then some (.ifCond .eq 6, 44, [47], 0, 0, []) else none) else (bif Nat.beq pc 44 then some (.goto 57, 47, [101], 0, 0, []) else none)) else (bif Nat.blt pc 49 then (bif Nat.beq pc 47 then some (.iload 4, 49, [4], 0, 0, []) else none) else (bif Nat.beq pc 49 then some (.ifCond .lt 48, 52, [97], 0, 0, []) else none)))))) else (bif Nat.blt pc 79 then (bif Nat.blt pc 64 then (bif Nat.blt pc 58 then (bif Nat.blt pc 53 then (bif Nat.beq pc 52 then some (.aload_n 0, 53, [0], 0, 0, []) else none) else (bif Nat.blt pc 55 then (bif Nat.beq pc 53 then some (.iload 5, 55, [5], 0, 0, []) else none) else (bif Nat.beq pc 55 then some (.invokevirtual 427, 58, [220, 2, 13, 0, 0, 1], 0, 0, []) else none))) else (bif Nat.blt pc 59 then (bif Nat.beq pc 58 then some (.aload_n 0, 59, [0], 0, 0, []) else none) else (bif Nat.blt pc 61 then (bif Nat.beq pc 59 then some (.iload 4, 61, [4], 0, 0, []) else none) else (bif Nat.beq pc 61 then some (.invokevirtual 427, 64, [220, 2, 13, 0, 0, 1], 0, 0, []) else none)))) else (bif Nat.blt pc 70 then (bif Nat.blt pc 67 then (bif Nat.beq pc 64 then some (.if_icmp .gt 33, 67, [97], 0, 0, []) else none) else (bif Nat.blt pc 68 then (bif Nat.beq pc 67 then some (.aload_n 0, 68, [0], 0, 0, []) else none) else (bif Nat.beq pc 68 then some (.iload 5, 70, [5], 0, 0, []) else none))) else (bif Nat.blt pc 74 then (bif Nat.blt pc 73 then (bif Nat.beq pc 70 then some (.invokevirtual 427, 73, [220, 2, 13, 0, 0, 1], 0, 0, []) else none) else (bif Nat.beq pc 73 then some (.aload_n 0, 74, [0], 0, 0, []) else none)) else (bif Nat.blt pc 76 then (bif Nat.beq pc 74 then some (.iload 4, 76, [4], 0, 0, []) else none) else (bif Nat.beq pc 76 then some (.invokevirtual 427, 79, [220, 2, 13, 0, 0, 1], 0, 0, []) else none))))) else (bif Nat.blt pc 94 then (bif Nat.blt pc 85 then (bif Nat.blt pc 82 then (bif Nat.beq pc 79 then some (.if_icmp .ne 22, 82, [101], 0, 0, []) else none) else (bif Nat.blt pc 83 then (bif Nat.beq pc 82 then some (.aload_n 0, 83, [0], 0, 0, []) else none) else (bif Nat.beq pc 83 then some (.iload 5, 85, [5], 0, 0, []) else none))) else (bif Nat.blt pc 89 then (bif Nat.blt pc 88 then (bif Nat.beq pc 85 then some (.invokevirtual 424, 88, [221, 2, 13, 0, 0, 1], 0, 0, []) else none) else (bif Nat.beq pc 88 then some (.aload_n 0, 89, [0], 0, 0, []) else none)) else (bif Nat.blt pc 91 then (bif Nat.beq pc 89 then some (.iload 4, 91, [4], 0, 0, []) else none) else (bif Nat.beq pc 91 then some (.invokevirtual 424, 94, [221, 2, 13, 0, 0, 1], 0, 0, []) else none)))) else (bif Nat.blt pc 101 then (bif Nat.blt pc 97 then (bif Nat.beq pc 94 then some (.if_icmp .ge 7, 97, [101], 0, 0, []) else none) else (bif Nat.blt pc 99 then (bif Nat.beq pc 97 then some (.iload 5, 99, [5], 0, 0, []) else none) else (bif Nat.beq pc 99 then some (.istore 4, 101, [4], 0, 0, []) else none))) else (bif Nat.blt pc 107 then (bif Nat.blt pc 104 then (bif Nat.beq pc 101 then some (.iinc 5 1, 104, [5], 1, 0, []) else none) else (bif Nat.beq pc 104 then some (.goto (-98), 107, [6], 0, 0, []) else none)) else (bif Nat.blt pc 109 then (bif Nat.beq pc 107 then some (.iload 4, 109, [4], 0, 0, []) else none) else (bif Nat.beq pc 109 then some (.ireturn, 110, [0], 0, 0, []) else none)))))))
theorem okX11_bestSet : ∀ pc Y, pfX11_bestSet pc = some Y → OKI m_X11_bestSet pc Y := fun pc Y => ((bt_node (bt_node (bt_node (bt_node (bt_node (bt_leaf (P := OKI m_X11_bestSet) oX11_bestSet_0) (bt_node (bt_leaf (P := OKI m_X11_bestSet) oX11_bestSet_1) (bt_leaf (P := OKI m_X11_bestSet) oX11_bestSet_3))) (bt_node (bt_leaf (P := OKI m_X11_bestSet) oX11_bestSet_4) (bt_node (bt_leaf (P := OKI m_X11_bestSet) oX11_bestSet_6) (bt_leaf (P := OKI m_X11_bestSet) oX11_bestSet_8)))) (bt_node (bt_node (bt_leaf (P := OKI m_X11_bestSet) oX11_bestSet_9) (bt_node (bt_leaf (P := OKI m_X11_bestSet) oX11_bestSet_10) (bt_leaf (P := OKI m_X11_bestSet) oX11_bestSet_13))) (bt_node (bt_node (bt_leaf (P := OKI m_X11_bestSet) oX11_bestSet_14) (bt_leaf (P := OKI m_X11_bestSet) oX11_bestSet_17)) (bt_node (bt_leaf (P := OKI m_X11_bestSet) oX11_bestSet_18) (bt_leaf (P := OKI m_X11_bestSet) oX11_bestSet_20))))) (bt_node (bt_node (bt_node (bt_leaf (P := OKI m_X11_bestSet) oX11_bestSet_23) (bt_node (bt_leaf (P := OKI m_X11_bestSet) oX11_bestSet_24) (bt_leaf (P := OKI m_X11_bestSet) oX11_bestSet_27))) (bt_node (bt_node (bt_leaf (P := OKI m_X11_bestSet) oX11_bestSet_28) (bt_leaf (P := OKI m_X11_bestSet) oX11_bestSet_30)) (bt_node (bt_leaf (P := OKI m_X11_bestSet) oX11_bestSet_33) (bt_leaf (P := OKI m_X11_bestSet) oX11_bestSet_34)))) (bt_node (bt_node (bt_leaf (P := OKI m_X11_bestSet) oX11_bestSet_37) (bt_node (bt_leaf (P := OKI m_X11_bestSet) oX11_bestSet_39) (bt_leaf (P := OKI m_X11_bestSet) oX11_bestSet_40))) (bt_node (bt_node (bt_leaf (P := OKI m_X11_bestSet) oX11_bestSet_41) (bt_leaf (P := OKI m_X11_bestSet) oX11_bestSet_44)) (bt_node (bt_leaf (P := OKI m_X11_bestSet) oX11_bestSet_47) (bt_leaf (P := OKI m_X11_bestSet) oX11_bestSet_49)))))) (bt_node (bt_node (bt_node (bt_node (bt_leaf (P := OKI m_X11_bestSet) oX11_bestSet_52) (bt_node (bt_leaf (P := OKI m_X11_bestSet) oX11_bestSet_53) (bt_leaf (P := OKI m_X11_bestSet) oX11_bestSet_55))) (bt_node (bt_leaf (P := OKI m_X11_bestSet) oX11_bestSet_58) (bt_node (bt_leaf (P := OKI m_X11_bestSet) oX11_bestSet_59) (bt_leaf (P := OKI m_X11_bestSet) oX11_bestSet_61)))) (bt_node (bt_node (bt_leaf (P := OKI m_X11_bestSet) oX11_bestSet_64) (bt_node (bt_leaf (P := OKI m_X11_bestSet) oX11_bestSet_67) (bt_leaf (P := OKI m_X11_bestSet) oX11_bestSet_68))) (bt_node (bt_node (bt_leaf (P := OKI m_X11_bestSet) oX11_bestSet_70) (bt_leaf (P := OKI m_X11_bestSet) oX11_bestSet_73)) (bt_node (bt_leaf (P := OKI m_X11_bestSet) oX11_bestSet_74) (bt_leaf (P := OKI m_X11_bestSet) oX11_bestSet_76))))) (bt_node (bt_node (bt_node (bt_leaf (P := OKI m_X11_bestSet) oX11_bestSet_79) (bt_node (bt_leaf (P := OKI m_X11_bestSet) oX11_bestSet_82) (bt_leaf (P := OKI m_X11_bestSet) oX11_bestSet_83))) (bt_node (bt_node (bt_leaf (P := OKI m_X11_bestSet) oX11_bestSet_85) (bt_leaf (P := OKI m_X11_bestSet) oX11_bestSet_88)) (bt_node (bt_leaf (P := OKI m_X11_bestSet) oX11_bestSet_89) (bt_leaf (P := OKI m_X11_bestSet) oX11_bestSet_91)))) (bt_node (bt_node (bt_leaf (P := OKI m_X11_bestSet) oX11_bestSet_94) (bt_node (bt_leaf (P := OKI m_X11_bestSet) oX11_bestSet_97) (bt_leaf (P := OKI m_X11_bestSet) oX11_bestSet_99))) (bt_node (bt_node (bt_leaf (P := OKI m_X11_bestSet) oX11_bestSet_101) (bt_leaf (P := OKI m_X11_bestSet) oX11_bestSet_104)) (bt_node (bt_leaf (P := OKI m_X11_bestSet) oX11_bestSet_107) (bt_leaf (P := OKI m_X11_bestSet) oX11_bestSet_109))))))) : pfX11_bestSet pc = some Y → OKI m_X11_bestSet pc Y)
def stpX11_bestSet (pc : Nat) : Option (List Bool) := (bif Nat.blt pc 97 then (bif Nat.blt pc 67 then (bif Nat.beq pc 6 then some [true, true, true, true, true, true] else none) else (bif Nat.beq pc 67 then some [true, true, true, true, true, true] else none)) else (bif Nat.blt pc 101 then (bif Nat.beq pc 97 then some [true, true, true, true, false, true] else none) else (bif Nat.beq pc 101 then some [true, true, true, true, true, true] else none)))
def bX11_bestSet_0 (d rc rs : Nat) (a1 : Int32) (a2 : Int32) (a3 : Int32) (σ : XH) (Q : XV → XH → Prop) : Prop :=
  Ex d rc rs m_X11_bestSet 6 [vR (some (12, 0)), vI a1, vI a2, vI a3, vI (-1), vI 0] [] σ Q
theorem sX11_bestSet_0 {d rc rs : Nat} {a1 : Int32} {a2 : Int32} {a3 : Int32} {σ : XH} {Q : XV → XH → Prop} (h : bX11_bestSet_0 d rc rs a1 a2 a3 σ Q) : Ex d rc rs m_X11_bestSet 0 [vR (some (12, 0)), vI a1, vI a2, vI a3, vU, vU] [] σ Q :=
  xtree_sound (stop := stpX11_bestSet) okX11_bestSet 6 _ _ _ _ _ _ h
def bX11_bestSet_6 (d rc rs : Nat) (l1 : Int32) (l2 : Int32) (l3 : Int32) (l4 : Int32) (l5 : Int32) (σ : XH) (Q : XV → XH → Prop) : Prop :=
  (((l5 < (1 <<< ((hi σ 12 0 59) &&& 31)) → ((1 ≤ d ∧ Ec (d - 1) 0 0 m_X11_ones [vR (some (12, 0)), vI l5] σ (kI fun x2 h1 => ((x2 = l1 → ((1 ≤ d ∧ Ec (d - 1) 0 0 m_X11_costOf [vR (some (12, 0)), vI l5] h1 (kI fun x4 h3 => ((l2 < x4 → Ex d rc rs m_X11_bestSet 101 [vR (some (12, 0)), vI l1, vI l2, vI l3, vI l4, vI l5] [] h3 Q) ∧ (¬ l2 < x4 → (((l5 &&& l3) = 0 → ((l4 < 0 → Ex d rc rs m_X11_bestSet 97 [vR (some (12, 0)), vI l1, vI l2, vI l3, vU, vI l5] [] h3 Q) ∧ (¬ l4 < 0 → ((1 ≤ d ∧ Ec (d - 1) 0 0 m_X11_worthOf [vR (some (12, 0)), vI l5] h3 (kI fun x6 h5 => ((1 ≤ d ∧ Ec (d - 1) 0 0 m_X11_worthOf [vR (some (12, 0)), vI l4] h5 (kI fun x8 h7 => ((x8 < x6 → Ex d rc rs m_X11_bestSet 97 [vR (some (12, 0)), vI l1, vI l2, vI l3, vU, vI l5] [] h7 Q) ∧ (¬ x8 < x6 → Ex d rc rs m_X11_bestSet 67 [vR (some (12, 0)), vI l1, vI l2, vI l3, vI l4, vI l5] [] h7 Q))))))))))) ∧ (¬ (l5 &&& l3) = 0 → Ex d rc rs m_X11_bestSet 101 [vR (some (12, 0)), vI l1, vI l2, vI l3, vI l4, vI l5] [] h3 Q)))))))) ∧ (¬ x2 = l1 → Ex d rc rs m_X11_bestSet 101 [vR (some (12, 0)), vI l1, vI l2, vI l3, vI l4, vI l5] [] h1 Q)))))) ∧ (¬ l5 < (1 <<< ((hi σ 12 0 59) &&& 31)) → Q (vI l4) σ)))
theorem sX11_bestSet_6 {d rc rs : Nat} {l1 : Int32} {l2 : Int32} {l3 : Int32} {l4 : Int32} {l5 : Int32} {σ : XH} {Q : XV → XH → Prop} (h : bX11_bestSet_6 d rc rs l1 l2 l3 l4 l5 σ Q) : Ex d rc rs m_X11_bestSet 6 [vR (some (12, 0)), vI l1, vI l2, vI l3, vI l4, vI l5] [] σ Q :=
  xtree_sound (stop := stpX11_bestSet) okX11_bestSet 31 _ _ _ _ _ _ h
def bX11_bestSet_67 (d rc rs : Nat) (l1 : Int32) (l2 : Int32) (l3 : Int32) (l4 : Int32) (l5 : Int32) (σ : XH) (Q : XV → XH → Prop) : Prop :=
  ((1 ≤ d ∧ Ec (d - 1) 0 0 m_X11_worthOf [vR (some (12, 0)), vI l5] σ (kI fun x2 h1 => ((1 ≤ d ∧ Ec (d - 1) 0 0 m_X11_worthOf [vR (some (12, 0)), vI l4] h1 (kI fun x4 h3 => ((x2 = x4 → ((1 ≤ d ∧ Ec (d - 1) 0 0 m_X11_costOf [vR (some (12, 0)), vI l5] h3 (kI fun x6 h5 => ((1 ≤ d ∧ Ec (d - 1) 0 0 m_X11_costOf [vR (some (12, 0)), vI l4] h5 (kI fun x8 h7 => ((x6 < x8 → Ex d rc rs m_X11_bestSet 97 [vR (some (12, 0)), vI l1, vI l2, vI l3, vU, vI l5] [] h7 Q) ∧ (¬ x6 < x8 → Ex d rc rs m_X11_bestSet 101 [vR (some (12, 0)), vI l1, vI l2, vI l3, vI l4, vI l5] [] h7 Q))))))))) ∧ (¬ x2 = x4 → Ex d rc rs m_X11_bestSet 101 [vR (some (12, 0)), vI l1, vI l2, vI l3, vI l4, vI l5] [] h3 Q))))))))
theorem sX11_bestSet_67 {d rc rs : Nat} {l1 : Int32} {l2 : Int32} {l3 : Int32} {l4 : Int32} {l5 : Int32} {σ : XH} {Q : XV → XH → Prop} (h : bX11_bestSet_67 d rc rs l1 l2 l3 l4 l5 σ Q) : Ex d rc rs m_X11_bestSet 67 [vR (some (12, 0)), vI l1, vI l2, vI l3, vI l4, vI l5] [] σ Q :=
  xtree_sound (stop := stpX11_bestSet) okX11_bestSet 16 _ _ _ _ _ _ h
def bX11_bestSet_97 (d rc rs : Nat) (l1 : Int32) (l2 : Int32) (l3 : Int32) (l5 : Int32) (σ : XH) (Q : XV → XH → Prop) : Prop :=
  Ex d rc rs m_X11_bestSet 101 [vR (some (12, 0)), vI l1, vI l2, vI l3, vI l5, vI l5] [] σ Q
theorem sX11_bestSet_97 {d rc rs : Nat} {l1 : Int32} {l2 : Int32} {l3 : Int32} {l5 : Int32} {σ : XH} {Q : XV → XH → Prop} (h : bX11_bestSet_97 d rc rs l1 l2 l3 l5 σ Q) : Ex d rc rs m_X11_bestSet 97 [vR (some (12, 0)), vI l1, vI l2, vI l3, vU, vI l5] [] σ Q :=
  xtree_sound (stop := stpX11_bestSet) okX11_bestSet 4 _ _ _ _ _ _ h
def bX11_bestSet_101 (d rc rs : Nat) (l1 : Int32) (l2 : Int32) (l3 : Int32) (l4 : Int32) (l5 : Int32) (σ : XH) (Q : XV → XH → Prop) : Prop :=
  Ex d rc rs m_X11_bestSet 6 [vR (some (12, 0)), vI l1, vI l2, vI l3, vI l4, vI (l5 + 1)] [] σ Q
theorem sX11_bestSet_101 {d rc rs : Nat} {l1 : Int32} {l2 : Int32} {l3 : Int32} {l4 : Int32} {l5 : Int32} {σ : XH} {Q : XV → XH → Prop} (h : bX11_bestSet_101 d rc rs l1 l2 l3 l4 l5 σ Q) : Ex d rc rs m_X11_bestSet 101 [vR (some (12, 0)), vI l1, vI l2, vI l3, vI l4, vI l5] [] σ Q :=
  xtree_sound (stop := stpX11_bestSet) okX11_bestSet 4 _ _ _ _ _ _ h
/-! SpotTimersModel.isGo(II)Z -/
theorem dX11_isGo_0 : decode cX11_isGo 0 = .ok (.aload_n 0, 1) := by decide +kernel
theorem dX11_isGo_1 : decode cX11_isGo 1 = .ok (.iload_n 1, 1) := by decide +kernel
theorem dX11_isGo_2 : decode cX11_isGo 2 = .ok (.iconst 1, 1) := by decide +kernel
theorem dX11_isGo_3 : decode cX11_isGo 3 = .ok (.iconst 5, 1) := by decide +kernel
theorem dX11_isGo_4 : decode cX11_isGo 4 = .ok (.invokevirtual 222, 3) := by decide +kernel
theorem dX11_isGo_7 : decode cX11_isGo 7 = .ok (.ifCond .eq 19, 3) := by decide +kernel
theorem dX11_isGo_10 : decode cX11_isGo 10 = .ok (.aload_n 0, 1) := by decide +kernel
theorem dX11_isGo_11 : decode cX11_isGo 11 = .ok (.iload_n 2, 1) := by decide +kernel
theorem dX11_isGo_12 : decode cX11_isGo 12 = .ok (.iconst 0, 1) := by decide +kernel
theorem dX11_isGo_13 : decode cX11_isGo 13 = .ok (.sipush 400, 3) := by decide +kernel
theorem dX11_isGo_16 : decode cX11_isGo 16 = .ok (.invokevirtual 222, 3) := by decide +kernel
theorem dX11_isGo_19 : decode cX11_isGo 19 = .ok (.ifCond .eq 7, 3) := by decide +kernel
theorem dX11_isGo_22 : decode cX11_isGo 22 = .ok (.iconst 1, 1) := by decide +kernel
theorem dX11_isGo_23 : decode cX11_isGo 23 = .ok (.goto 4, 3) := by decide +kernel
theorem dX11_isGo_26 : decode cX11_isGo 26 = .ok (.iconst 0, 1) := by decide +kernel
theorem dX11_isGo_27 : decode cX11_isGo 27 = .ok (.ireturn, 1) := by decide +kernel
theorem oX11_isGo_0 : OKI 223 0 (.aload_n 0, 1, [0], 0, 0, []) := And.intro dX11_isGo_0 (And.intro rfl (rfl))
theorem oX11_isGo_1 : OKI 223 1 (.iload_n 1, 2, [1], 0, 0, []) := And.intro dX11_isGo_1 (And.intro rfl (rfl))
theorem oX11_isGo_2 : OKI 223 2 (.iconst 1, 3, [], 1, 0, []) := And.intro dX11_isGo_2 (And.intro rfl (by decide +kernel))
theorem oX11_isGo_3 : OKI 223 3 (.iconst 5, 4, [], 5, 0, []) := And.intro dX11_isGo_3 (And.intro rfl (by decide +kernel))
theorem oX11_isGo_4 : OKI 223 4 (.invokevirtual 222, 7, [141, 4, 13, 0, 0, 1], 0, 0, []) := And.intro dX11_isGo_4 (And.intro rfl (And.intro (by decide) (And.intro (by decide) (And.intro mo_X11_in (And.intro (tm_6 _ (List.mem_of_getElem? (i := 179) rfl) rfl) (And.intro (tm_6 _ (List.mem_of_getElem? (i := 181) rfl) rfl) (And.intro (pm_3 _ (List.mem_of_getElem? (i := 8) rfl)) (Or.inl ⟨(RX11, TX11, 69), rfl, rfl⟩))))))))
theorem oX11_isGo_7 : OKI 223 7 (.ifCond .eq 19, 10, [26], 0, 0, []) := And.intro dX11_isGo_7 (And.intro rfl (by decide))
theorem oX11_isGo_10 : OKI 223 10 (.aload_n 0, 11, [0], 0, 0, []) := And.intro dX11_isGo_10 (And.intro rfl (rfl))
theorem oX11_isGo_11 : OKI 223 11 (.iload_n 2, 12, [2], 0, 0, []) := And.intro dX11_isGo_11 (And.intro rfl (rfl))
theorem oX11_isGo_12 : OKI 223 12 (.iconst 0, 13, [], 0, 0, []) := And.intro dX11_isGo_12 (And.intro rfl (by decide +kernel))
theorem oX11_isGo_13 : OKI 223 13 (.sipush 400, 16, [], 400, 0, []) := And.intro dX11_isGo_13 (And.intro rfl (by decide +kernel))
theorem oX11_isGo_16 : OKI 223 16 (.invokevirtual 222, 19, [141, 4, 13, 0, 0, 1], 0, 0, []) := And.intro dX11_isGo_16 (And.intro rfl (And.intro (by decide) (And.intro (by decide) (And.intro mo_X11_in (And.intro (tm_6 _ (List.mem_of_getElem? (i := 179) rfl) rfl) (And.intro (tm_6 _ (List.mem_of_getElem? (i := 181) rfl) rfl) (And.intro (pm_3 _ (List.mem_of_getElem? (i := 8) rfl)) (Or.inl ⟨(RX11, TX11, 69), rfl, rfl⟩))))))))
theorem oX11_isGo_19 : OKI 223 19 (.ifCond .eq 7, 22, [26], 0, 0, []) := And.intro dX11_isGo_19 (And.intro rfl (by decide))
theorem oX11_isGo_22 : OKI 223 22 (.iconst 1, 23, [], 1, 0, []) := And.intro dX11_isGo_22 (And.intro rfl (by decide +kernel))
theorem oX11_isGo_23 : OKI 223 23 (.goto 4, 26, [27], 0, 0, []) := And.intro dX11_isGo_23 (And.intro rfl (by decide))
theorem oX11_isGo_26 : OKI 223 26 (.iconst 0, 27, [], 0, 0, []) := And.intro dX11_isGo_26 (And.intro rfl (by decide +kernel))
theorem oX11_isGo_27 : OKI 223 27 (.ireturn, 28, [3], 0, 0, []) := And.intro dX11_isGo_27 (Or.inr (Or.inl (And.intro rfl rfl)))
def pfX11_isGo (pc : Nat) : Option XE := (bif Nat.blt pc 12 then (bif Nat.blt pc 4 then (bif Nat.blt pc 2 then (bif Nat.blt pc 1 then (bif Nat.beq pc 0 then some (.aload_n 0, 1, [0], 0, 0, []) else none) else (bif Nat.beq pc 1 then some (.iload_n 1, 2, [1], 0, 0, []) else none)) else (bif Nat.blt pc 3 then (bif Nat.beq pc 2 then some (.iconst 1, 3, [], 1, 0, []) else none) else (bif Nat.beq pc 3 then some (.iconst 5, 4, [], 5, 0, []) else none))) else (bif Nat.blt pc 10 then (bif Nat.blt pc 7 then (bif Nat.beq pc 4 then some (.invokevirtual 222, 7, [141, 4, 13, 0, 0, 1], 0, 0, []) else none) else (bif Nat.beq pc 7 then some (.ifCond .eq 19, 10, [26], 0, 0, []) else none)) else (bif Nat.blt pc 11 then (bif Nat.beq pc 10 then some (.aload_n 0, 11, [0], 0, 0, []) else none) else (bif Nat.beq pc 11 then some (.iload_n 2, 12, [2], 0, 0, []) else none)))) else (bif Nat.blt pc 22 then (bif Nat.blt pc 16 then (bif Nat.blt pc 13 then (bif Nat.beq pc 12 then some (.iconst 0, 13, [], 0, 0, []) else none) else (bif Nat.beq pc 13 then some (.sipush 400, 16, [], 400, 0, []) else none)) else (bif Nat.blt pc 19 then (bif Nat.beq pc 16 then some (.invokevirtual 222, 19, [141, 4, 13, 0, 0, 1], 0, 0, []) else none) else (bif Nat.beq pc 19 then some (.ifCond .eq 7, 22, [26], 0, 0, []) else none))) else (bif Nat.blt pc 26 then (bif Nat.blt pc 23 then (bif Nat.beq pc 22 then some (.iconst 1, 23, [], 1, 0, []) else none) else (bif Nat.beq pc 23 then some (.goto 4, 26, [27], 0, 0, []) else none)) else (bif Nat.blt pc 27 then (bif Nat.beq pc 26 then some (.iconst 0, 27, [], 0, 0, []) else none) else (bif Nat.beq pc 27 then some (.ireturn, 28, [3], 0, 0, []) else none)))))
theorem okX11_isGo : ∀ pc Y, pfX11_isGo pc = some Y → OKI m_X11_isGo pc Y := fun pc Y => ((bt_node (bt_node (bt_node (bt_node (bt_leaf (P := OKI m_X11_isGo) oX11_isGo_0) (bt_leaf (P := OKI m_X11_isGo) oX11_isGo_1)) (bt_node (bt_leaf (P := OKI m_X11_isGo) oX11_isGo_2) (bt_leaf (P := OKI m_X11_isGo) oX11_isGo_3))) (bt_node (bt_node (bt_leaf (P := OKI m_X11_isGo) oX11_isGo_4) (bt_leaf (P := OKI m_X11_isGo) oX11_isGo_7)) (bt_node (bt_leaf (P := OKI m_X11_isGo) oX11_isGo_10) (bt_leaf (P := OKI m_X11_isGo) oX11_isGo_11)))) (bt_node (bt_node (bt_node (bt_leaf (P := OKI m_X11_isGo) oX11_isGo_12) (bt_leaf (P := OKI m_X11_isGo) oX11_isGo_13)) (bt_node (bt_leaf (P := OKI m_X11_isGo) oX11_isGo_16) (bt_leaf (P := OKI m_X11_isGo) oX11_isGo_19))) (bt_node (bt_node (bt_leaf (P := OKI m_X11_isGo) oX11_isGo_22) (bt_leaf (P := OKI m_X11_isGo) oX11_isGo_23)) (bt_node (bt_leaf (P := OKI m_X11_isGo) oX11_isGo_26) (bt_leaf (P := OKI m_X11_isGo) oX11_isGo_27))))) : pfX11_isGo pc = some Y → OKI m_X11_isGo pc Y)
def stpX11_isGo (pc : Nat) : Option (List Bool) := (bif Nat.blt pc 27 then (bif Nat.beq pc 26 then some [false, false, false] else none) else (bif Nat.beq pc 27 then some [false, false, false] else none))
def bX11_isGo_0 (d rc rs : Nat) (a1 : Int32) (a2 : Int32) (σ : XH) (Q : XV → XH → Prop) : Prop :=
  ((1 ≤ d ∧ Ec (d - 1) 0 0 m_X11_in [vR (some (12, 0)), vI a1, vI 1, vI 5] σ (kI fun x2 h1 => ((x2 = 0 → Ex d rc rs m_X11_isGo 26 [vU, vU, vU] [] h1 Q) ∧ (¬ x2 = 0 → ((1 ≤ d ∧ Ec (d - 1) 0 0 m_X11_in [vR (some (12, 0)), vI a2, vI 0, vI 400] h1 (kI fun x4 h3 => ((x4 = 0 → Ex d rc rs m_X11_isGo 26 [vU, vU, vU] [] h3 Q) ∧ (¬ x4 = 0 → Ex d rc rs m_X11_isGo 27 [vU, vU, vU] [vI 1] h3 Q))))))))))
theorem sX11_isGo_0 {d rc rs : Nat} {a1 : Int32} {a2 : Int32} {σ : XH} {Q : XV → XH → Prop} (h : bX11_isGo_0 d rc rs a1 a2 σ Q) : Ex d rc rs m_X11_isGo 0 [vR (some (12, 0)), vI a1, vI a2] [] σ Q :=
  xtree_sound (stop := stpX11_isGo) okX11_isGo 16 _ _ _ _ _ _ h
def bX11_isGo_26 (d rc rs : Nat)  (σ : XH) (Q : XV → XH → Prop) : Prop :=
  Ex d rc rs m_X11_isGo 27 [vU, vU, vU] [vI 0] σ Q
theorem sX11_isGo_26 {d rc rs : Nat}  {σ : XH} {Q : XV → XH → Prop} (h : bX11_isGo_26 d rc rs  σ Q) : Ex d rc rs m_X11_isGo 26 [vU, vU, vU] [] σ Q :=
  xtree_sound (stop := stpX11_isGo) okX11_isGo 3 _ _ _ _ _ _ h
def bX11_isGo_27 (d rc rs : Nat) (q0 : Int32) (σ : XH) (Q : XV → XH → Prop) : Prop :=
  ((q0 = 0 ∨ q0 = 1) ∧ Q (vI q0) σ)
theorem sX11_isGo_27 {d rc rs : Nat} {q0 : Int32} {σ : XH} {Q : XV → XH → Prop} (h : bX11_isGo_27 d rc rs q0 σ Q) : Ex d rc rs m_X11_isGo 27 [vU, vU, vU] [vI q0] σ Q :=
  xtree_sound (stop := stpX11_isGo) okX11_isGo 3 _ _ _ _ _ _ h
/-! SpotTimersModel.go(III)I -/
theorem dX11_go_0 : decode cX11_go 0 = .ok (.aload_n 0, 1) := by decide +kernel
theorem dX11_go_1 : decode cX11_go 1 = .ok (.iload_n 3, 1) := by decide +kernel
theorem dX11_go_2 : decode cX11_go 2 = .ok (.iconst 0, 1) := by decide +kernel
theorem dX11_go_3 : decode cX11_go 3 = .ok (.iconst 2, 1) := by decide +kernel
theorem dX11_go_4 : decode cX11_go 4 = .ok (.invokevirtual 222, 3) := by decide +kernel
theorem dX11_go_7 : decode cX11_go 7 = .ok (.ifCond .ne 5, 3) := by decide +kernel
theorem dX11_go_10 : decode cX11_go 10 = .ok (.iconst (-1), 1) := by decide +kernel
theorem dX11_go_11 : decode cX11_go 11 = .ok (.ireturn, 1) := by decide +kernel
theorem dX11_go_12 : decode cX11_go 12 = .ok (.aload_n 0, 1) := by decide +kernel
theorem dX11_go_13 : decode cX11_go 13 = .ok (.iload_n 1, 1) := by decide +kernel
theorem dX11_go_14 : decode cX11_go 14 = .ok (.iload_n 2, 1) := by decide +kernel
theorem dX11_go_15 : decode cX11_go 15 = .ok (.invokevirtual 430, 3) := by decide +kernel
theorem dX11_go_18 : decode cX11_go 18 = .ok (.ifCond .ne 6, 3) := by decide +kernel
theorem dX11_go_21 : decode cX11_go 21 = .ok (.bipush (-2), 2) := by decide +kernel
theorem dX11_go_23 : decode cX11_go 23 = .ok (.ireturn, 1) := by decide +kernel
theorem dX11_go_24 : decode cX11_go 24 = .ok (.aload_n 0, 1) := by decide +kernel
theorem dX11_go_25 : decode cX11_go 25 = .ok (.iload_n 1, 1) := by decide +kernel
theorem dX11_go_26 : decode cX11_go 26 = .ok (.iload_n 2, 1) := by decide +kernel
theorem dX11_go_27 : decode cX11_go 27 = .ok (.iconst 0, 1) := by decide +kernel
theorem dX11_go_28 : decode cX11_go 28 = .ok (.invokevirtual 433, 3) := by decide +kernel
theorem dX11_go_31 : decode cX11_go 31 = .ok (.istore 4, 2) := by decide +kernel
theorem dX11_go_33 : decode cX11_go 33 = .ok (.iload 4, 2) := by decide +kernel
theorem dX11_go_35 : decode cX11_go 35 = .ok (.ifCond .ge 8, 3) := by decide +kernel
theorem dX11_go_38 : decode cX11_go 38 = .ok (.bipush (-3), 2) := by decide +kernel
theorem dX11_go_40 : decode cX11_go 40 = .ok (.goto 32, 3) := by decide +kernel
theorem dX11_go_43 : decode cX11_go 43 = .ok (.iload_n 3, 1) := by decide +kernel
theorem dX11_go_44 : decode cX11_go 44 = .ok (.ifCond .ne 12, 3) := by decide +kernel
theorem dX11_go_47 : decode cX11_go 47 = .ok (.aload_n 0, 1) := by decide +kernel
theorem dX11_go_48 : decode cX11_go 48 = .ok (.iload 4, 2) := by decide +kernel
theorem dX11_go_50 : decode cX11_go 50 = .ok (.invokevirtual 427, 3) := by decide +kernel
theorem dX11_go_53 : decode cX11_go 53 = .ok (.goto 19, 3) := by decide +kernel
theorem dX11_go_56 : decode cX11_go 56 = .ok (.iload_n 3, 1) := by decide +kernel
theorem dX11_go_57 : decode cX11_go 57 = .ok (.iconst 1, 1) := by decide +kernel
theorem dX11_go_58 : decode cX11_go 58 = .ok (.if_icmp .ne 8, 3) := by decide +kernel
theorem dX11_go_61 : decode cX11_go 61 = .ok (.iload 4, 2) := by decide +kernel
theorem dX11_go_63 : decode cX11_go 63 = .ok (.goto 9, 3) := by decide +kernel
theorem dX11_go_66 : decode cX11_go 66 = .ok (.aload_n 0, 1) := by decide +kernel
theorem dX11_go_67 : decode cX11_go 67 = .ok (.iload 4, 2) := by decide +kernel
theorem dX11_go_69 : decode cX11_go 69 = .ok (.invokevirtual 424, 3) := by decide +kernel
theorem dX11_go_72 : decode cX11_go 72 = .ok (.ireturn, 1) := by decide +kernel
theorem oX11_go_0 : OKI 224 0 (.aload_n 0, 1, [0], 0, 0, []) := And.intro dX11_go_0 (And.intro rfl (rfl))
theorem oX11_go_1 : OKI 224 1 (.iload_n 3, 2, [3], 0, 0, []) := And.intro dX11_go_1 (And.intro rfl (rfl))
theorem oX11_go_2 : OKI 224 2 (.iconst 0, 3, [], 0, 0, []) := And.intro dX11_go_2 (And.intro rfl (by decide +kernel))
theorem oX11_go_3 : OKI 224 3 (.iconst 2, 4, [], 2, 0, []) := And.intro dX11_go_3 (And.intro rfl (by decide +kernel))
theorem oX11_go_4 : OKI 224 4 (.invokevirtual 222, 7, [141, 4, 13, 0, 0, 1], 0, 0, []) := And.intro dX11_go_4 (And.intro rfl (And.intro (by decide) (And.intro (by decide) (And.intro mo_X11_in (And.intro (tm_6 _ (List.mem_of_getElem? (i := 179) rfl) rfl) (And.intro (tm_6 _ (List.mem_of_getElem? (i := 181) rfl) rfl) (And.intro (pm_3 _ (List.mem_of_getElem? (i := 8) rfl)) (Or.inl ⟨(RX11, TX11, 69), rfl, rfl⟩))))))))
theorem oX11_go_7 : OKI 224 7 (.ifCond .ne 5, 10, [12], 0, 0, []) := And.intro dX11_go_7 (And.intro rfl (by decide))
theorem oX11_go_10 : OKI 224 10 (.iconst (-1), 11, [], (-1), 0, []) := And.intro dX11_go_10 (And.intro rfl (by decide +kernel))
theorem oX11_go_11 : OKI 224 11 (.ireturn, 12, [0], 0, 0, []) := And.intro dX11_go_11 (Or.inl (And.intro rfl rfl))
theorem oX11_go_12 : OKI 224 12 (.aload_n 0, 13, [0], 0, 0, []) := And.intro dX11_go_12 (And.intro rfl (rfl))
theorem oX11_go_13 : OKI 224 13 (.iload_n 1, 14, [1], 0, 0, []) := And.intro dX11_go_13 (And.intro rfl (rfl))
theorem oX11_go_14 : OKI 224 14 (.iload_n 2, 15, [2], 0, 0, []) := And.intro dX11_go_14 (And.intro rfl (rfl))
theorem oX11_go_15 : OKI 224 15 (.invokevirtual 430, 18, [223, 3, 13, 0, 0, 1], 0, 0, []) := And.intro dX11_go_15 (And.intro rfl (And.intro (by decide) (And.intro (by decide) (And.intro mo_X11_isGo (And.intro (tm_8 _ (List.mem_of_getElem? (i := 41) rfl) rfl) (And.intro (tm_8 _ (List.mem_of_getElem? (i := 43) rfl) rfl) (And.intro (pm_6 _ (List.mem_of_getElem? (i := 10) rfl)) (Or.inl ⟨(RX11, TX11, 69), rfl, rfl⟩))))))))
theorem oX11_go_18 : OKI 224 18 (.ifCond .ne 6, 21, [24], 0, 0, []) := And.intro dX11_go_18 (And.intro rfl (by decide))
theorem oX11_go_21 : OKI 224 21 (.bipush (-2), 23, [], (-2), 0, []) := And.intro dX11_go_21 (And.intro rfl (by decide +kernel))
theorem oX11_go_23 : OKI 224 23 (.ireturn, 24, [0], 0, 0, []) := And.intro dX11_go_23 (Or.inl (And.intro rfl rfl))
theorem oX11_go_24 : OKI 224 24 (.aload_n 0, 25, [0], 0, 0, []) := And.intro dX11_go_24 (And.intro rfl (rfl))
theorem oX11_go_25 : OKI 224 25 (.iload_n 1, 26, [1], 0, 0, []) := And.intro dX11_go_25 (And.intro rfl (rfl))
theorem oX11_go_26 : OKI 224 26 (.iload_n 2, 27, [2], 0, 0, []) := And.intro dX11_go_26 (And.intro rfl (rfl))
theorem oX11_go_27 : OKI 224 27 (.iconst 0, 28, [], 0, 0, []) := And.intro dX11_go_27 (And.intro rfl (by decide +kernel))
theorem oX11_go_28 : OKI 224 28 (.invokevirtual 433, 31, [222, 4, 13, 0, 0, 1], 0, 0, []) := And.intro dX11_go_28 (And.intro rfl (And.intro (by decide) (And.intro (by decide) (And.intro mo_X11_bestSet (And.intro (tm_8 _ (List.mem_of_getElem? (i := 45) rfl) rfl) (And.intro (tm_8 _ (List.mem_of_getElem? (i := 47) rfl) rfl) (And.intro (pm_6 _ (List.mem_of_getElem? (i := 11) rfl)) (Or.inl ⟨(RX11, TX11, 69), rfl, rfl⟩))))))))
theorem oX11_go_31 : OKI 224 31 (.istore 4, 33, [4], 0, 0, []) := And.intro dX11_go_31 (And.intro rfl (And.intro rfl (by decide)))
theorem oX11_go_33 : OKI 224 33 (.iload 4, 35, [4], 0, 0, []) := And.intro dX11_go_33 (And.intro rfl (rfl))
theorem oX11_go_35 : OKI 224 35 (.ifCond .ge 8, 38, [43], 0, 0, []) := And.intro dX11_go_35 (And.intro rfl (by decide))
theorem oX11_go_38 : OKI 224 38 (.bipush (-3), 40, [], (-3), 0, []) := And.intro dX11_go_38 (And.intro rfl (by decide +kernel))
theorem oX11_go_40 : OKI 224 40 (.goto 32, 43, [72], 0, 0, []) := And.intro dX11_go_40 (And.intro rfl (by decide))
theorem oX11_go_43 : OKI 224 43 (.iload_n 3, 44, [3], 0, 0, []) := And.intro dX11_go_43 (And.intro rfl (rfl))
theorem oX11_go_44 : OKI 224 44 (.ifCond .ne 12, 47, [56], 0, 0, []) := And.intro dX11_go_44 (And.intro rfl (by decide))
theorem oX11_go_47 : OKI 224 47 (.aload_n 0, 48, [0], 0, 0, []) := And.intro dX11_go_47 (And.intro rfl (rfl))
theorem oX11_go_48 : OKI 224 48 (.iload 4, 50, [4], 0, 0, []) := And.intro dX11_go_48 (And.intro rfl (rfl))
theorem oX11_go_50 : OKI 224 50 (.invokevirtual 427, 53, [220, 2, 13, 0, 0, 1], 0, 0, []) := And.intro dX11_go_50 (And.intro rfl (And.intro (by decide) (And.intro (by decide) (And.intro mo_X11_worthOf (And.intro (tm_8 _ (List.mem_of_getElem? (i := 53) rfl) rfl) (And.intro (tm_8 _ (List.mem_of_getElem? (i := 55) rfl) rfl) (And.intro (pm_6 _ (List.mem_of_getElem? (i := 13) rfl)) (Or.inl ⟨(RX11, TX11, 69), rfl, rfl⟩))))))))
theorem oX11_go_53 : OKI 224 53 (.goto 19, 56, [72], 0, 0, []) := And.intro dX11_go_53 (And.intro rfl (by decide))
theorem oX11_go_56 : OKI 224 56 (.iload_n 3, 57, [3], 0, 0, []) := And.intro dX11_go_56 (And.intro rfl (rfl))
theorem oX11_go_57 : OKI 224 57 (.iconst 1, 58, [], 1, 0, []) := And.intro dX11_go_57 (And.intro rfl (by decide +kernel))
theorem oX11_go_58 : OKI 224 58 (.if_icmp .ne 8, 61, [66], 0, 0, []) := And.intro dX11_go_58 (And.intro rfl (by decide))
theorem oX11_go_61 : OKI 224 61 (.iload 4, 63, [4], 0, 0, []) := And.intro dX11_go_61 (And.intro rfl (rfl))
theorem oX11_go_63 : OKI 224 63 (.goto 9, 66, [72], 0, 0, []) := And.intro dX11_go_63 (And.intro rfl (by decide))
theorem oX11_go_66 : OKI 224 66 (.aload_n 0, 67, [0], 0, 0, []) := And.intro dX11_go_66 (And.intro rfl (rfl))
theorem oX11_go_67 : OKI 224 67 (.iload 4, 69, [4], 0, 0, []) := And.intro dX11_go_67 (And.intro rfl (rfl))
theorem oX11_go_69 : OKI 224 69 (.invokevirtual 424, 72, [221, 2, 13, 0, 0, 1], 0, 0, []) := And.intro dX11_go_69 (And.intro rfl (And.intro (by decide) (And.intro (by decide) (And.intro mo_X11_costOf (And.intro (tm_8 _ (List.mem_of_getElem? (i := 49) rfl) rfl) (And.intro (tm_8 _ (List.mem_of_getElem? (i := 51) rfl) rfl) (And.intro (pm_6 _ (List.mem_of_getElem? (i := 12) rfl)) (Or.inl ⟨(RX11, TX11, 69), rfl, rfl⟩))))))))
theorem oX11_go_72 : OKI 224 72 (.ireturn, 73, [0], 0, 0, []) := And.intro dX11_go_72 (Or.inl (And.intro rfl rfl))
def pfX11_go (pc : Nat) : Option XE := (bif Nat.blt pc 31 then (bif Nat.blt pc 14 then (bif Nat.blt pc 7 then (bif Nat.blt pc 2 then (bif Nat.blt pc 1 then (bif Nat.beq pc 0 then some (.aload_n 0, 1, [0], 0, 0, []) else none) else (bif Nat.beq pc 1 then some (.iload_n 3, 2, [3], 0, 0, []) else none)) else (bif Nat.blt pc 3 then (bif Nat.beq pc 2 then some (.iconst 0, 3, [], 0, 0, []) else none) else (bif Nat.blt pc 4 then (bif Nat.beq pc 3 then some (.iconst 2, 4, [], 2, 0, []) else none) else (bif Nat.beq pc 4 then some (.invokevirtual 222, 7, [141, 4, 13, 0, 0, 1], 0, 0, []) else none)))) else (bif Nat.blt pc 11 then (bif Nat.blt pc 10 then (bif Nat.beq pc 7 then some (.ifCond .ne 5, 10, [12], 0, 0, []) else none) else (bif Nat.beq pc 10 then some (.iconst (-1), 11, [], (-1), 0, []) else none)) else (bif Nat.blt pc 12 then (bif Nat.beq pc 11 then some (.ireturn, 12, [0], 0, 0, []) else none) else (bif Nat.blt pc 13 then (bif Nat.beq pc 12 then some (.aload_n 0, 13, [0], 0, 0, []) else none) else (bif Nat.beq pc 13 then some (.iload_n 1, 14, [1], 0, 0, []) else none))))) else (bif Nat.blt pc 24 then (bif Nat.blt pc 18 then (bif Nat.blt pc 15 then (bif Nat.beq pc 14 then some (.iload_n 2, 15, [2], 0, 0, []) else none) else (bif Nat.beq pc 15 then some (.invokevirtual 430, 18, [223, 3, 13, 0, 0, 1], 0, 0, []) else none)) else (bif Nat.blt pc 21 then (bif Nat.beq pc 18 then some (.ifCond .ne 6, 21, [24], 0, 0, []) else none) else (bif Nat.blt pc 23 then (bif Nat.beq pc 21 then some (.bipush (-2), 23, [], (-2), 0, []) else none) else (bif Nat.beq pc 23 then some (.ireturn, 24, [0], 0, 0, []) else none)))) else (bif Nat.blt pc 26 then (bif Nat.blt pc 25 then (bif Nat.beq pc 24 then some (.aload_n 0, 25, [0], 0, 0, []) else none) else (bif Nat.beq pc 25 then some (.iload_n 1, 26, [1], 0, 0, []) else none)) else (bif Nat.blt pc 27 then (bif Nat.beq pc 26 then some (.iload_n 2, 27, [2], 0, 0, []) else none) else (bif Nat.blt pc 28 then (bif Nat.beq pc 27 then some (.iconst 0, 28, [], 0, 0, []) else none) else (bif Nat.beq pc 28 then some (.invokevirtual 433, 31, [222, 4, 13, 0, 0, 1], 0, 0, []) else none)))))) else (bif Nat.blt pc 53 then (bif Nat.blt pc 43 then (bif Nat.blt pc 35 then (bif Nat.blt pc 33 then (bif Nat.beq pc 31 then some (.istore 4, 33, [4], 0, 0, []) else none) else (bif Nat.beq pc 33 then some (.iload 4, 35, [4], 0, 0, []) else none)) else (bif Nat.blt pc 38 then (bif Nat.beq pc 35 then some (.ifCond .ge 8, 38, [43], 0, 0, []) else none) else (bif Nat.blt pc 40 then (bif Nat.beq pc 38 then some (.bipush (-3), 40, [], (-3), 0, []) else none) else (bif Nat.beq pc 40 then some (.goto 32, 43, [72], 0, 0, []) else none)))) else (bif Nat.blt pc 47 then (bif Nat.blt pc 44 then (bif Nat.beq pc 43 then some (.iload_n 3, 44, [3], 0, 0, []) else none) else (bif Nat.beq pc 44 then some (.ifCond .ne 12, 47, [56], 0, 0, []) else none)) else (bif Nat.blt pc 48 then (bif Nat.beq pc 47 then some (.aload_n 0, 48, [0], 0, 0, []) else none) else (bif Nat.blt pc 50 then (bif Nat.beq pc 48 then some (.iload 4, 50, [4], 0, 0, []) else none) else (bif Nat.beq pc 50 then some (.invokevirtual 427, 53, [220, 2, 13, 0, 0, 1], 0, 0, []) else none))))) else (bif Nat.blt pc 63 then (bif Nat.blt pc 57 then (bif Nat.blt pc 56 then (bif Nat.beq pc 53 then some (.goto 19, 56, [72], 0, 0, []) else none) else (bif Nat.beq pc 56 then some (.iload_n 3, 57, [3], 0, 0, []) else none)) else (bif Nat.blt pc 58 then (bif Nat.beq pc 57 then some (.iconst 1, 58, [], 1, 0, []) else none) else (bif Nat.blt pc 61 then (bif Nat.beq pc 58 then some (.if_icmp .ne 8, 61, [66], 0, 0, []) else none) else (bif Nat.beq pc 61 then some (.iload 4, 63, [4], 0, 0, []) else none)))) else (bif Nat.blt pc 67 then (bif Nat.blt pc 66 then (bif Nat.beq pc 63 then some (.goto 9, 66, [72], 0, 0, []) else none) else (bif Nat.beq pc 66 then some (.aload_n 0, 67, [0], 0, 0, []) else none)) else (bif Nat.blt pc 69 then (bif Nat.beq pc 67 then some (.iload 4, 69, [4], 0, 0, []) else none) else (bif Nat.blt pc 72 then (bif Nat.beq pc 69 then some (.invokevirtual 424, 72, [221, 2, 13, 0, 0, 1], 0, 0, []) else none) else (bif Nat.beq pc 72 then some (.ireturn, 73, [0], 0, 0, []) else none)))))))
theorem okX11_go : ∀ pc Y, pfX11_go pc = some Y → OKI m_X11_go pc Y := fun pc Y => ((bt_node (bt_node (bt_node (bt_node (bt_node (bt_leaf (P := OKI m_X11_go) oX11_go_0) (bt_leaf (P := OKI m_X11_go) oX11_go_1)) (bt_node (bt_leaf (P := OKI m_X11_go) oX11_go_2) (bt_node (bt_leaf (P := OKI m_X11_go) oX11_go_3) (bt_leaf (P := OKI m_X11_go) oX11_go_4)))) (bt_node (bt_node (bt_leaf (P := OKI m_X11_go) oX11_go_7) (bt_leaf (P := OKI m_X11_go) oX11_go_10)) (bt_node (bt_leaf (P := OKI m_X11_go) oX11_go_11) (bt_node (bt_leaf (P := OKI m_X11_go) oX11_go_12) (bt_leaf (P := OKI m_X11_go) oX11_go_13))))) (bt_node (bt_node (bt_node (bt_leaf (P := OKI m_X11_go) oX11_go_14) (bt_leaf (P := OKI m_X11_go) oX11_go_15)) (bt_node (bt_leaf (P := OKI m_X11_go) oX11_go_18) (bt_node (bt_leaf (P := OKI m_X11_go) oX11_go_21) (bt_leaf (P := OKI m_X11_go) oX11_go_23)))) (bt_node (bt_node (bt_leaf (P := OKI m_X11_go) oX11_go_24) (bt_leaf (P := OKI m_X11_go) oX11_go_25)) (bt_node (bt_leaf (P := OKI m_X11_go) oX11_go_26) (bt_node (bt_leaf (P := OKI m_X11_go) oX11_go_27) (bt_leaf (P := OKI m_X11_go) oX11_go_28)))))) (bt_node (bt_node (bt_node (bt_node (bt_leaf (P := OKI m_X11_go) oX11_go_31) (bt_leaf (P := OKI m_X11_go) oX11_go_33)) (bt_node (bt_leaf (P := OKI m_X11_go) oX11_go_35) (bt_node (bt_leaf (P := OKI m_X11_go) oX11_go_38) (bt_leaf (P := OKI m_X11_go) oX11_go_40)))) (bt_node (bt_node (bt_leaf (P := OKI m_X11_go) oX11_go_43) (bt_leaf (P := OKI m_X11_go) oX11_go_44)) (bt_node (bt_leaf (P := OKI m_X11_go) oX11_go_47) (bt_node (bt_leaf (P := OKI m_X11_go) oX11_go_48) (bt_leaf (P := OKI m_X11_go) oX11_go_50))))) (bt_node (bt_node (bt_node (bt_leaf (P := OKI m_X11_go) oX11_go_53) (bt_leaf (P := OKI m_X11_go) oX11_go_56)) (bt_node (bt_leaf (P := OKI m_X11_go) oX11_go_57) (bt_node (bt_leaf (P := OKI m_X11_go) oX11_go_58) (bt_leaf (P := OKI m_X11_go) oX11_go_61)))) (bt_node (bt_node (bt_leaf (P := OKI m_X11_go) oX11_go_63) (bt_leaf (P := OKI m_X11_go) oX11_go_66)) (bt_node (bt_leaf (P := OKI m_X11_go) oX11_go_67) (bt_node (bt_leaf (P := OKI m_X11_go) oX11_go_69) (bt_leaf (P := OKI m_X11_go) oX11_go_72))))))) : pfX11_go pc = some Y → OKI m_X11_go pc Y)
def stpX11_go (pc : Nat) : Option (List Bool) := (bif Nat.blt pc 72 then (bif Nat.beq pc 56 then some [true, false, false, true, true] else none) else (bif Nat.beq pc 72 then some [false, false, false, false, false] else none))
def bX11_go_0 (d rc rs : Nat) (a1 : Int32) (a2 : Int32) (a3 : Int32) (σ : XH) (Q : XV → XH → Prop) : Prop :=
  ((1 ≤ d ∧ Ec (d - 1) 0 0 m_X11_in [vR (some (12, 0)), vI a3, vI 0, vI 2] σ (kI fun x2 h1 => ((x2 = 0 → Q (vI (-1)) h1) ∧ (¬ x2 = 0 → ((1 ≤ d ∧ Ec (d - 1) 0 0 m_X11_isGo [vR (some (12, 0)), vI a1, vI a2] h1 (kI fun x4 h3 => ((x4 = 0 → Q (vI (-2)) h3) ∧ (¬ x4 = 0 → ((1 ≤ d ∧ Ec (d - 1) 0 0 m_X11_bestSet [vR (some (12, 0)), vI a1, vI a2, vI 0] h3 (kI fun x6 h5 => ((x6 < 0 → Ex d rc rs m_X11_go 72 [vU, vU, vU, vU, vU] [vI (-3)] h5 Q) ∧ (¬ x6 < 0 → ((a3 = 0 → ((1 ≤ d ∧ Ec (d - 1) 0 0 m_X11_worthOf [vR (some (12, 0)), vI x6] h5 (kI fun x8 h7 => Ex d rc rs m_X11_go 72 [vU, vU, vU, vU, vU] [vI x8] h7 Q)))) ∧ (¬ a3 = 0 → Ex d rc rs m_X11_go 56 [vR (some (12, 0)), vU, vU, vI a3, vI x6] [] h5 Q)))))))))))))))))
theorem sX11_go_0 {d rc rs : Nat} {a1 : Int32} {a2 : Int32} {a3 : Int32} {σ : XH} {Q : XV → XH → Prop} (h : bX11_go_0 d rc rs a1 a2 a3 σ Q) : Ex d rc rs m_X11_go 0 [vR (some (12, 0)), vI a1, vI a2, vI a3, vU] [] σ Q :=
  xtree_sound (stop := stpX11_go) okX11_go 27 _ _ _ _ _ _ h
def bX11_go_56 (d rc rs : Nat) (l3 : Int32) (l4 : Int32) (σ : XH) (Q : XV → XH → Prop) : Prop :=
  ((l3 = 1 → Ex d rc rs m_X11_go 72 [vU, vU, vU, vU, vU] [vI l4] σ Q) ∧ (¬ l3 = 1 → ((1 ≤ d ∧ Ec (d - 1) 0 0 m_X11_costOf [vR (some (12, 0)), vI l4] σ (kI fun x2 h1 => Ex d rc rs m_X11_go 72 [vU, vU, vU, vU, vU] [vI x2] h1 Q)))))
theorem sX11_go_56 {d rc rs : Nat} {l3 : Int32} {l4 : Int32} {σ : XH} {Q : XV → XH → Prop} (h : bX11_go_56 d rc rs l3 l4 σ Q) : Ex d rc rs m_X11_go 56 [vR (some (12, 0)), vU, vU, vI l3, vI l4] [] σ Q :=
  xtree_sound (stop := stpX11_go) okX11_go 8 _ _ _ _ _ _ h
def bX11_go_72 (d rc rs : Nat) (q0 : Int32) (σ : XH) (Q : XV → XH → Prop) : Prop :=
  Q (vI q0) σ
theorem sX11_go_72 {d rc rs : Nat} {q0 : Int32} {σ : XH} {Q : XV → XH → Prop} (h : bX11_go_72 d rc rs q0 σ Q) : Ex d rc rs m_X11_go 72 [vU, vU, vU, vU, vU] [vI q0] σ Q :=
  xtree_sound (stop := stpX11_go) okX11_go 3 _ _ _ _ _ _ h
/-! SpotTimersModel.lost(III)I -/
theorem dX11_lost_0 : decode cX11_lost 0 = .ok (.aload_n 0, 1) := by decide +kernel
theorem dX11_lost_1 : decode cX11_lost 1 = .ok (.iload_n 3, 1) := by decide +kernel
theorem dX11_lost_2 : decode cX11_lost 2 = .ok (.iconst 0, 1) := by decide +kernel
theorem dX11_lost_3 : decode cX11_lost 3 = .ok (.aload_n 0, 1) := by decide +kernel
theorem dX11_lost_4 : decode cX11_lost 4 = .ok (.getfield 191, 3) := by decide +kernel
theorem dX11_lost_7 : decode cX11_lost 7 = .ok (.iconst 1, 1) := by decide +kernel
theorem dX11_lost_8 : decode cX11_lost 8 = .ok (.isub, 1) := by decide +kernel
theorem dX11_lost_9 : decode cX11_lost 9 = .ok (.invokevirtual 222, 3) := by decide +kernel
theorem dX11_lost_12 : decode cX11_lost 12 = .ok (.ifCond .ne 5, 3) := by decide +kernel
theorem dX11_lost_15 : decode cX11_lost 15 = .ok (.iconst (-1), 1) := by decide +kernel
theorem dX11_lost_16 : decode cX11_lost 16 = .ok (.ireturn, 1) := by decide +kernel
theorem dX11_lost_17 : decode cX11_lost 17 = .ok (.aload_n 0, 1) := by decide +kernel
theorem dX11_lost_18 : decode cX11_lost 18 = .ok (.iload_n 1, 1) := by decide +kernel
theorem dX11_lost_19 : decode cX11_lost 19 = .ok (.iload_n 2, 1) := by decide +kernel
theorem dX11_lost_20 : decode cX11_lost 20 = .ok (.invokevirtual 430, 3) := by decide +kernel
theorem dX11_lost_23 : decode cX11_lost 23 = .ok (.ifCond .ne 6, 3) := by decide +kernel
theorem dX11_lost_26 : decode cX11_lost 26 = .ok (.bipush (-2), 2) := by decide +kernel
theorem dX11_lost_28 : decode cX11_lost 28 = .ok (.ireturn, 1) := by decide +kernel
theorem dX11_lost_29 : decode cX11_lost 29 = .ok (.aload_n 0, 1) := by decide +kernel
theorem dX11_lost_30 : decode cX11_lost 30 = .ok (.iload_n 1, 1) := by decide +kernel
theorem dX11_lost_31 : decode cX11_lost 31 = .ok (.iload_n 2, 1) := by decide +kernel
theorem dX11_lost_32 : decode cX11_lost 32 = .ok (.iconst 0, 1) := by decide +kernel
theorem dX11_lost_33 : decode cX11_lost 33 = .ok (.invokevirtual 433, 3) := by decide +kernel
theorem dX11_lost_36 : decode cX11_lost 36 = .ok (.istore 4, 2) := by decide +kernel
theorem dX11_lost_38 : decode cX11_lost 38 = .ok (.aload_n 0, 1) := by decide +kernel
theorem dX11_lost_39 : decode cX11_lost 39 = .ok (.iload_n 1, 1) := by decide +kernel
theorem dX11_lost_40 : decode cX11_lost 40 = .ok (.iload_n 2, 1) := by decide +kernel
theorem dX11_lost_41 : decode cX11_lost 41 = .ok (.iconst 1, 1) := by decide +kernel
theorem dX11_lost_42 : decode cX11_lost 42 = .ok (.iload_n 3, 1) := by decide +kernel
theorem dX11_lost_43 : decode cX11_lost 43 = .ok (.ishl, 1) := by decide +kernel
theorem dX11_lost_44 : decode cX11_lost 44 = .ok (.invokevirtual 433, 3) := by decide +kernel
theorem dX11_lost_47 : decode cX11_lost 47 = .ok (.istore 5, 2) := by decide +kernel
theorem dX11_lost_49 : decode cX11_lost 49 = .ok (.iload 4, 2) := by decide +kernel
theorem dX11_lost_51 : decode cX11_lost 51 = .ok (.ifCond .lt 8, 3) := by decide +kernel
theorem dX11_lost_54 : decode cX11_lost 54 = .ok (.iload 5, 2) := by decide +kernel
theorem dX11_lost_56 : decode cX11_lost 56 = .ok (.ifCond .ge 8, 3) := by decide +kernel
theorem dX11_lost_59 : decode cX11_lost 59 = .ok (.bipush (-3), 2) := by decide +kernel
theorem dX11_lost_61 : decode cX11_lost 61 = .ok (.goto 16, 3) := by decide +kernel
theorem dX11_lost_64 : decode cX11_lost 64 = .ok (.aload_n 0, 1) := by decide +kernel
theorem dX11_lost_65 : decode cX11_lost 65 = .ok (.iload 4, 2) := by decide +kernel
theorem dX11_lost_67 : decode cX11_lost 67 = .ok (.invokevirtual 427, 3) := by decide +kernel
theorem dX11_lost_70 : decode cX11_lost 70 = .ok (.aload_n 0, 1) := by decide +kernel
theorem dX11_lost_71 : decode cX11_lost 71 = .ok (.iload 5, 2) := by decide +kernel
theorem dX11_lost_73 : decode cX11_lost 73 = .ok (.invokevirtual 427, 3) := by decide +kernel
theorem dX11_lost_76 : decode cX11_lost 76 = .ok (.isub, 1) := by decide +kernel
theorem dX11_lost_77 : decode cX11_lost 77 = .ok (.ireturn, 1) := by decide +kernel
theorem oX11_lost_0 : OKI 225 0 (.aload_n 0, 1, [0], 0, 0, []) := And.intro dX11_lost_0 (And.intro rfl (rfl))
theorem oX11_lost_1 : OKI 225 1 (.iload_n 3, 2, [3], 0, 0, []) := And.intro dX11_lost_1 (And.intro rfl (rfl))
theorem oX11_lost_2 : OKI 225 2 (.iconst 0, 3, [], 0, 0, []) := And.intro dX11_lost_2 (And.intro rfl (by decide +kernel))
theorem oX11_lost_3 : OKI 225 3 (.aload_n 0, 4, [0], 0, 0, []) := And.intro dX11_lost_3 (And.intro rfl (rfl))
theorem oX11_lost_4 : OKI 225 4 (.getfield 191, 7, [12, 59, 0], 0, 0, []) := And.intro dX11_lost_4 (And.intro rfl (⟨(RX11, TX11, 69), "SpotTimersModel", rfl, by decide, tm_6 _ (List.mem_of_getElem? (i := 25) rfl) rfl, Or.inl rfl, Or.inr (Or.inr (And.intro rfl (Or.inl rfl)))⟩))
theorem oX11_lost_7 : OKI 225 7 (.iconst 1, 8, [], 1, 0, []) := And.intro dX11_lost_7 (And.intro rfl (by decide +kernel))
theorem oX11_lost_8 : OKI 225 8 (.isub, 9, [], 0, 0, []) := And.intro dX11_lost_8 rfl
theorem oX11_lost_9 : OKI 225 9 (.invokevirtual 222, 12, [141, 4, 13, 0, 0, 1], 0, 0, []) := And.intro dX11_lost_9 (And.intro rfl (And.intro (by decide) (And.intro (by decide) (And.intro mo_X11_in (And.intro (tm_6 _ (List.mem_of_getElem? (i := 179) rfl) rfl) (And.intro (tm_6 _ (List.mem_of_getElem? (i := 181) rfl) rfl) (And.intro (pm_3 _ (List.mem_of_getElem? (i := 8) rfl)) (Or.inl ⟨(RX11, TX11, 69), rfl, rfl⟩))))))))
theorem oX11_lost_12 : OKI 225 12 (.ifCond .ne 5, 15, [17], 0, 0, []) := And.intro dX11_lost_12 (And.intro rfl (by decide))
theorem oX11_lost_15 : OKI 225 15 (.iconst (-1), 16, [], (-1), 0, []) := And.intro dX11_lost_15 (And.intro rfl (by decide +kernel))
theorem oX11_lost_16 : OKI 225 16 (.ireturn, 17, [0], 0, 0, []) := And.intro dX11_lost_16 (Or.inl (And.intro rfl rfl))
theorem oX11_lost_17 : OKI 225 17 (.aload_n 0, 18, [0], 0, 0, []) := And.intro dX11_lost_17 (And.intro rfl (rfl))
theorem oX11_lost_18 : OKI 225 18 (.iload_n 1, 19, [1], 0, 0, []) := And.intro dX11_lost_18 (And.intro rfl (rfl))
theorem oX11_lost_19 : OKI 225 19 (.iload_n 2, 20, [2], 0, 0, []) := And.intro dX11_lost_19 (And.intro rfl (rfl))
theorem oX11_lost_20 : OKI 225 20 (.invokevirtual 430, 23, [223, 3, 13, 0, 0, 1], 0, 0, []) := And.intro dX11_lost_20 (And.intro rfl (And.intro (by decide) (And.intro (by decide) (And.intro mo_X11_isGo (And.intro (tm_8 _ (List.mem_of_getElem? (i := 41) rfl) rfl) (And.intro (tm_8 _ (List.mem_of_getElem? (i := 43) rfl) rfl) (And.intro (pm_6 _ (List.mem_of_getElem? (i := 10) rfl)) (Or.inl ⟨(RX11, TX11, 69), rfl, rfl⟩))))))))
theorem oX11_lost_23 : OKI 225 23 (.ifCond .ne 6, 26, [29], 0, 0, []) := And.intro dX11_lost_23 (And.intro rfl (by decide))
theorem oX11_lost_26 : OKI 225 26 (.bipush (-2), 28, [], (-2), 0, []) := And.intro dX11_lost_26 (And.intro rfl (by decide +kernel))
theorem oX11_lost_28 : OKI 225 28 (.ireturn, 29, [0], 0, 0, []) := And.intro dX11_lost_28 (Or.inl (And.intro rfl rfl))
theorem oX11_lost_29 : OKI 225 29 (.aload_n 0, 30, [0], 0, 0, []) := And.intro dX11_lost_29 (And.intro rfl (rfl))
theorem oX11_lost_30 : OKI 225 30 (.iload_n 1, 31, [1], 0, 0, []) := And.intro dX11_lost_30 (And.intro rfl (rfl))
theorem oX11_lost_31 : OKI 225 31 (.iload_n 2, 32, [2], 0, 0, []) := And.intro dX11_lost_31 (And.intro rfl (rfl))
theorem oX11_lost_32 : OKI 225 32 (.iconst 0, 33, [], 0, 0, []) := And.intro dX11_lost_32 (And.intro rfl (by decide +kernel))
theorem oX11_lost_33 : OKI 225 33 (.invokevirtual 433, 36, [222, 4, 13, 0, 0, 1], 0, 0, []) := And.intro dX11_lost_33 (And.intro rfl (And.intro (by decide) (And.intro (by decide) (And.intro mo_X11_bestSet (And.intro (tm_8 _ (List.mem_of_getElem? (i := 45) rfl) rfl) (And.intro (tm_8 _ (List.mem_of_getElem? (i := 47) rfl) rfl) (And.intro (pm_6 _ (List.mem_of_getElem? (i := 11) rfl)) (Or.inl ⟨(RX11, TX11, 69), rfl, rfl⟩))))))))
theorem oX11_lost_36 : OKI 225 36 (.istore 4, 38, [4], 0, 0, []) := And.intro dX11_lost_36 (And.intro rfl (And.intro rfl (by decide)))
theorem oX11_lost_38 : OKI 225 38 (.aload_n 0, 39, [0], 0, 0, []) := And.intro dX11_lost_38 (And.intro rfl (rfl))
theorem oX11_lost_39 : OKI 225 39 (.iload_n 1, 40, [1], 0, 0, []) := And.intro dX11_lost_39 (And.intro rfl (rfl))
theorem oX11_lost_40 : OKI 225 40 (.iload_n 2, 41, [2], 0, 0, []) := And.intro dX11_lost_40 (And.intro rfl (rfl))
theorem oX11_lost_41 : OKI 225 41 (.iconst 1, 42, [], 1, 0, []) := And.intro dX11_lost_41 (And.intro rfl (by decide +kernel))
theorem oX11_lost_42 : OKI 225 42 (.iload_n 3, 43, [3], 0, 0, []) := And.intro dX11_lost_42 (And.intro rfl (rfl))
theorem oX11_lost_43 : OKI 225 43 (.ishl, 44, [], 0, 0, []) := And.intro dX11_lost_43 rfl
theorem oX11_lost_44 : OKI 225 44 (.invokevirtual 433, 47, [222, 4, 13, 0, 0, 1], 0, 0, []) := And.intro dX11_lost_44 (And.intro rfl (And.intro (by decide) (And.intro (by decide) (And.intro mo_X11_bestSet (And.intro (tm_8 _ (List.mem_of_getElem? (i := 45) rfl) rfl) (And.intro (tm_8 _ (List.mem_of_getElem? (i := 47) rfl) rfl) (And.intro (pm_6 _ (List.mem_of_getElem? (i := 11) rfl)) (Or.inl ⟨(RX11, TX11, 69), rfl, rfl⟩))))))))
theorem oX11_lost_47 : OKI 225 47 (.istore 5, 49, [5], 0, 0, []) := And.intro dX11_lost_47 (And.intro rfl (And.intro rfl (by decide)))
theorem oX11_lost_49 : OKI 225 49 (.iload 4, 51, [4], 0, 0, []) := And.intro dX11_lost_49 (And.intro rfl (rfl))
theorem oX11_lost_51 : OKI 225 51 (.ifCond .lt 8, 54, [59], 0, 0, []) := And.intro dX11_lost_51 (And.intro rfl (by decide))
theorem oX11_lost_54 : OKI 225 54 (.iload 5, 56, [5], 0, 0, []) := And.intro dX11_lost_54 (And.intro rfl (rfl))
theorem oX11_lost_56 : OKI 225 56 (.ifCond .ge 8, 59, [64], 0, 0, []) := And.intro dX11_lost_56 (And.intro rfl (by decide))
theorem oX11_lost_59 : OKI 225 59 (.bipush (-3), 61, [], (-3), 0, []) := And.intro dX11_lost_59 (And.intro rfl (by decide +kernel))
theorem oX11_lost_61 : OKI 225 61 (.goto 16, 64, [77], 0, 0, []) := And.intro dX11_lost_61 (And.intro rfl (by decide))
theorem oX11_lost_64 : OKI 225 64 (.aload_n 0, 65, [0], 0, 0, []) := And.intro dX11_lost_64 (And.intro rfl (rfl))
theorem oX11_lost_65 : OKI 225 65 (.iload 4, 67, [4], 0, 0, []) := And.intro dX11_lost_65 (And.intro rfl (rfl))
theorem oX11_lost_67 : OKI 225 67 (.invokevirtual 427, 70, [220, 2, 13, 0, 0, 1], 0, 0, []) := And.intro dX11_lost_67 (And.intro rfl (And.intro (by decide) (And.intro (by decide) (And.intro mo_X11_worthOf (And.intro (tm_8 _ (List.mem_of_getElem? (i := 53) rfl) rfl) (And.intro (tm_8 _ (List.mem_of_getElem? (i := 55) rfl) rfl) (And.intro (pm_6 _ (List.mem_of_getElem? (i := 13) rfl)) (Or.inl ⟨(RX11, TX11, 69), rfl, rfl⟩))))))))
theorem oX11_lost_70 : OKI 225 70 (.aload_n 0, 71, [0], 0, 0, []) := And.intro dX11_lost_70 (And.intro rfl (rfl))
theorem oX11_lost_71 : OKI 225 71 (.iload 5, 73, [5], 0, 0, []) := And.intro dX11_lost_71 (And.intro rfl (rfl))
theorem oX11_lost_73 : OKI 225 73 (.invokevirtual 427, 76, [220, 2, 13, 0, 0, 1], 0, 0, []) := And.intro dX11_lost_73 (And.intro rfl (And.intro (by decide) (And.intro (by decide) (And.intro mo_X11_worthOf (And.intro (tm_8 _ (List.mem_of_getElem? (i := 53) rfl) rfl) (And.intro (tm_8 _ (List.mem_of_getElem? (i := 55) rfl) rfl) (And.intro (pm_6 _ (List.mem_of_getElem? (i := 13) rfl)) (Or.inl ⟨(RX11, TX11, 69), rfl, rfl⟩))))))))
theorem oX11_lost_76 : OKI 225 76 (.isub, 77, [], 0, 0, []) := And.intro dX11_lost_76 rfl
theorem oX11_lost_77 : OKI 225 77 (.ireturn, 78, [0], 0, 0, []) := And.intro dX11_lost_77 (Or.inl (And.intro rfl rfl))
def pfX11_lost (pc : Nat) : Option XE := (bif Nat.blt pc 36 then (bif Nat.blt pc 17 then (bif Nat.blt pc 7 then (bif Nat.blt pc 2 then (bif Nat.blt pc 1 then (bif Nat.beq pc 0 then some (.aload_n 0, 1, [0], 0, 0, []) else none) else (bif Nat.beq pc 1 then some (.iload_n 3, 2, [3], 0, 0, []) else none)) else (bif Nat.blt pc 3 then (bif Nat.beq pc 2 then some (.iconst 0, 3, [], 0, 0, []) else none) else (bif Nat.blt pc 4 then (bif Nat.beq pc 3 then some (.aload_n 0, 4, [0], 0, 0, []) else none) else (bif Nat.beq pc 4 then some (.getfield 191, 7, [12, 59, 0], 0, 0, []) else none)))) else (bif Nat.blt pc 12 then (bif Nat.blt pc 8 then (bif Nat.beq pc 7 then some (.iconst 1, 8, [], 1, 0, []) else none) else (bif Nat.blt pc 9 then (bif Nat.beq pc 8 then some (.isub, 9, [], 0, 0, []) else none) else (bif Nat.beq pc 9 then some (.invokevirtual 222, 12, [141, 4, 13, 0, 0, 1], 0, 0, []) else none))) else (bif Nat.blt pc 15 then (bif Nat.beq pc 12 then some (.ifCond .ne 5, 15, [17], 0, 0, []) else none) else (bif Nat.blt pc 16 then (bif Nat.beq pc 15 then some (.iconst (-1), 16, [], (-1), 0, []) else none) else (bif Nat.beq pc 16 then some (.ireturn, 17, [0], 0, 0, []) else none))))) else (bif Nat.blt pc 28 then (bif Nat.blt pc 20 then (bif Nat.blt pc 18 then (bif Nat.beq pc 17 then some (.aload_n 0, 18, [0], 0, 0, []) else none) else (bif Nat.blt pc 19 then (bif Nat.beq pc 18 then some (.iload_n 1, 19, [1], 0, 0, []) else none) else (bif Nat.beq pc 19 then some (.iload_n 2, 20, [2], 0, 0, []) else none))) else (bif Nat.blt pc 23 then (bif Nat.beq pc 20 then some (.invokevirtual 430, 23, [223, 3, 13, 0, 0, 1], 0, 0, []) else none) else (bif Nat.blt pc 26 then (bif Nat.beq pc 23 then some (.ifCond .ne 6, 26, [29], 0, 0, []) else none) else (bif Nat.beq pc 26 then some (.bipush (-2), 28, [], (-2), 0, []) else none)))) else (bif Nat.blt pc 31 then (bif Nat.blt pc 29 then (bif Nat.beq pc 28 then some (.ireturn, 29, [0], 0, 0, []) else none) else (bif Nat.blt pc 30 then (bif Nat.beq pc 29 then some (.aload_n 0, 30, [0], 0, 0, []) else none) else (bif Nat.beq pc 30 then some (.iload_n 1, 31, [1], 0, 0, []) else none))) else (bif Nat.blt pc 32 then (bif Nat.beq pc 31 then some (.iload_n 2, 32, [2], 0, 0, []) else none) else (bif Nat.blt pc 33 then (bif Nat.beq pc 32 then some (.iconst 0, 33, [], 0, 0, []) else none) else (bif Nat.beq pc 33 then some (.invokevirtual 433, 36, [222, 4, 13, 0, 0, 1], 0, 0, []) else none)))))) else (bif Nat.blt pc 54 then (bif Nat.blt pc 42 then (bif Nat.blt pc 39 then (bif Nat.blt pc 38 then (bif Nat.beq pc 36 then some (.istore 4, 38, [4], 0, 0, []) else none) else (bif Nat.beq pc 38 then some (.aload_n 0, 39, [0], 0, 0, []) else none)) else (bif Nat.blt pc 40 then (bif Nat.beq pc 39 then some (.iload_n 1, 40, [1], 0, 0, []) else none) else (bif Nat.blt pc 41 then (bif Nat.beq pc 40 then some (.iload_n 2, 41, [2], 0, 0, []) else none) else (bif Nat.beq pc 41 then some (.iconst 1, 42, [], 1, 0, []) else none)))) else (bif Nat.blt pc 47 then (bif Nat.blt pc 43 then (bif Nat.beq pc 42 then some (.iload_n 3, 43, [3], 0, 0, []) else none) else (bif Nat.blt pc 44 then (bif Nat.beq pc 43 then some (.ishl, 44, [], 0, 0, []) else none) else (bif Nat.beq pc 44 then some (.invokevirtual 433, 47, [222, 4, 13, 0, 0, 1], 0, 0, []) else none))) else (bif Nat.blt pc 49 then (bif Nat.beq pc 47 then some (.istore 5, 49, [5], 0, 0, []) else none) else (bif Nat.blt pc 51 then (bif Nat.beq pc 49 then some (.iload 4, 51, [4], 0, 0, []) else none) else (bif Nat.beq pc 51 then some (.ifCond .lt 8, 54, [59], 0, 0, []) else none))))) else (bif Nat.blt pc 67 then (bif Nat.blt pc 61 then (bif Nat.blt pc 56 then (bif Nat.beq pc 54 then some (.iload 5, 56, [5], 0, 0, []) else none) else (bif Nat.blt pc 59 then (bif Nat.beq pc 56 then some (.ifCond .ge 8, 59, [64], 0, 0, []) else none) else (bif Nat.beq pc 59 then some (.bipush (-3), 61, [], (-3), 0, []) else none))) else (bif Nat.blt pc 64 then (bif Nat.beq pc 61 then some (.goto 16, 64, [77], 0, 0, []) else none) else (bif Nat.blt pc 65 then (bif Nat.beq pc 64 then some (.aload_n 0, 65, [0], 0, 0, []) else none) else (bif Nat.beq pc 65 then some (.iload 4, 67, [4], 0, 0, []) else none)))) else (bif Nat.blt pc 73 then (bif Nat.blt pc 70 then (bif Nat.beq pc 67 then some (.invokevirtual 427, 70, [220, 2, 13, 0, 0, 1], 0, 0, []) else none) else (bif Nat.blt pc 71 then (bif Nat.beq pc 70 then some (.aload_n 0, 71, [0], 0, 0, []) else none) else (bif Nat.beq pc 71 then some (.iload 5, 73, [5], 0, 0, []) else none))) else (bif Nat.blt pc 76 then (bif Nat.beq pc 73 then some (.invokevirtual 427, 76, [220, 2, 13, 0, 0, 1], 0, 0, []) else none) else (bif Nat.blt pc 77 then (bif Nat.beq pc 76 then some (.isub, 77, [], 0, 0, []) else none) else (bif Nat.beq pc 77 then some (.ireturn, 78, [0], 0, 0, []) else none)))))))
theorem okX11_lost : ∀ pc Y, pfX11_lost pc = some Y → OKI m_X11_lost pc Y := fun pc Y => ((bt_node (bt_node (bt_node (bt_node (bt_node (bt_leaf (P := OKI m_X11_lost) oX11_lost_0) (bt_leaf (P := OKI m_X11_lost) oX11_lost_1)) (bt_node (bt_leaf (P := OKI m_X11_lost) oX11_lost_2) (bt_node (bt_leaf (P := OKI m_X11_lost) oX11_lost_3) (bt_leaf (P := OKI m_X11_lost) oX11_lost_4)))) (bt_node (bt_node (bt_leaf (P := OKI m_X11_lost) oX11_lost_7) (bt_node (bt_leaf (P := OKI m_X11_lost) oX11_lost_8) (bt_leaf (P := OKI m_X11_lost) oX11_lost_9))) (bt_node (bt_leaf (P := OKI m_X11_lost) oX11_lost_12) (bt_node (bt_leaf (P := OKI m_X11_lost) oX11_lost_15) (bt_leaf (P := OKI m_X11_lost) oX11_lost_16))))) (bt_node (bt_node (bt_node (bt_leaf (P := OKI m_X11_lost) oX11_lost_17) (bt_node (bt_leaf (P := OKI m_X11_lost) oX11_lost_18) (bt_leaf (P := OKI m_X11_lost) oX11_lost_19))) (bt_node (bt_leaf (P := OKI m_X11_lost) oX11_lost_20) (bt_node (bt_leaf (P := OKI m_X11_lost) oX11_lost_23) (bt_leaf (P := OKI m_X11_lost) oX11_lost_26)))) (bt_node (bt_node (bt_leaf (P := OKI m_X11_lost) oX11_lost_28) (bt_node (bt_leaf (P := OKI m_X11_lost) oX11_lost_29) (bt_leaf (P := OKI m_X11_lost) oX11_lost_30))) (bt_node (bt_leaf (P := OKI m_X11_lost) oX11_lost_31) (bt_node (bt_leaf (P := OKI m_X11_lost) oX11_lost_32) (bt_leaf (P := OKI m_X11_lost) oX11_lost_33)))))) (bt_node (bt_node (bt_node (bt_node (bt_leaf (P := OKI m_X11_lost) oX11_lost_36) (bt_leaf (P := OKI m_X11_lost) oX11_lost_38)) (bt_node (bt_leaf (P := OKI m_X11_lost) oX11_lost_39) (bt_node (bt_leaf (P := OKI m_X11_lost) oX11_lost_40) (bt_leaf (P := OKI m_X11_lost) oX11_lost_41)))) (bt_node (bt_node (bt_leaf (P := OKI m_X11_lost) oX11_lost_42) (bt_node (bt_leaf (P := OKI m_X11_lost) oX11_lost_43) (bt_leaf (P := OKI m_X11_lost) oX11_lost_44))) (bt_node (bt_leaf (P := OKI m_X11_lost) oX11_lost_47) (bt_node (bt_leaf (P := OKI m_X11_lost) oX11_lost_49) (bt_leaf (P := OKI m_X11_lost) oX11_lost_51))))) (bt_node (bt_node (bt_node (bt_leaf (P := OKI m_X11_lost) oX11_lost_54) (bt_node (bt_leaf (P := OKI m_X11_lost) oX11_lost_56) (bt_leaf (P := OKI m_X11_lost) oX11_lost_59))) (bt_node (bt_leaf (P := OKI m_X11_lost) oX11_lost_61) (bt_node (bt_leaf (P := OKI m_X11_lost) oX11_lost_64) (bt_leaf (P := OKI m_X11_lost) oX11_lost_65)))) (bt_node (bt_node (bt_leaf (P := OKI m_X11_lost) oX11_lost_67) (bt_node (bt_leaf (P := OKI m_X11_lost) oX11_lost_70) (bt_leaf (P := OKI m_X11_lost) oX11_lost_71))) (bt_node (bt_leaf (P := OKI m_X11_lost) oX11_lost_73) (bt_node (bt_leaf (P := OKI m_X11_lost) oX11_lost_76) (bt_leaf (P := OKI m_X11_lost) oX11_lost_77))))))) : pfX11_lost pc = some Y → OKI m_X11_lost pc Y)
def stpX11_lost (pc : Nat) : Option (List Bool) := (bif Nat.blt pc 59 then (bif Nat.beq pc 49 then some [true, false, false, false, true, true] else none) else (bif Nat.blt pc 77 then (bif Nat.beq pc 59 then some [false, false, false, false, false, false] else none) else (bif Nat.beq pc 77 then some [false, false, false, false, false, false] else none)))
def bX11_lost_0 (d rc rs : Nat) (a1 : Int32) (a2 : Int32) (a3 : Int32) (σ : XH) (Q : XV → XH → Prop) : Prop :=
  (((1 ≤ d ∧ Ec (d - 1) 0 0 m_X11_in [vR (some (12, 0)), vI a3, vI 0, vI ((hi σ 12 0 59) - 1)] σ (kI fun x2 h1 => ((x2 = 0 → Q (vI (-1)) h1) ∧ (¬ x2 = 0 → ((1 ≤ d ∧ Ec (d - 1) 0 0 m_X11_isGo [vR (some (12, 0)), vI a1, vI a2] h1 (kI fun x4 h3 => ((x4 = 0 → Q (vI (-2)) h3) ∧ (¬ x4 = 0 → ((1 ≤ d ∧ Ec (d - 1) 0 0 m_X11_bestSet [vR (some (12, 0)), vI a1, vI a2, vI 0] h3 (kI fun x6 h5 => ((1 ≤ d ∧ Ec (d - 1) 0 0 m_X11_bestSet [vR (some (12, 0)), vI a1, vI a2, vI (1 <<< (a3 &&& 31))] h5 (kI fun x8 h7 => Ex d rc rs m_X11_lost 49 [vR (some (12, 0)), vU, vU, vU, vI x6, vI x8] [] h7 Q)))))))))))))))))
theorem sX11_lost_0 {d rc rs : Nat} {a1 : Int32} {a2 : Int32} {a3 : Int32} {σ : XH} {Q : XV → XH → Prop} (h : bX11_lost_0 d rc rs a1 a2 a3 σ Q) : Ex d rc rs m_X11_lost 0 [vR (some (12, 0)), vI a1, vI a2, vI a3, vU, vU] [] σ Q :=
  xtree_sound (stop := stpX11_lost) okX11_lost 30 _ _ _ _ _ _ h
def bX11_lost_49 (d rc rs : Nat) (l4 : Int32) (l5 : Int32) (σ : XH) (Q : XV → XH → Prop) : Prop :=
  ((l4 < 0 → Ex d rc rs m_X11_lost 59 [vU, vU, vU, vU, vU, vU] [] σ Q) ∧ (¬ l4 < 0 → ((l5 < 0 → Ex d rc rs m_X11_lost 59 [vU, vU, vU, vU, vU, vU] [] σ Q) ∧ (¬ l5 < 0 → ((1 ≤ d ∧ Ec (d - 1) 0 0 m_X11_worthOf [vR (some (12, 0)), vI l4] σ (kI fun x2 h1 => ((1 ≤ d ∧ Ec (d - 1) 0 0 m_X11_worthOf [vR (some (12, 0)), vI l5] h1 (kI fun x4 h3 => Ex d rc rs m_X11_lost 77 [vU, vU, vU, vU, vU, vU] [vI (x2 - x4)] h3 Q))))))))))
theorem sX11_lost_49 {d rc rs : Nat} {l4 : Int32} {l5 : Int32} {σ : XH} {Q : XV → XH → Prop} (h : bX11_lost_49 d rc rs l4 l5 σ Q) : Ex d rc rs m_X11_lost 49 [vR (some (12, 0)), vU, vU, vU, vI l4, vI l5] [] σ Q :=
  xtree_sound (stop := stpX11_lost) okX11_lost 13 _ _ _ _ _ _ h
def bX11_lost_59 (d rc rs : Nat)  (σ : XH) (Q : XV → XH → Prop) : Prop :=
  Ex d rc rs m_X11_lost 77 [vU, vU, vU, vU, vU, vU] [vI (-3)] σ Q
theorem sX11_lost_59 {d rc rs : Nat}  {σ : XH} {Q : XV → XH → Prop} (h : bX11_lost_59 d rc rs  σ Q) : Ex d rc rs m_X11_lost 59 [vU, vU, vU, vU, vU, vU] [] σ Q :=
  xtree_sound (stop := stpX11_lost) okX11_lost 4 _ _ _ _ _ _ h
def bX11_lost_77 (d rc rs : Nat) (q0 : Int32) (σ : XH) (Q : XV → XH → Prop) : Prop :=
  Q (vI q0) σ
theorem sX11_lost_77 {d rc rs : Nat} {q0 : Int32} {σ : XH} {Q : XV → XH → Prop} (h : bX11_lost_77 d rc rs q0 σ Q) : Ex d rc rs m_X11_lost 77 [vU, vU, vU, vU, vU, vU] [vI q0] σ Q :=
  xtree_sound (stop := stpX11_lost) okX11_lost 3 _ _ _ _ _ _ h
/-! SpotTimersModel.areJoined(II)Z -/
theorem dX11_areJoined_0 : decode cX11_areJoined 0 = .ok (.aload_n 0, 1) := by decide +kernel
theorem dX11_areJoined_1 : decode cX11_areJoined 1 = .ok (.getfield 65, 3) := by decide +kernel
theorem dX11_areJoined_4 : decode cX11_areJoined 4 = .ok (.iload_n 1, 1) := by decide +kernel
theorem dX11_areJoined_5 : decode cX11_areJoined 5 = .ok (.iaload, 1) := by decide +kernel
theorem dX11_areJoined_6 : decode cX11_areJoined 6 = .ok (.ifCond .gt 52, 3) := by decide +kernel
theorem dX11_areJoined_9 : decode cX11_areJoined 9 = .ok (.aload_n 0, 1) := by decide +kernel
theorem dX11_areJoined_10 : decode cX11_areJoined 10 = .ok (.getfield 65, 3) := by decide +kernel
theorem dX11_areJoined_13 : decode cX11_areJoined 13 = .ok (.iload_n 2, 1) := by decide +kernel
theorem dX11_areJoined_14 : decode cX11_areJoined 14 = .ok (.iaload, 1) := by decide +kernel
theorem dX11_areJoined_15 : decode cX11_areJoined 15 = .ok (.ifCond .gt 43, 3) := by decide +kernel
theorem dX11_areJoined_18 : decode cX11_areJoined 18 = .ok (.aload_n 0, 1) := by decide +kernel
theorem dX11_areJoined_19 : decode cX11_areJoined 19 = .ok (.getfield 38, 3) := by decide +kernel
theorem dX11_areJoined_22 : decode cX11_areJoined 22 = .ok (.iload_n 1, 1) := by decide +kernel
theorem dX11_areJoined_23 : decode cX11_areJoined 23 = .ok (.iaload, 1) := by decide +kernel
theorem dX11_areJoined_24 : decode cX11_areJoined 24 = .ok (.iconst 3, 1) := by decide +kernel
theorem dX11_areJoined_25 : decode cX11_areJoined 25 = .ok (.if_icmp .eq 13, 3) := by decide +kernel
theorem dX11_areJoined_28 : decode cX11_areJoined 28 = .ok (.aload_n 0, 1) := by decide +kernel
theorem dX11_areJoined_29 : decode cX11_areJoined 29 = .ok (.getfield 38, 3) := by decide +kernel
theorem dX11_areJoined_32 : decode cX11_areJoined 32 = .ok (.iload_n 1, 1) := by decide +kernel
theorem dX11_areJoined_33 : decode cX11_areJoined 33 = .ok (.iaload, 1) := by decide +kernel
theorem dX11_areJoined_34 : decode cX11_areJoined 34 = .ok (.iconst 4, 1) := by decide +kernel
theorem dX11_areJoined_35 : decode cX11_areJoined 35 = .ok (.if_icmp .ne 23, 3) := by decide +kernel
theorem dX11_areJoined_38 : decode cX11_areJoined 38 = .ok (.aload_n 0, 1) := by decide +kernel
theorem dX11_areJoined_39 : decode cX11_areJoined 39 = .ok (.getfield 38, 3) := by decide +kernel
theorem dX11_areJoined_42 : decode cX11_areJoined 42 = .ok (.iload_n 2, 1) := by decide +kernel
theorem dX11_areJoined_43 : decode cX11_areJoined 43 = .ok (.iaload, 1) := by decide +kernel
theorem dX11_areJoined_44 : decode cX11_areJoined 44 = .ok (.iconst 3, 1) := by decide +kernel
theorem dX11_areJoined_45 : decode cX11_areJoined 45 = .ok (.if_icmp .eq 15, 3) := by decide +kernel
theorem dX11_areJoined_48 : decode cX11_areJoined 48 = .ok (.aload_n 0, 1) := by decide +kernel
theorem dX11_areJoined_49 : decode cX11_areJoined 49 = .ok (.getfield 38, 3) := by decide +kernel
theorem dX11_areJoined_52 : decode cX11_areJoined 52 = .ok (.iload_n 2, 1) := by decide +kernel
theorem dX11_areJoined_53 : decode cX11_areJoined 53 = .ok (.iaload, 1) := by decide +kernel
theorem dX11_areJoined_54 : decode cX11_areJoined 54 = .ok (.iconst 4, 1) := by decide +kernel
theorem dX11_areJoined_55 : decode cX11_areJoined 55 = .ok (.if_icmp .eq 5, 3) := by decide +kernel
theorem dX11_areJoined_58 : decode cX11_areJoined 58 = .ok (.iconst 0, 1) := by decide +kernel
theorem dX11_areJoined_59 : decode cX11_areJoined 59 = .ok (.ireturn, 1) := by decide +kernel
theorem dX11_areJoined_60 : decode cX11_areJoined 60 = .ok (.aload_n 0, 1) := by decide +kernel
theorem dX11_areJoined_61 : decode cX11_areJoined 61 = .ok (.getfield 41, 3) := by decide +kernel
theorem dX11_areJoined_64 : decode cX11_areJoined 64 = .ok (.iload_n 1, 1) := by decide +kernel
theorem dX11_areJoined_65 : decode cX11_areJoined 65 = .ok (.iaload, 1) := by decide +kernel
theorem dX11_areJoined_66 : decode cX11_areJoined 66 = .ok (.aload_n 0, 1) := by decide +kernel
theorem dX11_areJoined_67 : decode cX11_areJoined 67 = .ok (.getfield 41, 3) := by decide +kernel
theorem dX11_areJoined_70 : decode cX11_areJoined 70 = .ok (.iload_n 2, 1) := by decide +kernel
theorem dX11_areJoined_71 : decode cX11_areJoined 71 = .ok (.iaload, 1) := by decide +kernel
theorem dX11_areJoined_72 : decode cX11_areJoined 72 = .ok (.if_icmp .eq 62, 3) := by decide +kernel
theorem dX11_areJoined_75 : decode cX11_areJoined 75 = .ok (.aload_n 0, 1) := by decide +kernel
theorem dX11_areJoined_76 : decode cX11_areJoined 76 = .ok (.getfield 29, 3) := by decide +kernel
theorem dX11_areJoined_79 : decode cX11_areJoined 79 = .ok (.aload_n 0, 1) := by decide +kernel
theorem dX11_areJoined_80 : decode cX11_areJoined 80 = .ok (.getfield 41, 3) := by decide +kernel
theorem dX11_areJoined_83 : decode cX11_areJoined 83 = .ok (.iload_n 1, 1) := by decide +kernel
theorem dX11_areJoined_84 : decode cX11_areJoined 84 = .ok (.iaload, 1) := by decide +kernel
theorem dX11_areJoined_85 : decode cX11_areJoined 85 = .ok (.iaload, 1) := by decide +kernel
theorem dX11_areJoined_86 : decode cX11_areJoined 86 = .ok (.aload_n 0, 1) := by decide +kernel
theorem dX11_areJoined_87 : decode cX11_areJoined 87 = .ok (.getfield 29, 3) := by decide +kernel
theorem dX11_areJoined_90 : decode cX11_areJoined 90 = .ok (.aload_n 0, 1) := by decide +kernel
theorem dX11_areJoined_91 : decode cX11_areJoined 91 = .ok (.getfield 41, 3) := by decide +kernel
theorem dX11_areJoined_94 : decode cX11_areJoined 94 = .ok (.iload_n 2, 1) := by decide +kernel
theorem dX11_areJoined_95 : decode cX11_areJoined 95 = .ok (.iaload, 1) := by decide +kernel
theorem dX11_areJoined_96 : decode cX11_areJoined 96 = .ok (.iaload, 1) := by decide +kernel
theorem dX11_areJoined_97 : decode cX11_areJoined 97 = .ok (.if_icmp .ne 37, 3) := by decide +kernel
theorem dX11_areJoined_100 : decode cX11_areJoined 100 = .ok (.aload_n 0, 1) := by decide +kernel
theorem dX11_areJoined_101 : decode cX11_areJoined 101 = .ok (.getfield 44, 3) := by decide +kernel
theorem dX11_areJoined_104 : decode cX11_areJoined 104 = .ok (.iload_n 1, 1) := by decide +kernel
theorem dX11_areJoined_105 : decode cX11_areJoined 105 = .ok (.iaload, 1) := by decide +kernel
theorem dX11_areJoined_106 : decode cX11_areJoined 106 = .ok (.aload_n 0, 1) := by decide +kernel
theorem dX11_areJoined_107 : decode cX11_areJoined 107 = .ok (.getfield 44, 3) := by decide +kernel
theorem dX11_areJoined_110 : decode cX11_areJoined 110 = .ok (.iload_n 2, 1) := by decide +kernel
theorem dX11_areJoined_111 : decode cX11_areJoined 111 = .ok (.iaload, 1) := by decide +kernel
theorem dX11_areJoined_112 : decode cX11_areJoined 112 = .ok (.if_icmp .ne 22, 3) := by decide +kernel
theorem dX11_areJoined_115 : decode cX11_areJoined 115 = .ok (.aload_n 0, 1) := by decide +kernel
theorem dX11_areJoined_116 : decode cX11_areJoined 116 = .ok (.getfield 53, 3) := by decide +kernel
theorem dX11_areJoined_119 : decode cX11_areJoined 119 = .ok (.iload_n 1, 1) := by decide +kernel
theorem dX11_areJoined_120 : decode cX11_areJoined 120 = .ok (.iaload, 1) := by decide +kernel
theorem dX11_areJoined_121 : decode cX11_areJoined 121 = .ok (.aload_n 0, 1) := by decide +kernel
theorem dX11_areJoined_122 : decode cX11_areJoined 122 = .ok (.getfield 53, 3) := by decide +kernel
theorem dX11_areJoined_125 : decode cX11_areJoined 125 = .ok (.iload_n 2, 1) := by decide +kernel
theorem dX11_areJoined_126 : decode cX11_areJoined 126 = .ok (.iaload, 1) := by decide +kernel
theorem dX11_areJoined_127 : decode cX11_areJoined 127 = .ok (.if_icmp .ne 7, 3) := by decide +kernel
theorem dX11_areJoined_130 : decode cX11_areJoined 130 = .ok (.iconst 1, 1) := by decide +kernel
theorem dX11_areJoined_131 : decode cX11_areJoined 131 = .ok (.goto 4, 3) := by decide +kernel
theorem dX11_areJoined_134 : decode cX11_areJoined 134 = .ok (.iconst 0, 1) := by decide +kernel
theorem dX11_areJoined_135 : decode cX11_areJoined 135 = .ok (.ireturn, 1) := by decide +kernel
theorem oX11_areJoined_0 : OKI 226 0 (.aload_n 0, 1, [0], 0, 0, []) := And.intro dX11_areJoined_0 (And.intro rfl (rfl))
theorem oX11_areJoined_1 : OKI 226 1 (.getfield 65, 4, [12, 18, 2, 129, 0], 0, 0, []) := And.intro dX11_areJoined_1 (And.intro rfl (⟨(RX11, TX11, 69), "SpotTimersModel", rfl, by decide, tm_5 _ (List.mem_of_getElem? (i := 224) rfl) rfl, Or.inl rfl, rfl, rfl⟩))
theorem oX11_areJoined_4 : OKI 226 4 (.iload_n 1, 5, [1], 0, 0, []) := And.intro dX11_areJoined_4 (And.intro rfl (rfl))
theorem oX11_areJoined_5 : OKI 226 5 (.iaload, 6, [], 0, 0, []) := And.intro dX11_areJoined_5 rfl
theorem oX11_areJoined_6 : OKI 226 6 (.ifCond .gt 52, 9, [58], 0, 0, []) := And.intro dX11_areJoined_6 (And.intro rfl (by decide))
theorem oX11_areJoined_9 : OKI 226 9 (.aload_n 0, 10, [0], 0, 0, []) := And.intro dX11_areJoined_9 (And.intro rfl (rfl))
theorem oX11_areJoined_10 : OKI 226 10 (.getfield 65, 13, [12, 18, 2, 129, 0], 0, 0, []) := And.intro dX11_areJoined_10 (And.intro rfl (⟨(RX11, TX11, 69), "SpotTimersModel", rfl, by decide, tm_5 _ (List.mem_of_getElem? (i := 224) rfl) rfl, Or.inl rfl, rfl, rfl⟩))
theorem oX11_areJoined_13 : OKI 226 13 (.iload_n 2, 14, [2], 0, 0, []) := And.intro dX11_areJoined_13 (And.intro rfl (rfl))
theorem oX11_areJoined_14 : OKI 226 14 (.iaload, 15, [], 0, 0, []) := And.intro dX11_areJoined_14 rfl
theorem oX11_areJoined_15 : OKI 226 15 (.ifCond .gt 43, 18, [58], 0, 0, []) := And.intro dX11_areJoined_15 (And.intro rfl (by decide))
theorem oX11_areJoined_18 : OKI 226 18 (.aload_n 0, 19, [0], 0, 0, []) := And.intro dX11_areJoined_18 (And.intro rfl (rfl))
theorem oX11_areJoined_19 : OKI 226 19 (.getfield 38, 22, [12, 9, 2, 120, 0], 0, 0, []) := And.intro dX11_areJoined_19 (And.intro rfl (⟨(RX11, TX11, 69), "SpotTimersModel", rfl, by decide, tm_5 _ (List.mem_of_getElem? (i := 215) rfl) rfl, Or.inl rfl, rfl, rfl⟩))
theorem oX11_areJoined_22 : OKI 226 22 (.iload_n 1, 23, [1], 0, 0, []) := And.intro dX11_areJoined_22 (And.intro rfl (rfl))
theorem oX11_areJoined_23 : OKI 226 23 (.iaload, 24, [], 0, 0, []) := And.intro dX11_areJoined_23 rfl
theorem oX11_areJoined_24 : OKI 226 24 (.iconst 3, 25, [], 3, 0, []) := And.intro dX11_areJoined_24 (And.intro rfl (by decide +kernel))
theorem oX11_areJoined_25 : OKI 226 25 (.if_icmp .eq 13, 28, [38], 0, 0, []) := And.intro dX11_areJoined_25 (And.intro rfl (by decide))
theorem oX11_areJoined_28 : OKI 226 28 (.aload_n 0, 29, [0], 0, 0, []) := And.intro dX11_areJoined_28 (And.intro rfl (rfl))
theorem oX11_areJoined_29 : OKI 226 29 (.getfield 38, 32, [12, 9, 2, 120, 0], 0, 0, []) := And.intro dX11_areJoined_29 (And.intro rfl (⟨(RX11, TX11, 69), "SpotTimersModel", rfl, by decide, tm_5 _ (List.mem_of_getElem? (i := 215) rfl) rfl, Or.inl rfl, rfl, rfl⟩))
theorem oX11_areJoined_32 : OKI 226 32 (.iload_n 1, 33, [1], 0, 0, []) := And.intro dX11_areJoined_32 (And.intro rfl (rfl))
theorem oX11_areJoined_33 : OKI 226 33 (.iaload, 34, [], 0, 0, []) := And.intro dX11_areJoined_33 rfl
theorem oX11_areJoined_34 : OKI 226 34 (.iconst 4, 35, [], 4, 0, []) := And.intro dX11_areJoined_34 (And.intro rfl (by decide +kernel))
theorem oX11_areJoined_35 : OKI 226 35 (.if_icmp .ne 23, 38, [58], 0, 0, []) := And.intro dX11_areJoined_35 (And.intro rfl (by decide))
theorem oX11_areJoined_38 : OKI 226 38 (.aload_n 0, 39, [0], 0, 0, []) := And.intro dX11_areJoined_38 (And.intro rfl (rfl))
theorem oX11_areJoined_39 : OKI 226 39 (.getfield 38, 42, [12, 9, 2, 120, 0], 0, 0, []) := And.intro dX11_areJoined_39 (And.intro rfl (⟨(RX11, TX11, 69), "SpotTimersModel", rfl, by decide, tm_5 _ (List.mem_of_getElem? (i := 215) rfl) rfl, Or.inl rfl, rfl, rfl⟩))
theorem oX11_areJoined_42 : OKI 226 42 (.iload_n 2, 43, [2], 0, 0, []) := And.intro dX11_areJoined_42 (And.intro rfl (rfl))
theorem oX11_areJoined_43 : OKI 226 43 (.iaload, 44, [], 0, 0, []) := And.intro dX11_areJoined_43 rfl
theorem oX11_areJoined_44 : OKI 226 44 (.iconst 3, 45, [], 3, 0, []) := And.intro dX11_areJoined_44 (And.intro rfl (by decide +kernel))
theorem oX11_areJoined_45 : OKI 226 45 (.if_icmp .eq 15, 48, [60], 0, 0, []) := And.intro dX11_areJoined_45 (And.intro rfl (by decide))
theorem oX11_areJoined_48 : OKI 226 48 (.aload_n 0, 49, [0], 0, 0, []) := And.intro dX11_areJoined_48 (And.intro rfl (rfl))
theorem oX11_areJoined_49 : OKI 226 49 (.getfield 38, 52, [12, 9, 2, 120, 0], 0, 0, []) := And.intro dX11_areJoined_49 (And.intro rfl (⟨(RX11, TX11, 69), "SpotTimersModel", rfl, by decide, tm_5 _ (List.mem_of_getElem? (i := 215) rfl) rfl, Or.inl rfl, rfl, rfl⟩))
theorem oX11_areJoined_52 : OKI 226 52 (.iload_n 2, 53, [2], 0, 0, []) := And.intro dX11_areJoined_52 (And.intro rfl (rfl))
theorem oX11_areJoined_53 : OKI 226 53 (.iaload, 54, [], 0, 0, []) := And.intro dX11_areJoined_53 rfl
theorem oX11_areJoined_54 : OKI 226 54 (.iconst 4, 55, [], 4, 0, []) := And.intro dX11_areJoined_54 (And.intro rfl (by decide +kernel))
theorem oX11_areJoined_55 : OKI 226 55 (.if_icmp .eq 5, 58, [60], 0, 0, []) := And.intro dX11_areJoined_55 (And.intro rfl (by decide))
theorem oX11_areJoined_58 : OKI 226 58 (.iconst 0, 59, [], 0, 0, []) := And.intro dX11_areJoined_58 (And.intro rfl (by decide +kernel))
theorem oX11_areJoined_59 : OKI 226 59 (.ireturn, 60, [3], 0, 0, []) := And.intro dX11_areJoined_59 (Or.inr (Or.inl (And.intro rfl rfl)))
theorem oX11_areJoined_60 : OKI 226 60 (.aload_n 0, 61, [0], 0, 0, []) := And.intro dX11_areJoined_60 (And.intro rfl (rfl))
theorem oX11_areJoined_61 : OKI 226 61 (.getfield 41, 64, [12, 10, 2, 121, 0], 0, 0, []) := And.intro dX11_areJoined_61 (And.intro rfl (⟨(RX11, TX11, 69), "SpotTimersModel", rfl, by decide, tm_5 _ (List.mem_of_getElem? (i := 216) rfl) rfl, Or.inl rfl, rfl, rfl⟩))
theorem oX11_areJoined_64 : OKI 226 64 (.iload_n 1, 65, [1], 0, 0, []) := And.intro dX11_areJoined_64 (And.intro rfl (rfl))
theorem oX11_areJoined_65 : OKI 226 65 (.iaload, 66, [], 0, 0, []) := And.intro dX11_areJoined_65 rfl
theorem oX11_areJoined_66 : OKI 226 66 (.aload_n 0, 67, [0], 0, 0, []) := And.intro dX11_areJoined_66 (And.intro rfl (rfl))
theorem oX11_areJoined_67 : OKI 226 67 (.getfield 41, 70, [12, 10, 2, 121, 0], 0, 0, []) := And.intro dX11_areJoined_67 (And.intro rfl (⟨(RX11, TX11, 69), "SpotTimersModel", rfl, by decide, tm_5 _ (List.mem_of_getElem? (i := 216) rfl) rfl, Or.inl rfl, rfl, rfl⟩))
theorem oX11_areJoined_70 : OKI 226 70 (.iload_n 2, 71, [2], 0, 0, []) := And.intro dX11_areJoined_70 (And.intro rfl (rfl))
theorem oX11_areJoined_71 : OKI 226 71 (.iaload, 72, [], 0, 0, []) := And.intro dX11_areJoined_71 rfl
theorem oX11_areJoined_72 : OKI 226 72 (.if_icmp .eq 62, 75, [134], 0, 0, []) := And.intro dX11_areJoined_72 (And.intro rfl (by decide))
theorem oX11_areJoined_75 : OKI 226 75 (.aload_n 0, 76, [0], 0, 0, []) := And.intro dX11_areJoined_75 (And.intro rfl (rfl))
theorem oX11_areJoined_76 : OKI 226 76 (.getfield 29, 79, [12, 6, 2, 118, 0], 0, 0, []) := And.intro dX11_areJoined_76 (And.intro rfl (⟨(RX11, TX11, 69), "SpotTimersModel", rfl, by decide, tm_5 _ (List.mem_of_getElem? (i := 212) rfl) rfl, Or.inl rfl, rfl, rfl⟩))
theorem oX11_areJoined_79 : OKI 226 79 (.aload_n 0, 80, [0], 0, 0, []) := And.intro dX11_areJoined_79 (And.intro rfl (rfl))
theorem oX11_areJoined_80 : OKI 226 80 (.getfield 41, 83, [12, 10, 2, 121, 0], 0, 0, []) := And.intro dX11_areJoined_80 (And.intro rfl (⟨(RX11, TX11, 69), "SpotTimersModel", rfl, by decide, tm_5 _ (List.mem_of_getElem? (i := 216) rfl) rfl, Or.inl rfl, rfl, rfl⟩))
theorem oX11_areJoined_83 : OKI 226 83 (.iload_n 1, 84, [1], 0, 0, []) := And.intro dX11_areJoined_83 (And.intro rfl (rfl))
theorem oX11_areJoined_84 : OKI 226 84 (.iaload, 85, [], 0, 0, []) := And.intro dX11_areJoined_84 rfl
theorem oX11_areJoined_85 : OKI 226 85 (.iaload, 86, [], 0, 0, []) := And.intro dX11_areJoined_85 rfl
theorem oX11_areJoined_86 : OKI 226 86 (.aload_n 0, 87, [0], 0, 0, []) := And.intro dX11_areJoined_86 (And.intro rfl (rfl))
theorem oX11_areJoined_87 : OKI 226 87 (.getfield 29, 90, [12, 6, 2, 118, 0], 0, 0, []) := And.intro dX11_areJoined_87 (And.intro rfl (⟨(RX11, TX11, 69), "SpotTimersModel", rfl, by decide, tm_5 _ (List.mem_of_getElem? (i := 212) rfl) rfl, Or.inl rfl, rfl, rfl⟩))
theorem oX11_areJoined_90 : OKI 226 90 (.aload_n 0, 91, [0], 0, 0, []) := And.intro dX11_areJoined_90 (And.intro rfl (rfl))
theorem oX11_areJoined_91 : OKI 226 91 (.getfield 41, 94, [12, 10, 2, 121, 0], 0, 0, []) := And.intro dX11_areJoined_91 (And.intro rfl (⟨(RX11, TX11, 69), "SpotTimersModel", rfl, by decide, tm_5 _ (List.mem_of_getElem? (i := 216) rfl) rfl, Or.inl rfl, rfl, rfl⟩))
theorem oX11_areJoined_94 : OKI 226 94 (.iload_n 2, 95, [2], 0, 0, []) := And.intro dX11_areJoined_94 (And.intro rfl (rfl))
theorem oX11_areJoined_95 : OKI 226 95 (.iaload, 96, [], 0, 0, []) := And.intro dX11_areJoined_95 rfl
theorem oX11_areJoined_96 : OKI 226 96 (.iaload, 97, [], 0, 0, []) := And.intro dX11_areJoined_96 rfl
theorem oX11_areJoined_97 : OKI 226 97 (.if_icmp .ne 37, 100, [134], 0, 0, []) := And.intro dX11_areJoined_97 (And.intro rfl (by decide))
theorem oX11_areJoined_100 : OKI 226 100 (.aload_n 0, 101, [0], 0, 0, []) := And.intro dX11_areJoined_100 (And.intro rfl (rfl))
theorem oX11_areJoined_101 : OKI 226 101 (.getfield 44, 104, [12, 11, 2, 122, 0], 0, 0, []) := And.intro dX11_areJoined_101 (And.intro rfl (⟨(RX11, TX11, 69), "SpotTimersModel", rfl, by decide, tm_5 _ (List.mem_of_getElem? (i := 217) rfl) rfl, Or.inl rfl, rfl, rfl⟩))
theorem oX11_areJoined_104 : OKI 226 104 (.iload_n 1, 105, [1], 0, 0, []) := And.intro dX11_areJoined_104 (And.intro rfl (rfl))
theorem oX11_areJoined_105 : OKI 226 105 (.iaload, 106, [], 0, 0, []) := And.intro dX11_areJoined_105 rfl
theorem oX11_areJoined_106 : OKI 226 106 (.aload_n 0, 107, [0], 0, 0, []) := And.intro dX11_areJoined_106 (And.intro rfl (rfl))
theorem oX11_areJoined_107 : OKI 226 107 (.getfield 44, 110, [12, 11, 2, 122, 0], 0, 0, []) := And.intro dX11_areJoined_107 (And.intro rfl (⟨(RX11, TX11, 69), "SpotTimersModel", rfl, by decide, tm_5 _ (List.mem_of_getElem? (i := 217) rfl) rfl, Or.inl rfl, rfl, rfl⟩))
theorem oX11_areJoined_110 : OKI 226 110 (.iload_n 2, 111, [2], 0, 0, []) := And.intro dX11_areJoined_110 (And.intro rfl (rfl))
theorem oX11_areJoined_111 : OKI 226 111 (.iaload, 112, [], 0, 0, []) := And.intro dX11_areJoined_111 rfl
theorem oX11_areJoined_112 : OKI 226 112 (.if_icmp .ne 22, 115, [134], 0, 0, []) := And.intro dX11_areJoined_112 (And.intro rfl (by decide))
theorem oX11_areJoined_115 : OKI 226 115 (.aload_n 0, 116, [0], 0, 0, []) := And.intro dX11_areJoined_115 (And.intro rfl (rfl))
theorem oX11_areJoined_116 : OKI 226 116 (.getfield 53, 119, [12, 14, 2, 125, 0], 0, 0, []) := And.intro dX11_areJoined_116 (And.intro rfl (⟨(RX11, TX11, 69), "SpotTimersModel", rfl, by decide, tm_5 _ (List.mem_of_getElem? (i := 220) rfl) rfl, Or.inl rfl, rfl, rfl⟩))
theorem oX11_areJoined_119 : OKI 226 119 (.iload_n 1, 120, [1], 0, 0, []) := And.intro dX11_areJoined_119 (And.intro rfl (rfl))
theorem oX11_areJoined_120 : OKI 226 120 (.iaload, 121, [], 0, 0, []) := And.intro dX11_areJoined_120 rfl
theorem oX11_areJoined_121 : OKI 226 121 (.aload_n 0, 122, [0], 0, 0, []) := And.intro dX11_areJoined_121 (And.intro rfl (rfl))
theorem oX11_areJoined_122 : OKI 226 122 (.getfield 53, 125, [12, 14, 2, 125, 0], 0, 0, []) := And.intro dX11_areJoined_122 (And.intro rfl (⟨(RX11, TX11, 69), "SpotTimersModel", rfl, by decide, tm_5 _ (List.mem_of_getElem? (i := 220) rfl) rfl, Or.inl rfl, rfl, rfl⟩))
theorem oX11_areJoined_125 : OKI 226 125 (.iload_n 2, 126, [2], 0, 0, []) := And.intro dX11_areJoined_125 (And.intro rfl (rfl))
theorem oX11_areJoined_126 : OKI 226 126 (.iaload, 127, [], 0, 0, []) := And.intro dX11_areJoined_126 rfl
theorem oX11_areJoined_127 : OKI 226 127 (.if_icmp .ne 7, 130, [134], 0, 0, []) := And.intro dX11_areJoined_127 (And.intro rfl (by decide))
theorem oX11_areJoined_130 : OKI 226 130 (.iconst 1, 131, [], 1, 0, []) := And.intro dX11_areJoined_130 (And.intro rfl (by decide +kernel))
theorem oX11_areJoined_131 : OKI 226 131 (.goto 4, 134, [135], 0, 0, []) := And.intro dX11_areJoined_131 (And.intro rfl (by decide))
theorem oX11_areJoined_134 : OKI 226 134 (.iconst 0, 135, [], 0, 0, []) := And.intro dX11_areJoined_134 (And.intro rfl (by decide +kernel))
theorem oX11_areJoined_135 : OKI 226 135 (.ireturn, 136, [3], 0, 0, []) := And.intro dX11_areJoined_135 (Or.inr (Or.inl (And.intro rfl rfl)))
def pfX11_areJoined (pc : Nat) : Option XE := (bif Nat.blt pc 67 then (bif Nat.blt pc 34 then (bif Nat.blt pc 18 then (bif Nat.blt pc 9 then (bif Nat.blt pc 4 then (bif Nat.blt pc 1 then (bif Nat.beq pc 0 then some (.aload_n 0, 1, [0], 0, 0, []) else none) else (bif Nat.beq pc 1 then some (.getfield 65, 4, [12, 18, 2, 129, 0], 0, 0, []) else none)) else (bif Nat.blt pc 5 then (bif Nat.beq pc 4 then some (.iload_n 1, 5, [1], 0, 0, []) else none) else (bif Nat.blt pc 6 then (bif Nat.beq pc 5 then some (.iaload, 6, [], 0, 0, []) else none) else (bif Nat.beq pc 6 then some (.ifCond .gt 52, 9, [58], 0, 0, []) else none)))) else (bif Nat.blt pc 13 then (bif Nat.blt pc 10 then (bif Nat.beq pc 9 then some (.aload_n 0, 10, [0], 0, 0, []) else none) else (bif Nat.beq pc 10 then some (.getfield 65, 13, [12, 18, 2, 129, 0], 0, 0, []) else none)) else (bif Nat.blt pc 14 then (bif Nat.beq pc 13 then some (.iload_n 2, 14, [2], 0, 0, []) else none) else (bif Nat.blt pc 15 then (bif Nat.beq pc 14 then some (.iaload, 15, [], 0, 0, []) else none) else (bif Nat.beq pc 15 then some (.ifCond .gt 43, 18, [58], 0, 0, []) else none))))) else (bif Nat.blt pc 25 then (bif Nat.blt pc 22 then (bif Nat.blt pc 19 then (bif Nat.beq pc 18 then some (.aload_n 0, 19, [0], 0, 0, []) else none) else (bif Nat.beq pc 19 then some (.getfield 38, 22, [12, 9, 2, 120, 0], 0, 0, []) else none)) else (bif Nat.blt pc 23 then (bif Nat.beq pc 22 then some (.iload_n 1, 23, [1], 0, 0, []) else none) else (bif Nat.blt pc 24 then (bif Nat.beq pc 23 then some (.iaload, 24, [], 0, 0, []) else none) else (bif Nat.beq pc 24 then some (.iconst 3, 25, [], 3, 0, []) else none)))) else (bif Nat.blt pc 29 then (bif Nat.blt pc 28 then (bif Nat.beq pc 25 then some (.if_icmp .eq 13, 28, [38], 0, 0, []) else none) else (bif Nat.beq pc 28 then some (.aload_n 0, 29, [0], 0, 0, []) else none)) else (bif Nat.blt pc 32 then (bif Nat.beq pc 29 then some (.getfield 38, 32, [12, 9, 2, 120, 0], 0, 0, []) else none) else (bif Nat.blt pc 33 then (bif Nat.beq pc 32 then some (.iload_n 1, 33, [1], 0, 0, []) else none) else (bif Nat.beq pc 33 then some (.iaload, 34, [], 0, 0, []) else none)))))) else (bif Nat.blt pc 52 then (bif Nat.blt pc 43 then (bif Nat.blt pc 38 then (bif Nat.blt pc 35 then (bif Nat.beq pc 34 then some (.iconst 4, 35, [], 4, 0, []) else none) else (bif Nat.beq pc 35 then some (.if_icmp .ne 23, 38, [58], 0, 0, []) else none)) else (bif Nat.blt pc 39 then (bif Nat.beq pc 38 then some (.aload_n 0, 39, [0], 0, 0, []) else none) else (bif Nat.blt pc 42 then (bif Nat.beq pc 39 then some (.getfield 38, 42, [12, 9, 2, 120, 0], 0, 0, []) else none) else (bif Nat.beq pc 42 then some (.iload_n 2, 43, [2], 0, 0, []) else none)))) else (bif Nat.blt pc 45 then (bif Nat.blt pc 44 then (bif Nat.beq pc 43 then some (.iaload, 44, [], 0, 0, []) else none) else (bif Nat.beq pc 44 then some (.iconst 3, 45, [], 3, 0, []) else none)) else (bif Nat.blt pc 48 then (bif Nat.beq pc 45 then some (.if_icmp .eq 15, 48, [60], 0, 0, []) else none) else (bif Nat.blt pc 49 then (bif Nat.beq pc 48 then some (.aload_n 0, 49, [0], 0, 0, []) else none) else (bif Nat.beq pc 49 then some (.getfield 38, 52, [12, 9, 2, 120, 0], 0, 0, []) else none))))) else (bif Nat.blt pc 59 then (bif Nat.blt pc 54 then (bif Nat.blt pc 53 then (bif Nat.beq pc 52 then some (.iload_n 2, 53, [2], 0, 0, []) else none) else (bif Nat.beq pc 53 then some (.iaload, 54, [], 0, 0, []) else none)) else (bif Nat.blt pc 55 then (bif Nat.beq pc 54 then some (.iconst 4, 55, [], 4, 0, []) else none) else (bif Nat.blt pc 58 then (bif Nat.beq pc 55 then some (.if_icmp .eq 5, 58, [60], 0, 0, []) else none) else (bif Nat.beq pc 58 then some (.iconst 0, 59, [], 0, 0, []) else none)))) else (bif Nat.blt pc 64 then (bif Nat.blt pc 60 then (bif Nat.beq pc 59 then some (.ireturn, 60, [3], 0, 0, []) else none) else (bif Nat.blt pc 61 then (bif Nat.beq pc 60 then some (.aload_n 0, 61, [0], 0, 0, []) else none) else (bif Nat.beq pc 61 then some (.getfield 41, 64, [12, 10, 2, 121, 0], 0, 0, []) else none))) else (bif Nat.blt pc 65 then (bif Nat.beq pc 64 then some (.iload_n 1, 65, [1], 0, 0, []) else none) else (bif Nat.blt pc 66 then (bif Nat.beq pc 65 then some (.iaload, 66, [], 0, 0, []) else none) else (bif Nat.beq pc 66 then some (.aload_n 0, 67, [0], 0, 0, []) else none))))))) else (bif Nat.blt pc 101 then (bif Nat.blt pc 85 then (bif Nat.blt pc 76 then (bif Nat.blt pc 71 then (bif Nat.blt pc 70 then (bif Nat.beq pc 67 then some (.getfield 41, 70, [12, 10, 2, 121, 0], 0, 0, []) else none) else (bif Nat.beq pc 70 then some (.iload_n 2, 71, [2], 0, 0, []) else none)) else (bif Nat.blt pc 72 then (bif Nat.beq pc 71 then some (.iaload, 72, [], 0, 0, []) else none) else (bif Nat.blt pc 75 then (bif Nat.beq pc 72 then some (.if_icmp .eq 62, 75, [134], 0, 0, []) else none) else (bif Nat.beq pc 75 then some (.aload_n 0, 76, [0], 0, 0, []) else none)))) else (bif Nat.blt pc 80 then (bif Nat.blt pc 79 then (bif Nat.beq pc 76 then some (.getfield 29, 79, [12, 6, 2, 118, 0], 0, 0, []) else none) else (bif Nat.beq pc 79 then some (.aload_n 0, 80, [0], 0, 0, []) else none)) else (bif Nat.blt pc 83 then (bif Nat.beq pc 80 then some (.getfield 41, 83, [12, 10, 2, 121, 0], 0, 0, []) else none) else (bif Nat.blt pc 84 then (bif Nat.beq pc 83 then some (.iload_n 1, 84, [1], 0, 0, []) else none) else (bif Nat.beq pc 84 then some (.iaload, 85, [], 0, 0, []) else none))))) else (bif Nat.blt pc 94 then (bif Nat.blt pc 87 then (bif Nat.blt pc 86 then (bif Nat.beq pc 85 then some (.iaload, 86, [], 0, 0, []) else none) else (bif Nat.beq pc 86 then some (.aload_n 0, 87, [0], 0, 0, []) else none)) else (bif Nat.blt pc 90 then (bif Nat.beq pc 87 then some (.getfield 29, 90, [12, 6, 2, 118, 0], 0, 0, []) else none) else (bif Nat.blt pc 91 then (bif Nat.beq pc 90 then some (.aload_n 0, 91, [0], 0, 0, []) else none) else (bif Nat.beq pc 91 then some (.getfield 41, 94, [12, 10, 2, 121, 0], 0, 0, []) else none)))) else (bif Nat.blt pc 96 then (bif Nat.blt pc 95 then (bif Nat.beq pc 94 then some (.iload_n 2, 95, [2], 0, 0, []) else none) else (bif Nat.beq pc 95 then some (.iaload, 96, [], 0, 0, []) else none)) else (bif Nat.blt pc 97 then (bif Nat.beq pc 96 then some (.iaload, 97, [], 0, 0, []) else none) else (bif Nat.blt pc 100 then (bif Nat.beq pc 97 then some (.if_icmp .ne 37, 100, [134], 0, 0, []) else none) else (bif Nat.beq pc 100 then some (.aload_n 0, 101, [0], 0, 0, []) else none)))))) else (bif Nat.blt pc 119 then (bif Nat.blt pc 110 then (bif Nat.blt pc 105 then (bif Nat.blt pc 104 then (bif Nat.beq pc 101 then some (.getfield 44, 104, [12, 11, 2, 122, 0], 0, 0, []) else none) else (bif Nat.beq pc 104 then some (.iload_n 1, 105, [1], 0, 0, []) else none)) else (bif Nat.blt pc 106 then (bif Nat.beq pc 105 then some (.iaload, 106, [], 0, 0, []) else none) else (bif Nat.blt pc 107 then (bif Nat.beq pc 106 then some (.aload_n 0, 107, [0], 0, 0, []) else none) else (bif Nat.beq pc 107 then some (.getfield 44, 110, [12, 11, 2, 122, 0], 0, 0, []) else none)))) else (bif Nat.blt pc 112 then (bif Nat.blt pc 111 then (bif Nat.beq pc 110 then some (.iload_n 2, 111, [2], 0, 0, []) else none) else (bif Nat.beq pc 111 then some (.iaload, 112, [], 0, 0, []) else none)) else (bif Nat.blt pc 115 then (bif Nat.beq pc 112 then some (.if_icmp .ne 22, 115, [134], 0, 0, []) else none) else (bif Nat.blt pc 116 then (bif Nat.beq pc 115 then some (.aload_n 0, 116, [0], 0, 0, []) else none) else (bif Nat.beq pc 116 then some (.getfield 53, 119, [12, 14, 2, 125, 0], 0, 0, []) else none))))) else (bif Nat.blt pc 126 then (bif Nat.blt pc 121 then (bif Nat.blt pc 120 then (bif Nat.beq pc 119 then some (.iload_n 1, 120, [1], 0, 0, []) else none) else (bif Nat.beq pc 120 then some (.iaload, 121, [], 0, 0, []) else none)) else (bif Nat.blt pc 122 then (bif Nat.beq pc 121 then some (.aload_n 0, 122, [0], 0, 0, []) else none) else (bif Nat.blt pc 125 then (bif Nat.beq pc 122 then some (.getfield 53, 125, [12, 14, 2, 125, 0], 0, 0, []) else none) else (bif Nat.beq pc 125 then some (.iload_n 2, 126, [2], 0, 0, []) else none)))) else (bif Nat.blt pc 131 then (bif Nat.blt pc 127 then (bif Nat.beq pc 126 then some (.iaload, 127, [], 0, 0, []) else none) else (bif Nat.blt pc 130 then (bif Nat.beq pc 127 then some (.if_icmp .ne 7, 130, [134], 0, 0, []) else none) else (bif Nat.beq pc 130 then some (.iconst 1, 131, [], 1, 0, []) else none))) else (bif Nat.blt pc 134 then (bif Nat.beq pc 131 then some (.goto 4, 134, [135], 0, 0, []) else none) else (bif Nat.blt pc 135 then (bif Nat.beq pc 134 then some (.iconst 0, 135, [], 0, 0, []) else none) else (bif Nat.beq pc 135 then some (.ireturn, 136, [3], 0, 0, []) else none))))))))
theorem okX11_areJoined : ∀ pc Y, pfX11_areJoined pc = some Y → OKI m_X11_areJoined pc Y := fun pc Y => ((bt_node (bt_node (bt_node (bt_node (bt_node (bt_node (bt_leaf (P := OKI m_X11_areJoined) oX11_areJoined_0) (bt_leaf (P := OKI m_X11_areJoined) oX11_areJoined_1)) (bt_node (bt_leaf (P := OKI m_X11_areJoined) oX11_areJoined_4) (bt_node (bt_leaf (P := OKI m_X11_areJoined) oX11_areJoined_5) (bt_leaf (P := OKI m_X11_areJoined) oX11_areJoined_6)))) (bt_node (bt_node (bt_leaf (P := OKI m_X11_areJoined) oX11_areJoined_9) (bt_leaf (P := OKI m_X11_areJoined) oX11_areJoined_10)) (bt_node (bt_leaf (P := OKI m_X11_areJoined) oX11_areJoined_13) (bt_node (bt_leaf (P := OKI m_X11_areJoined) oX11_areJoined_14) (bt_leaf (P := OKI m_X11_areJoined) oX11_areJoined_15))))) (bt_node (bt_node (bt_node (bt_leaf (P := OKI m_X11_areJoined) oX11_areJoined_18) (bt_leaf (P := OKI m_X11_areJoined) oX11_areJoined_19)) (bt_node (bt_leaf (P := OKI m_X11_areJoined) oX11_areJoined_22) (bt_node (bt_leaf (P := OKI m_X11_areJoined) oX11_areJoined_23) (bt_leaf (P := OKI m_X11_areJoined) oX11_areJoined_24)))) (bt_node (bt_node (bt_leaf (P := OKI m_X11_areJoined) oX11_areJoined_25) (bt_leaf (P := OKI m_X11_areJoined) oX11_areJoined_28)) (bt_node (bt_leaf (P := OKI m_X11_areJoined) oX11_areJoined_29) (bt_node (bt_leaf (P := OKI m_X11_areJoined) oX11_areJoined_32) (bt_leaf (P := OKI m_X11_areJoined) oX11_areJoined_33)))))) (bt_node (bt_node (bt_node (bt_node (bt_leaf (P := OKI m_X11_areJoined) oX11_areJoined_34) (bt_leaf (P := OKI m_X11_areJoined) oX11_areJoined_35)) (bt_node (bt_leaf (P := OKI m_X11_areJoined) oX11_areJoined_38) (bt_node (bt_leaf (P := OKI m_X11_areJoined) oX11_areJoined_39) (bt_leaf (P := OKI m_X11_areJoined) oX11_areJoined_42)))) (bt_node (bt_node (bt_leaf (P := OKI m_X11_areJoined) oX11_areJoined_43) (bt_leaf (P := OKI m_X11_areJoined) oX11_areJoined_44)) (bt_node (bt_leaf (P := OKI m_X11_areJoined) oX11_areJoined_45) (bt_node (bt_leaf (P := OKI m_X11_areJoined) oX11_areJoined_48) (bt_leaf (P := OKI m_X11_areJoined) oX11_areJoined_49))))) (bt_node (bt_node (bt_node (bt_leaf (P := OKI m_X11_areJoined) oX11_areJoined_52) (bt_leaf (P := OKI m_X11_areJoined) oX11_areJoined_53)) (bt_node (bt_leaf (P := OKI m_X11_areJoined) oX11_areJoined_54) (bt_node (bt_leaf (P := OKI m_X11_areJoined) oX11_areJoined_55) (bt_leaf (P := OKI m_X11_areJoined) oX11_areJoined_58)))) (bt_node (bt_node (bt_leaf (P := OKI m_X11_areJoined) oX11_areJoined_59) (bt_node (bt_leaf (P := OKI m_X11_areJoined) oX11_areJoined_60) (bt_leaf (P := OKI m_X11_areJoined) oX11_areJoined_61))) (bt_node (bt_leaf (P := OKI m_X11_areJoined) oX11_areJoined_64) (bt_node (bt_leaf (P := OKI m_X11_areJoined) oX11_areJoined_65) (bt_leaf (P := OKI m_X11_areJoined) oX11_areJoined_66))))))) (bt_node (bt_node (bt_node (bt_node (bt_node (bt_leaf (P := OKI m_X11_areJoined) oX11_areJoined_67) (bt_leaf (P := OKI m_X11_areJoined) oX11_areJoined_70)) (bt_node (bt_leaf (P := OKI m_X11_areJoined) oX11_areJoined_71) (bt_node (bt_leaf (P := OKI m_X11_areJoined) oX11_areJoined_72) (bt_leaf (P := OKI m_X11_areJoined) oX11_areJoined_75)))) (bt_node (bt_node (bt_leaf (P := OKI m_X11_areJoined) oX11_areJoined_76) (bt_leaf (P := OKI m_X11_areJoined) oX11_areJoined_79)) (bt_node (bt_leaf (P := OKI m_X11_areJoined) oX11_areJoined_80) (bt_node (bt_leaf (P := OKI m_X11_areJoined) oX11_areJoined_83) (bt_leaf (P := OKI m_X11_areJoined) oX11_areJoined_84))))) (bt_node (bt_node (bt_node (bt_leaf (P := OKI m_X11_areJoined) oX11_areJoined_85) (bt_leaf (P := OKI m_X11_areJoined) oX11_areJoined_86)) (bt_node (bt_leaf (P := OKI m_X11_areJoined) oX11_areJoined_87) (bt_node (bt_leaf (P := OKI m_X11_areJoined) oX11_areJoined_90) (bt_leaf (P := OKI m_X11_areJoined) oX11_areJoined_91)))) (bt_node (bt_node (bt_leaf (P := OKI m_X11_areJoined) oX11_areJoined_94) (bt_leaf (P := OKI m_X11_areJoined) oX11_areJoined_95)) (bt_node (bt_leaf (P := OKI m_X11_areJoined) oX11_areJoined_96) (bt_node (bt_leaf (P := OKI m_X11_areJoined) oX11_areJoined_97) (bt_leaf (P := OKI m_X11_areJoined) oX11_areJoined_100)))))) (bt_node (bt_node (bt_node (bt_node (bt_leaf (P := OKI m_X11_areJoined) oX11_areJoined_101) (bt_leaf (P := OKI m_X11_areJoined) oX11_areJoined_104)) (bt_node (bt_leaf (P := OKI m_X11_areJoined) oX11_areJoined_105) (bt_node (bt_leaf (P := OKI m_X11_areJoined) oX11_areJoined_106) (bt_leaf (P := OKI m_X11_areJoined) oX11_areJoined_107)))) (bt_node (bt_node (bt_leaf (P := OKI m_X11_areJoined) oX11_areJoined_110) (bt_leaf (P := OKI m_X11_areJoined) oX11_areJoined_111)) (bt_node (bt_leaf (P := OKI m_X11_areJoined) oX11_areJoined_112) (bt_node (bt_leaf (P := OKI m_X11_areJoined) oX11_areJoined_115) (bt_leaf (P := OKI m_X11_areJoined) oX11_areJoined_116))))) (bt_node (bt_node (bt_node (bt_leaf (P := OKI m_X11_areJoined) oX11_areJoined_119) (bt_leaf (P := OKI m_X11_areJoined) oX11_areJoined_120)) (bt_node (bt_leaf (P := OKI m_X11_areJoined) oX11_areJoined_121) (bt_node (bt_leaf (P := OKI m_X11_areJoined) oX11_areJoined_122) (bt_leaf (P := OKI m_X11_areJoined) oX11_areJoined_125)))) (bt_node (bt_node (bt_leaf (P := OKI m_X11_areJoined) oX11_areJoined_126) (bt_node (bt_leaf (P := OKI m_X11_areJoined) oX11_areJoined_127) (bt_leaf (P := OKI m_X11_areJoined) oX11_areJoined_130))) (bt_node (bt_leaf (P := OKI m_X11_areJoined) oX11_areJoined_131) (bt_node (bt_leaf (P := OKI m_X11_areJoined) oX11_areJoined_134) (bt_leaf (P := OKI m_X11_areJoined) oX11_areJoined_135)))))))) : pfX11_areJoined pc = some Y → OKI m_X11_areJoined pc Y)
def stpX11_areJoined (pc : Nat) : Option (List Bool) := (bif Nat.blt pc 60 then (bif Nat.blt pc 58 then (bif Nat.beq pc 38 then some [true, true, true] else none) else (bif Nat.beq pc 58 then some [false, false, false] else none)) else (bif Nat.blt pc 134 then (bif Nat.beq pc 60 then some [true, true, true] else none) else (bif Nat.blt pc 135 then (bif Nat.beq pc 134 then some [false, false, false] else none) else (bif Nat.beq pc 135 then some [false, false, false] else none))))
def bX11_areJoined_0 (d rc rs : Nat) (a1 : Int32) (a2 : Int32) (σ : XH) (Q : XV → XH → Prop) : Prop :=
  ((hr σ 12 0 18 = some (129, 0) ∧ ((vp_in a1 (hn σ 129 0) ∧ ((0 < (hi σ 129 0 a1.toNatClampNeg) → Ex d rc rs m_X11_areJoined 58 [vU, vU, vU] [] σ Q) ∧ (¬ 0 < (hi σ 129 0 a1.toNatClampNeg) → ((hr σ 12 0 18 = some (129, 0) ∧ ((vp_in a2 (hn σ 129 0) ∧ ((0 < (hi σ 129 0 a2.toNatClampNeg) → Ex d rc rs m_X11_areJoined 58 [vU, vU, vU] [] σ Q) ∧ (¬ 0 < (hi σ 129 0 a2.toNatClampNeg) → ((hr σ 12 0 9 = some (120, 0) ∧ ((vp_in a1 (hn σ 120 0) ∧ (((hi σ 120 0 a1.toNatClampNeg) = 3 → Ex d rc rs m_X11_areJoined 38 [vR (some (12, 0)), vI a1, vI a2] [] σ Q) ∧ (¬ (hi σ 120 0 a1.toNatClampNeg) = 3 → ((hr σ 12 0 9 = some (120, 0) ∧ ((vp_in a1 (hn σ 120 0) ∧ (((hi σ 120 0 a1.toNatClampNeg) = 4 → Ex d rc rs m_X11_areJoined 38 [vR (some (12, 0)), vI a1, vI a2] [] σ Q) ∧ (¬ (hi σ 120 0 a1.toNatClampNeg) = 4 → Ex d rc rs m_X11_areJoined 58 [vU, vU, vU] [] σ Q))))))))))))))))))))))))
theorem sX11_areJoined_0 {d rc rs : Nat} {a1 : Int32} {a2 : Int32} {σ : XH} {Q : XV → XH → Prop} (h : bX11_areJoined_0 d rc rs a1 a2 σ Q) : Ex d rc rs m_X11_areJoined 0 [vR (some (12, 0)), vI a1, vI a2] [] σ Q :=
  xtree_sound (stop := stpX11_areJoined) okX11_areJoined 24 _ _ _ _ _ _ h
def bX11_areJoined_38 (d rc rs : Nat) (l1 : Int32) (l2 : Int32) (σ : XH) (Q : XV → XH → Prop) : Prop :=
  ((hr σ 12 0 9 = some (120, 0) ∧ ((vp_in l2 (hn σ 120 0) ∧ (((hi σ 120 0 l2.toNatClampNeg) = 3 → Ex d rc rs m_X11_areJoined 60 [vR (some (12, 0)), vI l1, vI l2] [] σ Q) ∧ (¬ (hi σ 120 0 l2.toNatClampNeg) = 3 → ((hr σ 12 0 9 = some (120, 0) ∧ ((vp_in l2 (hn σ 120 0) ∧ (((hi σ 120 0 l2.toNatClampNeg) = 4 → Ex d rc rs m_X11_areJoined 60 [vR (some (12, 0)), vI l1, vI l2] [] σ Q) ∧ (¬ (hi σ 120 0 l2.toNatClampNeg) = 4 → Ex d rc rs m_X11_areJoined 58 [vU, vU, vU] [] σ Q))))))))))))
theorem sX11_areJoined_38 {d rc rs : Nat} {l1 : Int32} {l2 : Int32} {σ : XH} {Q : XV → XH → Prop} (h : bX11_areJoined_38 d rc rs l1 l2 σ Q) : Ex d rc rs m_X11_areJoined 38 [vR (some (12, 0)), vI l1, vI l2] [] σ Q :=
  xtree_sound (stop := stpX11_areJoined) okX11_areJoined 14 _ _ _ _ _ _ h
def bX11_areJoined_58 (d rc rs : Nat)  (σ : XH) (Q : XV → XH → Prop) : Prop :=
  (((0 : Int32) = 0 ∨ (0 : Int32) = 1) ∧ Q (vI 0) σ)
theorem sX11_areJoined_58 {d rc rs : Nat}  {σ : XH} {Q : XV → XH → Prop} (h : bX11_areJoined_58 d rc rs  σ Q) : Ex d rc rs m_X11_areJoined 58 [vU, vU, vU] [] σ Q :=
  xtree_sound (stop := stpX11_areJoined) okX11_areJoined 4 _ _ _ _ _ _ h
def bX11_areJoined_60 (d rc rs : Nat) (l1 : Int32) (l2 : Int32) (σ : XH) (Q : XV → XH → Prop) : Prop :=
  ((hr σ 12 0 10 = some (121, 0) ∧ ((vp_in l1 (hn σ 121 0) ∧ ((hr σ 12 0 10 = some (121, 0) ∧ ((vp_in l2 (hn σ 121 0) ∧ (((hi σ 121 0 l1.toNatClampNeg) = (hi σ 121 0 l2.toNatClampNeg) → Ex d rc rs m_X11_areJoined 134 [vU, vU, vU] [] σ Q) ∧ (¬ (hi σ 121 0 l1.toNatClampNeg) = (hi σ 121 0 l2.toNatClampNeg) → ((hr σ 12 0 6 = some (118, 0) ∧ ((hr σ 12 0 10 = some (121, 0) ∧ ((vp_in l1 (hn σ 121 0) ∧ ((vp_in (hi σ 121 0 l1.toNatClampNeg) (hn σ 118 0) ∧ ((hr σ 12 0 6 = some (118, 0) ∧ ((hr σ 12 0 10 = some (121, 0) ∧ ((vp_in l2 (hn σ 121 0) ∧ ((vp_in (hi σ 121 0 l2.toNatClampNeg) (hn σ 118 0) ∧ (((hi σ 118 0 (hi σ 121 0 l1.toNatClampNeg).toNatClampNeg) = (hi σ 118 0 (hi σ 121 0 l2.toNatClampNeg).toNatClampNeg) → ((hr σ 12 0 11 = some (122, 0) ∧ ((vp_in l1 (hn σ 122 0) ∧ ((hr σ 12 0 11 = some (122, 0) ∧ ((vp_in l2 (hn σ 122 0) ∧ (((hi σ 122 0 l1.toNatClampNeg) = (hi σ 122 0 l2.toNatClampNeg) → ((hr σ 12 0 14 = some (125, 0) ∧ ((vp_in l1 (hn σ 125 0) ∧ ((hr σ 12 0 14 = some (125, 0) ∧ ((vp_in l2 (hn σ 125 0) ∧ (((hi σ 125 0 l1.toNatClampNeg) = (hi σ 125 0 l2.toNatClampNeg) → Ex d rc rs m_X11_areJoined 135 [vU, vU, vU] [vI 1] σ Q) ∧ (¬ (hi σ 125 0 l1.toNatClampNeg) = (hi σ 125 0 l2.toNatClampNeg) → Ex d rc rs m_X11_areJoined 134 [vU, vU, vU] [] σ Q))))))))))) ∧ (¬ (hi σ 122 0 l1.toNatClampNeg) = (hi σ 122 0 l2.toNatClampNeg) → Ex d rc rs m_X11_areJoined 134 [vU, vU, vU] [] σ Q))))))))))) ∧ (¬ (hi σ 118 0 (hi σ 121 0 l1.toNatClampNeg).toNatClampNeg) = (hi σ 118 0 (hi σ 121 0 l2.toNatClampNeg).toNatClampNeg) → Ex d rc rs m_X11_areJoined 134 [vU, vU, vU] [] σ Q))))))))))))))))))))))))))))
set_option maxRecDepth 40000 in
set_option maxHeartbeats 4000000 in
theorem sX11_areJoined_60 {d rc rs : Nat} {l1 : Int32} {l2 : Int32} {σ : XH} {Q : XV → XH → Prop} (h : bX11_areJoined_60 d rc rs l1 l2 σ Q) : Ex d rc rs m_X11_areJoined 60 [vR (some (12, 0)), vI l1, vI l2] [] σ Q :=
  xtree_sound (stop := stpX11_areJoined) okX11_areJoined 46 _ _ _ _ _ _ h
def bX11_areJoined_134 (d rc rs : Nat)  (σ : XH) (Q : XV → XH → Prop) : Prop :=
  Ex d rc rs m_X11_areJoined 135 [vU, vU, vU] [vI 0] σ Q
theorem sX11_areJoined_134 {d rc rs : Nat}  {σ : XH} {Q : XV → XH → Prop} (h : bX11_areJoined_134 d rc rs  σ Q) : Ex d rc rs m_X11_areJoined 134 [vU, vU, vU] [] σ Q :=
  xtree_sound (stop := stpX11_areJoined) okX11_areJoined 3 _ _ _ _ _ _ h
def bX11_areJoined_135 (d rc rs : Nat) (q0 : Int32) (σ : XH) (Q : XV → XH → Prop) : Prop :=
  ((q0 = 0 ∨ q0 = 1) ∧ Q (vI q0) σ)
theorem sX11_areJoined_135 {d rc rs : Nat} {q0 : Int32} {σ : XH} {Q : XV → XH → Prop} (h : bX11_areJoined_135 d rc rs q0 σ Q) : Ex d rc rs m_X11_areJoined 135 [vU, vU, vU] [vI q0] σ Q :=
  xtree_sound (stop := stpX11_areJoined) okX11_areJoined 3 _ _ _ _ _ _ h
/-! SpotTimersModel.difference(II)J -/
theorem dX11_difference_0 : decode cX11_difference 0 = .ok (.aload_n 0, 1) := by decide +kernel
theorem dX11_difference_1 : decode cX11_difference 1 = .ok (.iload_n 1, 1) := by decide +kernel
theorem dX11_difference_2 : decode cX11_difference 2 = .ok (.invokevirtual 249, 3) := by decide +kernel
theorem dX11_difference_5 : decode cX11_difference 5 = .ok (.ifCond .eq 25, 3) := by decide +kernel
theorem dX11_difference_8 : decode cX11_difference 8 = .ok (.aload_n 0, 1) := by decide +kernel
theorem dX11_difference_9 : decode cX11_difference 9 = .ok (.iload_n 2, 1) := by decide +kernel
theorem dX11_difference_10 : decode cX11_difference 10 = .ok (.invokevirtual 249, 3) := by decide +kernel
theorem dX11_difference_13 : decode cX11_difference 13 = .ok (.ifCond .eq 17, 3) := by decide +kernel
theorem dX11_difference_16 : decode cX11_difference 16 = .ok (.iload_n 1, 1) := by decide +kernel
theorem dX11_difference_17 : decode cX11_difference 17 = .ok (.iload_n 2, 1) := by decide +kernel
theorem dX11_difference_18 : decode cX11_difference 18 = .ok (.if_icmp .eq 12, 3) := by decide +kernel
theorem dX11_difference_21 : decode cX11_difference 21 = .ok (.aload_n 0, 1) := by decide +kernel
theorem dX11_difference_22 : decode cX11_difference 22 = .ok (.iload_n 1, 1) := by decide +kernel
theorem dX11_difference_23 : decode cX11_difference 23 = .ok (.iload_n 2, 1) := by decide +kernel
theorem dX11_difference_24 : decode cX11_difference 24 = .ok (.invokevirtual 436, 3) := by decide +kernel
theorem dX11_difference_27 : decode cX11_difference 27 = .ok (.ifCond .ne 7, 3) := by decide +kernel
theorem dX11_difference_30 : decode cX11_difference 30 = .ok (.ldc2_w 397, 3) := by decide +kernel
theorem dX11_difference_33 : decode cX11_difference 33 = .ok (.lreturn, 1) := by decide +kernel
theorem dX11_difference_34 : decode cX11_difference 34 = .ok (.aload_n 0, 1) := by decide +kernel
theorem dX11_difference_35 : decode cX11_difference 35 = .ok (.iload_n 1, 1) := by decide +kernel
theorem dX11_difference_36 : decode cX11_difference 36 = .ok (.iconst 0, 1) := by decide +kernel
theorem dX11_difference_37 : decode cX11_difference 37 = .ok (.invokevirtual 292, 3) := by decide +kernel
theorem dX11_difference_40 : decode cX11_difference 40 = .ok (.istore_n 3, 1) := by decide +kernel
theorem dX11_difference_41 : decode cX11_difference 41 = .ok (.aload_n 0, 1) := by decide +kernel
theorem dX11_difference_42 : decode cX11_difference 42 = .ok (.iload_n 2, 1) := by decide +kernel
theorem dX11_difference_43 : decode cX11_difference 43 = .ok (.iconst 0, 1) := by decide +kernel
theorem dX11_difference_44 : decode cX11_difference 44 = .ok (.invokevirtual 292, 3) := by decide +kernel
theorem dX11_difference_47 : decode cX11_difference 47 = .ok (.istore 4, 2) := by decide +kernel
theorem dX11_difference_49 : decode cX11_difference 49 = .ok (.iload_n 3, 1) := by decide +kernel
theorem dX11_difference_50 : decode cX11_difference 50 = .ok (.ldc_w 256, 3) := by decide +kernel
theorem dX11_difference_53 : decode cX11_difference 53 = .ok (.if_icmp .eq 11, 3) := by decide +kernel
theorem dX11_difference_56 : decode cX11_difference 56 = .ok (.iload 4, 2) := by decide +kernel
theorem dX11_difference_58 : decode cX11_difference 58 = .ok (.ldc_w 256, 3) := by decide +kernel
theorem dX11_difference_61 : decode cX11_difference 61 = .ok (.if_icmp .ne 9, 3) := by decide +kernel
theorem dX11_difference_64 : decode cX11_difference 64 = .ok (.ldc2_w 397, 3) := by decide +kernel
theorem dX11_difference_67 : decode cX11_difference 67 = .ok (.goto 8, 3) := by decide +kernel
theorem dX11_difference_70 : decode cX11_difference 70 = .ok (.iload_n 3, 1) := by decide +kernel
theorem dX11_difference_71 : decode cX11_difference 71 = .ok (.iload 4, 2) := by decide +kernel
theorem dX11_difference_73 : decode cX11_difference 73 = .ok (.isub, 1) := by decide +kernel
theorem dX11_difference_74 : decode cX11_difference 74 = .ok (.i2l, 1) := by decide +kernel
theorem dX11_difference_75 : decode cX11_difference 75 = .ok (.lreturn, 1) := by decide +kernel
theorem oX11_difference_0 : OKI 227 0 (.aload_n 0, 1, [0], 0, 0, []) := And.intro dX11_difference_0 (And.intro rfl (rfl))
theorem oX11_difference_1 : OKI 227 1 (.iload_n 1, 2, [1], 0, 0, []) := And.intro dX11_difference_1 (And.intro rfl (rfl))
theorem oX11_difference_2 : OKI 227 2 (.invokevirtual 249, 5, [151, 2, 13, 0, 0, 1], 0, 0, []) := And.intro dX11_difference_2 (And.intro rfl (And.intro (by decide) (And.intro (by decide) (And.intro mo_X11_isReading (And.intro (tm_6 _ (List.mem_of_getElem? (i := 231) rfl) rfl) (And.intro (tm_6 _ (List.mem_of_getElem? (i := 233) rfl) rfl) (And.intro (pm_3 _ (List.mem_of_getElem? (i := 15) rfl)) (Or.inl ⟨(RX11, TX11, 69), rfl, rfl⟩))))))))
theorem oX11_difference_5 : OKI 227 5 (.ifCond .eq 25, 8, [30], 0, 0, []) := And.intro dX11_difference_5 (And.intro rfl (by decide))
theorem oX11_difference_8 : OKI 227 8 (.aload_n 0, 9, [0], 0, 0, []) := And.intro dX11_difference_8 (And.intro rfl (rfl))
theorem oX11_difference_9 : OKI 227 9 (.iload_n 2, 10, [2], 0, 0, []) := And.intro dX11_difference_9 (And.intro rfl (rfl))
theorem oX11_difference_10 : OKI 227 10 (.invokevirtual 249, 13, [151, 2, 13, 0, 0, 1], 0, 0, []) := And.intro dX11_difference_10 (And.intro rfl (And.intro (by decide) (And.intro (by decide) (And.intro mo_X11_isReading (And.intro (tm_6 _ (List.mem_of_getElem? (i := 231) rfl) rfl) (And.intro (tm_6 _ (List.mem_of_getElem? (i := 233) rfl) rfl) (And.intro (pm_3 _ (List.mem_of_getElem? (i := 15) rfl)) (Or.inl ⟨(RX11, TX11, 69), rfl, rfl⟩))))))))
theorem oX11_difference_13 : OKI 227 13 (.ifCond .eq 17, 16, [30], 0, 0, []) := And.intro dX11_difference_13 (And.intro rfl (by decide))
theorem oX11_difference_16 : OKI 227 16 (.iload_n 1, 17, [1], 0, 0, []) := And.intro dX11_difference_16 (And.intro rfl (rfl))
theorem oX11_difference_17 : OKI 227 17 (.iload_n 2, 18, [2], 0, 0, []) := And.intro dX11_difference_17 (And.intro rfl (rfl))
theorem oX11_difference_18 : OKI 227 18 (.if_icmp .eq 12, 21, [30], 0, 0, []) := And.intro dX11_difference_18 (And.intro rfl (by decide))
theorem oX11_difference_21 : OKI 227 21 (.aload_n 0, 22, [0], 0, 0, []) := And.intro dX11_difference_21 (And.intro rfl (rfl))
theorem oX11_difference_22 : OKI 227 22 (.iload_n 1, 23, [1], 0, 0, []) := And.intro dX11_difference_22 (And.intro rfl (rfl))
theorem oX11_difference_23 : OKI 227 23 (.iload_n 2, 24, [2], 0, 0, []) := And.intro dX11_difference_23 (And.intro rfl (rfl))
theorem oX11_difference_24 : OKI 227 24 (.invokevirtual 436, 27, [226, 3, 13, 0, 0, 1], 0, 0, []) := And.intro dX11_difference_24 (And.intro rfl (And.intro (by decide) (And.intro (by decide) (And.intro mo_X11_areJoined (And.intro (tm_8 _ (List.mem_of_getElem? (i := 65) rfl) rfl) (And.intro (tm_8 _ (List.mem_of_getElem? (i := 67) rfl) rfl) (And.intro (pm_6 _ (List.mem_of_getElem? (i := 14) rfl)) (Or.inl ⟨(RX11, TX11, 69), rfl, rfl⟩))))))))
theorem oX11_difference_27 : OKI 227 27 (.ifCond .ne 7, 30, [34], 0, 0, []) := And.intro dX11_difference_27 (And.intro rfl (by decide))
theorem oX11_difference_30 : OKI 227 30 (.ldc2_w 397, 33, [], 0, (-9223372036854775808), []) := And.intro dX11_difference_30 (And.intro rfl (tm_7 _ (List.mem_of_getElem? (i := 225) rfl) rfl))
theorem oX11_difference_33 : OKI 227 33 (.lreturn, 34, [], 0, 0, []) := And.intro dX11_difference_33 rfl
theorem oX11_difference_34 : OKI 227 34 (.aload_n 0, 35, [0], 0, 0, []) := And.intro dX11_difference_34 (And.intro rfl (rfl))
theorem oX11_difference_35 : OKI 227 35 (.iload_n 1, 36, [1], 0, 0, []) := And.intro dX11_difference_35 (And.intro rfl (rfl))
theorem oX11_difference_36 : OKI 227 36 (.iconst 0, 37, [], 0, 0, []) := And.intro dX11_difference_36 (And.intro rfl (by decide +kernel))
theorem oX11_difference_37 : OKI 227 37 (.invokevirtual 292, 40, [171, 3, 13, 0, 0, 1], 0, 0, []) := And.intro dX11_difference_37 (And.intro rfl (And.intro (by decide) (And.intro (by decide) (And.intro mo_X11_seenOf (And.intro (tm_7 _ (List.mem_of_getElem? (i := 54) rfl) rfl) (And.intro (tm_7 _ (List.mem_of_getElem? (i := 56) rfl) rfl) (And.intro (pm_4 _ (List.mem_of_getElem? (i := 8) rfl)) (Or.inl ⟨(RX11, TX11, 69), rfl, rfl⟩))))))))
theorem oX11_difference_40 : OKI 227 40 (.istore_n 3, 41, [3], 0, 0, []) := And.intro dX11_difference_40 (And.intro rfl (And.intro rfl (by decide)))
theorem oX11_difference_41 : OKI 227 41 (.aload_n 0, 42, [0], 0, 0, []) := And.intro dX11_difference_41 (And.intro rfl (rfl))
theorem oX11_difference_42 : OKI 227 42 (.iload_n 2, 43, [2], 0, 0, []) := And.intro dX11_difference_42 (And.intro rfl (rfl))
theorem oX11_difference_43 : OKI 227 43 (.iconst 0, 44, [], 0, 0, []) := And.intro dX11_difference_43 (And.intro rfl (by decide +kernel))
theorem oX11_difference_44 : OKI 227 44 (.invokevirtual 292, 47, [171, 3, 13, 0, 0, 1], 0, 0, []) := And.intro dX11_difference_44 (And.intro rfl (And.intro (by decide) (And.intro (by decide) (And.intro mo_X11_seenOf (And.intro (tm_7 _ (List.mem_of_getElem? (i := 54) rfl) rfl) (And.intro (tm_7 _ (List.mem_of_getElem? (i := 56) rfl) rfl) (And.intro (pm_4 _ (List.mem_of_getElem? (i := 8) rfl)) (Or.inl ⟨(RX11, TX11, 69), rfl, rfl⟩))))))))
theorem oX11_difference_47 : OKI 227 47 (.istore 4, 49, [4], 0, 0, []) := And.intro dX11_difference_47 (And.intro rfl (And.intro rfl (by decide)))
theorem oX11_difference_49 : OKI 227 49 (.iload_n 3, 50, [3], 0, 0, []) := And.intro dX11_difference_49 (And.intro rfl (rfl))
theorem oX11_difference_50 : OKI 227 50 (.ldc_w 256, 53, [], (-1000000000), 0, []) := And.intro dX11_difference_50 (And.intro rfl (tm_7 _ (List.mem_of_getElem? (i := 11) rfl) rfl))
theorem oX11_difference_53 : OKI 227 53 (.if_icmp .eq 11, 56, [64], 0, 0, []) := And.intro dX11_difference_53 (And.intro rfl (by decide))
theorem oX11_difference_56 : OKI 227 56 (.iload 4, 58, [4], 0, 0, []) := And.intro dX11_difference_56 (And.intro rfl (rfl))
theorem oX11_difference_58 : OKI 227 58 (.ldc_w 256, 61, [], (-1000000000), 0, []) := And.intro dX11_difference_58 (And.intro rfl (tm_7 _ (List.mem_of_getElem? (i := 11) rfl) rfl))
theorem oX11_difference_61 : OKI 227 61 (.if_icmp .ne 9, 64, [70], 0, 0, []) := And.intro dX11_difference_61 (And.intro rfl (by decide))
theorem oX11_difference_64 : OKI 227 64 (.ldc2_w 397, 67, [], 0, (-9223372036854775808), []) := And.intro dX11_difference_64 (And.intro rfl (tm_7 _ (List.mem_of_getElem? (i := 225) rfl) rfl))
theorem oX11_difference_67 : OKI 227 67 (.goto 8, 70, [75], 0, 0, []) := And.intro dX11_difference_67 (And.intro rfl (by decide))
theorem oX11_difference_70 : OKI 227 70 (.iload_n 3, 71, [3], 0, 0, []) := And.intro dX11_difference_70 (And.intro rfl (rfl))
theorem oX11_difference_71 : OKI 227 71 (.iload 4, 73, [4], 0, 0, []) := And.intro dX11_difference_71 (And.intro rfl (rfl))
theorem oX11_difference_73 : OKI 227 73 (.isub, 74, [], 0, 0, []) := And.intro dX11_difference_73 rfl
theorem oX11_difference_74 : OKI 227 74 (.i2l, 75, [], 0, 0, []) := And.intro dX11_difference_74 rfl
theorem oX11_difference_75 : OKI 227 75 (.lreturn, 76, [], 0, 0, []) := And.intro dX11_difference_75 rfl
def pfX11_difference (pc : Nat) : Option XE := (bif Nat.blt pc 36 then (bif Nat.blt pc 18 then (bif Nat.blt pc 9 then (bif Nat.blt pc 2 then (bif Nat.blt pc 1 then (bif Nat.beq pc 0 then some (.aload_n 0, 1, [0], 0, 0, []) else none) else (bif Nat.beq pc 1 then some (.iload_n 1, 2, [1], 0, 0, []) else none)) else (bif Nat.blt pc 5 then (bif Nat.beq pc 2 then some (.invokevirtual 249, 5, [151, 2, 13, 0, 0, 1], 0, 0, []) else none) else (bif Nat.blt pc 8 then (bif Nat.beq pc 5 then some (.ifCond .eq 25, 8, [30], 0, 0, []) else none) else (bif Nat.beq pc 8 then some (.aload_n 0, 9, [0], 0, 0, []) else none)))) else (bif Nat.blt pc 13 then (bif Nat.blt pc 10 then (bif Nat.beq pc 9 then some (.iload_n 2, 10, [2], 0, 0, []) else none) else (bif Nat.beq pc 10 then some (.invokevirtual 249, 13, [151, 2, 13, 0, 0, 1], 0, 0, []) else none)) else (bif Nat.blt pc 16 then (bif Nat.beq pc 13 then some (.ifCond .eq 17, 16, [30], 0, 0, []) else none) else (bif Nat.blt pc 17 then (bif Nat.beq pc 16 then some (.iload_n 1, 17, [1], 0, 0, []) else none) else (bif Nat.beq pc 17 then some (.iload_n 2, 18, [2], 0, 0, []) else none))))) else (bif Nat.blt pc 27 then (bif Nat.blt pc 22 then (bif Nat.blt pc 21 then (bif Nat.beq pc 18 then some (.if_icmp .eq 12, 21, [30], 0, 0, []) else none) else (bif Nat.beq pc 21 then some (.aload_n 0, 22, [0], 0, 0, []) else none)) else (bif Nat.blt pc 23 then (bif Nat.beq pc 22 then some (.iload_n 1, 23, [1], 0, 0, []) else none) else (bif Nat.blt pc 24 then (bif Nat.beq pc 23 then some (.iload_n 2, 24, [2], 0, 0, []) else none) else (bif Nat.beq pc 24 then some (.invokevirtual 436, 27, [226, 3, 13, 0, 0, 1], 0, 0, []) else none)))) else (bif Nat.blt pc 33 then (bif Nat.blt pc 30 then (bif Nat.beq pc 27 then some (.ifCond .ne 7, 30, [34], 0, 0, []) else none) else (bif Nat.beq pc 30 then some (.ldc2_w 397, 33, [], 0, (-9223372036854775808), []) else none)) else (bif Nat.blt pc 34 then (bif Nat.beq pc 33 then some (.lreturn, 34, [], 0, 0, []) else none) else (bif Nat.blt pc 35 then (bif Nat.beq pc 34 then some (.aload_n 0, 35, [0], 0, 0, []) else none) else (bif Nat.beq pc 35 then some (.iload_n 1, 36, [1], 0, 0, []) else none)))))) else (bif Nat.blt pc 53 then (bif Nat.blt pc 43 then (bif Nat.blt pc 40 then (bif Nat.blt pc 37 then (bif Nat.beq pc 36 then some (.iconst 0, 37, [], 0, 0, []) else none) else (bif Nat.beq pc 37 then some (.invokevirtual 292, 40, [171, 3, 13, 0, 0, 1], 0, 0, []) else none)) else (bif Nat.blt pc 41 then (bif Nat.beq pc 40 then some (.istore_n 3, 41, [3], 0, 0, []) else none) else (bif Nat.blt pc 42 then (bif Nat.beq pc 41 then some (.aload_n 0, 42, [0], 0, 0, []) else none) else (bif Nat.beq pc 42 then some (.iload_n 2, 43, [2], 0, 0, []) else none)))) else (bif Nat.blt pc 47 then (bif Nat.blt pc 44 then (bif Nat.beq pc 43 then some (.iconst 0, 44, [], 0, 0, []) else none) else (bif Nat.beq pc 44 then some (.invokevirtual 292, 47, [171, 3, 13, 0, 0, 1], 0, 0, []) else none)) else (bif Nat.blt pc 49 then (bif Nat.beq pc 47 then some (.istore 4, 49, [4], 0, 0, []) else none) else (bif Nat.blt pc 50 then (bif Nat.beq pc 49 then some (.iload_n 3, 50, [3], 0, 0, []) else none) else (bif Nat.beq pc 50 then some (.ldc_w 256, 53, [], (-1000000000), 0, []) else none))))) else (bif Nat.blt pc 67 then (bif Nat.blt pc 58 then (bif Nat.blt pc 56 then (bif Nat.beq pc 53 then some (.if_icmp .eq 11, 56, [64], 0, 0, []) else none) else (bif Nat.beq pc 56 then some (.iload 4, 58, [4], 0, 0, []) else none)) else (bif Nat.blt pc 61 then (bif Nat.beq pc 58 then some (.ldc_w 256, 61, [], (-1000000000), 0, []) else none) else (bif Nat.blt pc 64 then (bif Nat.beq pc 61 then some (.if_icmp .ne 9, 64, [70], 0, 0, []) else none) else (bif Nat.beq pc 64 then some (.ldc2_w 397, 67, [], 0, (-9223372036854775808), []) else none)))) else (bif Nat.blt pc 73 then (bif Nat.blt pc 70 then (bif Nat.beq pc 67 then some (.goto 8, 70, [75], 0, 0, []) else none) else (bif Nat.blt pc 71 then (bif Nat.beq pc 70 then some (.iload_n 3, 71, [3], 0, 0, []) else none) else (bif Nat.beq pc 71 then some (.iload 4, 73, [4], 0, 0, []) else none))) else (bif Nat.blt pc 74 then (bif Nat.beq pc 73 then some (.isub, 74, [], 0, 0, []) else none) else (bif Nat.blt pc 75 then (bif Nat.beq pc 74 then some (.i2l, 75, [], 0, 0, []) else none) else (bif Nat.beq pc 75 then some (.lreturn, 76, [], 0, 0, []) else none)))))))
theorem okX11_difference : ∀ pc Y, pfX11_difference pc = some Y → OKI m_X11_difference pc Y := fun pc Y => ((bt_node (bt_node (bt_node (bt_node (bt_node (bt_leaf (P := OKI m_X11_difference) oX11_difference_0) (bt_leaf (P := OKI m_X11_difference) oX11_difference_1)) (bt_node (bt_leaf (P := OKI m_X11_difference) oX11_difference_2) (bt_node (bt_leaf (P := OKI m_X11_difference) oX11_difference_5) (bt_leaf (P := OKI m_X11_difference) oX11_difference_8)))) (bt_node (bt_node (bt_leaf (P := OKI m_X11_difference) oX11_difference_9) (bt_leaf (P := OKI m_X11_difference) oX11_difference_10)) (bt_node (bt_leaf (P := OKI m_X11_difference) oX11_difference_13) (bt_node (bt_leaf (P := OKI m_X11_difference) oX11_difference_16) (bt_leaf (P := OKI m_X11_difference) oX11_difference_17))))) (bt_node (bt_node (bt_node (bt_leaf (P := OKI m_X11_difference) oX11_difference_18) (bt_leaf (P := OKI m_X11_difference) oX11_difference_21)) (bt_node (bt_leaf (P := OKI m_X11_difference) oX11_difference_22) (bt_node (bt_leaf (P := OKI m_X11_difference) oX11_difference_23) (bt_leaf (P := OKI m_X11_difference) oX11_difference_24)))) (bt_node (bt_node (bt_leaf (P := OKI m_X11_difference) oX11_difference_27) (bt_leaf (P := OKI m_X11_difference) oX11_difference_30)) (bt_node (bt_leaf (P := OKI m_X11_difference) oX11_difference_33) (bt_node (bt_leaf (P := OKI m_X11_difference) oX11_difference_34) (bt_leaf (P := OKI m_X11_difference) oX11_difference_35)))))) (bt_node (bt_node (bt_node (bt_node (bt_leaf (P := OKI m_X11_difference) oX11_difference_36) (bt_leaf (P := OKI m_X11_difference) oX11_difference_37)) (bt_node (bt_leaf (P := OKI m_X11_difference) oX11_difference_40) (bt_node (bt_leaf (P := OKI m_X11_difference) oX11_difference_41) (bt_leaf (P := OKI m_X11_difference) oX11_difference_42)))) (bt_node (bt_node (bt_leaf (P := OKI m_X11_difference) oX11_difference_43) (bt_leaf (P := OKI m_X11_difference) oX11_difference_44)) (bt_node (bt_leaf (P := OKI m_X11_difference) oX11_difference_47) (bt_node (bt_leaf (P := OKI m_X11_difference) oX11_difference_49) (bt_leaf (P := OKI m_X11_difference) oX11_difference_50))))) (bt_node (bt_node (bt_node (bt_leaf (P := OKI m_X11_difference) oX11_difference_53) (bt_leaf (P := OKI m_X11_difference) oX11_difference_56)) (bt_node (bt_leaf (P := OKI m_X11_difference) oX11_difference_58) (bt_node (bt_leaf (P := OKI m_X11_difference) oX11_difference_61) (bt_leaf (P := OKI m_X11_difference) oX11_difference_64)))) (bt_node (bt_node (bt_leaf (P := OKI m_X11_difference) oX11_difference_67) (bt_node (bt_leaf (P := OKI m_X11_difference) oX11_difference_70) (bt_leaf (P := OKI m_X11_difference) oX11_difference_71))) (bt_node (bt_leaf (P := OKI m_X11_difference) oX11_difference_73) (bt_node (bt_leaf (P := OKI m_X11_difference) oX11_difference_74) (bt_leaf (P := OKI m_X11_difference) oX11_difference_75))))))) : pfX11_difference pc = some Y → OKI m_X11_difference pc Y)
def stpX11_difference (pc : Nat) : Option (List Bool) := (bif Nat.blt pc 64 then (bif Nat.beq pc 30 then some [false, false, false, false, false] else none) else (bif Nat.blt pc 75 then (bif Nat.beq pc 64 then some [false, false, false, false, false] else none) else (bif Nat.beq pc 75 then some [false, false, false, false, false] else none)))
def bX11_difference_0 (d rc rs : Nat) (a1 : Int32) (a2 : Int32) (σ : XH) (Q : XV → XH → Prop) : Prop :=
  ((1 ≤ d ∧ Ec (d - 1) 0 0 m_X11_isReading [vR (some (12, 0)), vI a1] σ (kI fun x2 h1 => ((x2 = 0 → Ex d rc rs m_X11_difference 30 [vU, vU, vU, vU, vU] [] h1 Q) ∧ (¬ x2 = 0 → ((1 ≤ d ∧ Ec (d - 1) 0 0 m_X11_isReading [vR (some (12, 0)), vI a2] h1 (kI fun x4 h3 => ((x4 = 0 → Ex d rc rs m_X11_difference 30 [vU, vU, vU, vU, vU] [] h3 Q) ∧ (¬ x4 = 0 → ((a1 = a2 → Ex d rc rs m_X11_difference 30 [vU, vU, vU, vU, vU] [] h3 Q) ∧ (¬ a1 = a2 → ((1 ≤ d ∧ Ec (d - 1) 0 0 m_X11_areJoined [vR (some (12, 0)), vI a1, vI a2] h3 (kI fun x6 h5 => ((x6 = 0 → Ex d rc rs m_X11_difference 30 [vU, vU, vU, vU, vU] [] h5 Q) ∧ (¬ x6 = 0 → ((1 ≤ d ∧ Ec (d - 1) 0 0 m_X11_seenOf [vR (some (12, 0)), vI a1, vI 0] h5 (kI fun x8 h7 => ((1 ≤ d ∧ Ec (d - 1) 0 0 m_X11_seenOf [vR (some (12, 0)), vI a2, vI 0] h7 (kI fun x10 h9 => ((x8 = (-1000000000) → Ex d rc rs m_X11_difference 64 [vU, vU, vU, vU, vU] [] h9 Q) ∧ (¬ x8 = (-1000000000) → ((x10 = (-1000000000) → Ex d rc rs m_X11_difference 64 [vU, vU, vU, vU, vU] [] h9 Q) ∧ (¬ x10 = (-1000000000) → Ex d rc rs m_X11_difference 75 [vU, vU, vU, vU, vU] [vL ((x8 - x10).toInt64)] h9 Q)))))))))))))))))))))))))))
theorem sX11_difference_0 {d rc rs : Nat} {a1 : Int32} {a2 : Int32} {σ : XH} {Q : XV → XH → Prop} (h : bX11_difference_0 d rc rs a1 a2 σ Q) : Ex d rc rs m_X11_difference 0 [vR (some (12, 0)), vI a1, vI a2, vU, vU] [] σ Q :=
  xtree_sound (stop := stpX11_difference) okX11_difference 38 _ _ _ _ _ _ h
def bX11_difference_30 (d rc rs : Nat)  (σ : XH) (Q : XV → XH → Prop) : Prop :=
  Q (vL (-9223372036854775808)) σ
theorem sX11_difference_30 {d rc rs : Nat}  {σ : XH} {Q : XV → XH → Prop} (h : bX11_difference_30 d rc rs  σ Q) : Ex d rc rs m_X11_difference 30 [vU, vU, vU, vU, vU] [] σ Q :=
  xtree_sound (stop := stpX11_difference) okX11_difference 4 _ _ _ _ _ _ h
def bX11_difference_64 (d rc rs : Nat)  (σ : XH) (Q : XV → XH → Prop) : Prop :=
  Ex d rc rs m_X11_difference 75 [vU, vU, vU, vU, vU] [vL (-9223372036854775808)] σ Q
theorem sX11_difference_64 {d rc rs : Nat}  {σ : XH} {Q : XV → XH → Prop} (h : bX11_difference_64 d rc rs  σ Q) : Ex d rc rs m_X11_difference 64 [vU, vU, vU, vU, vU] [] σ Q :=
  xtree_sound (stop := stpX11_difference) okX11_difference 4 _ _ _ _ _ _ h
def bX11_difference_75 (d rc rs : Nat) (q0 : Int64) (σ : XH) (Q : XV → XH → Prop) : Prop :=
  Q (vL q0) σ
theorem sX11_difference_75 {d rc rs : Nat} {q0 : Int64} {σ : XH} {Q : XV → XH → Prop} (h : bX11_difference_75 d rc rs q0 σ Q) : Ex d rc rs m_X11_difference 75 [vU, vU, vU, vU, vU] [vL q0] σ Q :=
  xtree_sound (stop := stpX11_difference) okX11_difference 3 _ _ _ _ _ _ h
/-! SpotTimersModel.beside(I)I -/
theorem dX11_beside_0 : decode cX11_beside 0 = .ok (.aload_n 0, 1) := by decide +kernel
theorem dX11_beside_1 : decode cX11_beside 1 = .ok (.iload_n 1, 1) := by decide +kernel
theorem dX11_beside_2 : decode cX11_beside 2 = .ok (.invokevirtual 233, 3) := by decide +kernel
theorem dX11_beside_5 : decode cX11_beside 5 = .ok (.ifCond .ne 5, 3) := by decide +kernel
theorem dX11_beside_8 : decode cX11_beside 8 = .ok (.iconst (-1), 1) := by decide +kernel
theorem dX11_beside_9 : decode cX11_beside 9 = .ok (.ireturn, 1) := by decide +kernel
theorem dX11_beside_10 : decode cX11_beside 10 = .ok (.aload_n 0, 1) := by decide +kernel
theorem dX11_beside_11 : decode cX11_beside 11 = .ok (.getfield 32, 3) := by decide +kernel
theorem dX11_beside_14 : decode cX11_beside 14 = .ok (.iload_n 1, 1) := by decide +kernel
theorem dX11_beside_15 : decode cX11_beside 15 = .ok (.iaload, 1) := by decide +kernel
theorem dX11_beside_16 : decode cX11_beside 16 = .ok (.ifCond .ge 6, 3) := by decide +kernel
theorem dX11_beside_19 : decode cX11_beside 19 = .ok (.bipush (-3), 2) := by decide +kernel
theorem dX11_beside_21 : decode cX11_beside 21 = .ok (.ireturn, 1) := by decide +kernel
theorem dX11_beside_22 : decode cX11_beside 22 = .ok (.iconst (-1), 1) := by decide +kernel
theorem dX11_beside_23 : decode cX11_beside 23 = .ok (.istore_n 2, 1) := by decide +kernel
theorem dX11_beside_24 : decode cX11_beside 24 = .ok (.iconst 0, 1) := by decide +kernel
theorem dX11_beside_25 : decode cX11_beside 25 = .ok (.istore_n 3, 1) := by decide +kernel
theorem dX11_beside_26 : decode cX11_beside 26 = .ok (.iconst 0, 1) := by decide +kernel
theorem dX11_beside_27 : decode cX11_beside 27 = .ok (.istore 4, 2) := by decide +kernel
theorem dX11_beside_29 : decode cX11_beside 29 = .ok (.iload 4, 2) := by decide +kernel
theorem dX11_beside_31 : decode cX11_beside 31 = .ok (.aload_n 0, 1) := by decide +kernel
theorem dX11_beside_32 : decode cX11_beside 32 = .ok (.getfield 16, 3) := by decide +kernel
theorem dX11_beside_35 : decode cX11_beside 35 = .ok (.if_icmp .ge 107, 3) := by decide +kernel
theorem dX11_beside_38 : decode cX11_beside 38 = .ok (.iconst 0, 1) := by decide +kernel
theorem dX11_beside_39 : decode cX11_beside 39 = .ok (.istore 5, 2) := by decide +kernel
theorem dX11_beside_41 : decode cX11_beside 41 = .ok (.iconst 0, 1) := by decide +kernel
theorem dX11_beside_42 : decode cX11_beside 42 = .ok (.istore 6, 2) := by decide +kernel
theorem dX11_beside_44 : decode cX11_beside 44 = .ok (.iload 6, 2) := by decide +kernel
theorem dX11_beside_46 : decode cX11_beside 46 = .ok (.aload_n 0, 1) := by decide +kernel
theorem dX11_beside_47 : decode cX11_beside 47 = .ok (.getfield 35, 3) := by decide +kernel
theorem dX11_beside_50 : decode cX11_beside 50 = .ok (.if_icmp .ge 71, 3) := by decide +kernel
theorem dX11_beside_53 : decode cX11_beside 53 = .ok (.iconst 0, 1) := by decide +kernel
theorem dX11_beside_54 : decode cX11_beside 54 = .ok (.istore 7, 2) := by decide +kernel
theorem dX11_beside_56 : decode cX11_beside 56 = .ok (.iload 7, 2) := by decide +kernel
theorem dX11_beside_58 : decode cX11_beside 58 = .ok (.aload_n 0, 1) := by decide +kernel
theorem dX11_beside_59 : decode cX11_beside 59 = .ok (.getfield 35, 3) := by decide +kernel
theorem dX11_beside_62 : decode cX11_beside 62 = .ok (.if_icmp .ge 53, 3) := by decide +kernel
theorem dX11_beside_65 : decode cX11_beside 65 = .ok (.iload 5, 2) := by decide +kernel
theorem dX11_beside_67 : decode cX11_beside 67 = .ok (.aload_n 0, 1) := by decide +kernel
theorem dX11_beside_68 : decode cX11_beside 68 = .ok (.getfield 41, 3) := by decide +kernel
theorem dX11_beside_71 : decode cX11_beside 71 = .ok (.iload 6, 2) := by decide +kernel
theorem dX11_beside_73 : decode cX11_beside 73 = .ok (.iaload, 1) := by decide +kernel
theorem dX11_beside_74 : decode cX11_beside 74 = .ok (.iload_n 1, 1) := by decide +kernel
theorem dX11_beside_75 : decode cX11_beside 75 = .ok (.if_icmp .ne 30, 3) := by decide +kernel
theorem dX11_beside_78 : decode cX11_beside 78 = .ok (.aload_n 0, 1) := by decide +kernel
theorem dX11_beside_79 : decode cX11_beside 79 = .ok (.getfield 41, 3) := by decide +kernel
theorem dX11_beside_82 : decode cX11_beside 82 = .ok (.iload 7, 2) := by decide +kernel
theorem dX11_beside_84 : decode cX11_beside 84 = .ok (.iaload, 1) := by decide +kernel
theorem dX11_beside_85 : decode cX11_beside 85 = .ok (.iload 4, 2) := by decide +kernel
theorem dX11_beside_87 : decode cX11_beside 87 = .ok (.if_icmp .ne 18, 3) := by decide +kernel
theorem dX11_beside_90 : decode cX11_beside 90 = .ok (.aload_n 0, 1) := by decide +kernel
theorem dX11_beside_91 : decode cX11_beside 91 = .ok (.iload 6, 2) := by decide +kernel
theorem dX11_beside_93 : decode cX11_beside 93 = .ok (.iload 7, 2) := by decide +kernel
theorem dX11_beside_95 : decode cX11_beside 95 = .ok (.invokevirtual 436, 3) := by decide +kernel
theorem dX11_beside_98 : decode cX11_beside 98 = .ok (.ifCond .eq 7, 3) := by decide +kernel
theorem dX11_beside_101 : decode cX11_beside 101 = .ok (.iconst 1, 1) := by decide +kernel
theorem dX11_beside_102 : decode cX11_beside 102 = .ok (.goto 4, 3) := by decide +kernel
theorem dX11_beside_105 : decode cX11_beside 105 = .ok (.iconst 0, 1) := by decide +kernel
theorem dX11_beside_106 : decode cX11_beside 106 = .ok (.iadd, 1) := by decide +kernel
theorem dX11_beside_107 : decode cX11_beside 107 = .ok (.istore 5, 2) := by decide +kernel
theorem dX11_beside_109 : decode cX11_beside 109 = .ok (.iinc 7 1, 3) := by decide +kernel
theorem dX11_beside_112 : decode cX11_beside 112 = .ok (.goto (-56), 3) := by decide +kernel
theorem dX11_beside_115 : decode cX11_beside 115 = .ok (.iinc 6 1, 3) := by decide +kernel
theorem dX11_beside_118 : decode cX11_beside 118 = .ok (.goto (-74), 3) := by decide +kernel
theorem dX11_beside_121 : decode cX11_beside 121 = .ok (.iload 5, 2) := by decide +kernel
theorem dX11_beside_123 : decode cX11_beside 123 = .ok (.iload_n 3, 1) := by decide +kernel
theorem dX11_beside_124 : decode cX11_beside 124 = .ok (.if_icmp .gt 6, 3) := by decide +kernel
theorem dX11_beside_127 : decode cX11_beside 127 = .ok (.goto 9, 3) := by decide +kernel
theorem dX11_beside_130 : decode cX11_beside 130 = .ok (.iload 4, 2) := by decide +kernel
theorem dX11_beside_132 : decode cX11_beside 132 = .ok (.istore_n 2, 1) := by decide +kernel
theorem dX11_beside_133 : decode cX11_beside 133 = .ok (.iload 5, 2) := by decide +kernel
theorem dX11_beside_135 : decode cX11_beside 135 = .ok (.istore_n 3, 1) := by decide +kernel
theorem dX11_beside_136 : decode cX11_beside 136 = .ok (.iinc 4 1, 3) := by decide +kernel
theorem dX11_beside_139 : decode cX11_beside 139 = .ok (.goto (-110), 3) := by decide +kernel
theorem dX11_beside_142 : decode cX11_beside 142 = .ok (.iload_n 2, 1) := by decide +kernel
theorem dX11_beside_143 : decode cX11_beside 143 = .ok (.ireturn, 1) := by decide +kernel
theorem oX11_beside_0 : OKI 228 0 (.aload_n 0, 1, [0], 0, 0, []) := And.intro dX11_beside_0 (And.intro rfl (rfl))
theorem oX11_beside_1 : OKI 228 1 (.iload_n 1, 2, [1], 0, 0, []) := And.intro dX11_beside_1 (And.intro rfl (rfl))
theorem oX11_beside_2 : OKI 228 2 (.invokevirtual 233, 5, [148, 2, 13, 0, 0, 1], 0, 0, []) := And.intro dX11_beside_2 (And.intro rfl (And.intro (by decide) (And.intro (by decide) (And.intro mo_X11_isClock (And.intro (tm_6 _ (List.mem_of_getElem? (i := 202) rfl) rfl) (And.intro (tm_6 _ (List.mem_of_getElem? (i := 204) rfl) rfl) (And.intro (pm_3 _ (List.mem_of_getElem? (i := 10) rfl)) (Or.inl ⟨(RX11, TX11, 69), rfl, rfl⟩))))))))
theorem oX11_beside_5 : OKI 228 5 (.ifCond .ne 5, 8, [10], 0, 0, []) := And.intro dX11_beside_5 (And.intro rfl (by decide))
theorem oX11_beside_8 : OKI 228 8 (.iconst (-1), 9, [], (-1), 0, []) := And.intro dX11_beside_8 (And.intro rfl (by decide +kernel))
theorem oX11_beside_9 : OKI 228 9 (.ireturn, 10, [0], 0, 0, []) := And.intro dX11_beside_9 (Or.inl (And.intro rfl rfl))
theorem oX11_beside_10 : OKI 228 10 (.aload_n 0, 11, [0], 0, 0, []) := And.intro dX11_beside_10 (And.intro rfl (rfl))
theorem oX11_beside_11 : OKI 228 11 (.getfield 32, 14, [12, 7, 2, 119, 0], 0, 0, []) := And.intro dX11_beside_11 (And.intro rfl (⟨(RX11, TX11, 69), "SpotTimersModel", rfl, by decide, tm_5 _ (List.mem_of_getElem? (i := 213) rfl) rfl, Or.inl rfl, rfl, rfl⟩))
theorem oX11_beside_14 : OKI 228 14 (.iload_n 1, 15, [1], 0, 0, []) := And.intro dX11_beside_14 (And.intro rfl (rfl))
theorem oX11_beside_15 : OKI 228 15 (.iaload, 16, [], 0, 0, []) := And.intro dX11_beside_15 rfl
theorem oX11_beside_16 : OKI 228 16 (.ifCond .ge 6, 19, [22], 0, 0, []) := And.intro dX11_beside_16 (And.intro rfl (by decide))
theorem oX11_beside_19 : OKI 228 19 (.bipush (-3), 21, [], (-3), 0, []) := And.intro dX11_beside_19 (And.intro rfl (by decide +kernel))
theorem oX11_beside_21 : OKI 228 21 (.ireturn, 22, [0], 0, 0, []) := And.intro dX11_beside_21 (Or.inl (And.intro rfl rfl))
theorem oX11_beside_22 : OKI 228 22 (.iconst (-1), 23, [], (-1), 0, []) := And.intro dX11_beside_22 (And.intro rfl (by decide +kernel))
theorem oX11_beside_23 : OKI 228 23 (.istore_n 2, 24, [2], 0, 0, []) := And.intro dX11_beside_23 (And.intro rfl (And.intro rfl (by decide)))
theorem oX11_beside_24 : OKI 228 24 (.iconst 0, 25, [], 0, 0, []) := And.intro dX11_beside_24 (And.intro rfl (by decide +kernel))
theorem oX11_beside_25 : OKI 228 25 (.istore_n 3, 26, [3], 0, 0, []) := And.intro dX11_beside_25 (And.intro rfl (And.intro rfl (by decide)))
theorem oX11_beside_26 : OKI 228 26 (.iconst 0, 27, [], 0, 0, []) := And.intro dX11_beside_26 (And.intro rfl (by decide +kernel))
theorem oX11_beside_27 : OKI 228 27 (.istore 4, 29, [4], 0, 0, []) := And.intro dX11_beside_27 (And.intro rfl (And.intro rfl (by decide)))
theorem oX11_beside_29 : OKI 228 29 (.iload 4, 31, [4], 0, 0, []) := And.intro dX11_beside_29 (And.intro rfl (rfl))
theorem oX11_beside_31 : OKI 228 31 (.aload_n 0, 32, [0], 0, 0, []) := And.intro dX11_beside_31 (And.intro rfl (rfl))
theorem oX11_beside_32 : OKI 228 32 (.getfield 16, 35, [12, 2, 0], 0, 0, []) := And.intro dX11_beside_32 (And.intro rfl (⟨(RX11, TX11, 69), "SpotTimersModel", rfl, by decide, tm_5 _ (List.mem_of_getElem? (i := 208) rfl) rfl, Or.inl rfl, Or.inr (Or.inr (And.intro rfl (Or.inl rfl)))⟩))
theorem oX11_beside_35 : OKI 228 35 (.if_icmp .ge 107, 38, [142], 0, 0, []) := And.intro dX11_beside_35 (And.intro rfl (by decide))
theorem oX11_beside_38 : OKI 228 38 (.iconst 0, 39, [], 0, 0, []) := And.intro dX11_beside_38 (And.intro rfl (by decide +kernel))
theorem oX11_beside_39 : OKI 228 39 (.istore 5, 41, [5], 0, 0, []) := And.intro dX11_beside_39 (And.intro rfl (And.intro rfl (by decide)))
theorem oX11_beside_41 : OKI 228 41 (.iconst 0, 42, [], 0, 0, []) := And.intro dX11_beside_41 (And.intro rfl (by decide +kernel))
theorem oX11_beside_42 : OKI 228 42 (.istore 6, 44, [6], 0, 0, []) := And.intro dX11_beside_42 (And.intro rfl (And.intro rfl (by decide)))
theorem oX11_beside_44 : OKI 228 44 (.iload 6, 46, [6], 0, 0, []) := And.intro dX11_beside_44 (And.intro rfl (rfl))
theorem oX11_beside_46 : OKI 228 46 (.aload_n 0, 47, [0], 0, 0, []) := And.intro dX11_beside_46 (And.intro rfl (rfl))
theorem oX11_beside_47 : OKI 228 47 (.getfield 35, 50, [12, 8, 0], 0, 0, []) := And.intro dX11_beside_47 (And.intro rfl (⟨(RX11, TX11, 69), "SpotTimersModel", rfl, by decide, tm_5 _ (List.mem_of_getElem? (i := 214) rfl) rfl, Or.inl rfl, Or.inr (Or.inr (And.intro rfl (Or.inl rfl)))⟩))
theorem oX11_beside_50 : OKI 228 50 (.if_icmp .ge 71, 53, [121], 0, 0, []) := And.intro dX11_beside_50 (And.intro rfl (by decide))
theorem oX11_beside_53 : OKI 228 53 (.iconst 0, 54, [], 0, 0, []) := And.intro dX11_beside_53 (And.intro rfl (by decide +kernel))
theorem oX11_beside_54 : OKI 228 54 (.istore 7, 56, [7], 0, 0, []) := And.intro dX11_beside_54 (And.intro rfl (And.intro rfl (by decide)))
theorem oX11_beside_56 : OKI 228 56 (.iload 7, 58, [7], 0, 0, []) := And.intro dX11_beside_56 (And.intro rfl (rfl))
theorem oX11_beside_58 : OKI 228 58 (.aload_n 0, 59, [0], 0, 0, []) := And.intro dX11_beside_58 (And.intro rfl (rfl))
theorem oX11_beside_59 : OKI 228 59 (.getfield 35, 62, [12, 8, 0], 0, 0, []) := And.intro dX11_beside_59 (And.intro rfl (⟨(RX11, TX11, 69), "SpotTimersModel", rfl, by decide, tm_5 _ (List.mem_of_getElem? (i := 214) rfl) rfl, Or.inl rfl, Or.inr (Or.inr (And.intro rfl (Or.inl rfl)))⟩))
theorem oX11_beside_62 : OKI 228 62 (.if_icmp .ge 53, 65, [115], 0, 0, []) := And.intro dX11_beside_62 (And.intro rfl (by decide))
theorem oX11_beside_65 : OKI 228 65 (.iload 5, 67, [5], 0, 0, []) := And.intro dX11_beside_65 (And.intro rfl (rfl))
theorem oX11_beside_67 : OKI 228 67 (.aload_n 0, 68, [0], 0, 0, []) := And.intro dX11_beside_67 (And.intro rfl (rfl))
theorem oX11_beside_68 : OKI 228 68 (.getfield 41, 71, [12, 10, 2, 121, 0], 0, 0, []) := And.intro dX11_beside_68 (And.intro rfl (⟨(RX11, TX11, 69), "SpotTimersModel", rfl, by decide, tm_5 _ (List.mem_of_getElem? (i := 216) rfl) rfl, Or.inl rfl, rfl, rfl⟩))
theorem oX11_beside_71 : OKI 228 71 (.iload 6, 73, [6], 0, 0, []) := And.intro dX11_beside_71 (And.intro rfl (rfl))
theorem oX11_beside_73 : OKI 228 73 (.iaload, 74, [], 0, 0, []) := And.intro dX11_beside_73 rfl
theorem oX11_beside_74 : OKI 228 74 (.iload_n 1, 75, [1], 0, 0, []) := And.intro dX11_beside_74 (And.intro rfl (rfl))
theorem oX11_beside_75 : OKI 228 75 (.if_icmp .ne 30, 78, [105], 0, 0, []) := And.intro dX11_beside_75 (And.intro rfl (by decide))
theorem oX11_beside_78 : OKI 228 78 (.aload_n 0, 79, [0], 0, 0, []) := And.intro dX11_beside_78 (And.intro rfl (rfl))
theorem oX11_beside_79 : OKI 228 79 (.getfield 41, 82, [12, 10, 2, 121, 0], 0, 0, []) := And.intro dX11_beside_79 (And.intro rfl (⟨(RX11, TX11, 69), "SpotTimersModel", rfl, by decide, tm_5 _ (List.mem_of_getElem? (i := 216) rfl) rfl, Or.inl rfl, rfl, rfl⟩))
theorem oX11_beside_82 : OKI 228 82 (.iload 7, 84, [7], 0, 0, []) := And.intro dX11_beside_82 (And.intro rfl (rfl))
theorem oX11_beside_84 : OKI 228 84 (.iaload, 85, [], 0, 0, []) := And.intro dX11_beside_84 rfl
theorem oX11_beside_85 : OKI 228 85 (.iload 4, 87, [4], 0, 0, []) := And.intro dX11_beside_85 (And.intro rfl (rfl))
theorem oX11_beside_87 : OKI 228 87 (.if_icmp .ne 18, 90, [105], 0, 0, []) := And.intro dX11_beside_87 (And.intro rfl (by decide))
theorem oX11_beside_90 : OKI 228 90 (.aload_n 0, 91, [0], 0, 0, []) := And.intro dX11_beside_90 (And.intro rfl (rfl))
theorem oX11_beside_91 : OKI 228 91 (.iload 6, 93, [6], 0, 0, []) := And.intro dX11_beside_91 (And.intro rfl (rfl))
theorem oX11_beside_93 : OKI 228 93 (.iload 7, 95, [7], 0, 0, []) := And.intro dX11_beside_93 (And.intro rfl (rfl))
theorem oX11_beside_95 : OKI 228 95 (.invokevirtual 436, 98, [226, 3, 13, 0, 0, 1], 0, 0, []) := And.intro dX11_beside_95 (And.intro rfl (And.intro (by decide) (And.intro (by decide) (And.intro mo_X11_areJoined (And.intro (tm_8 _ (List.mem_of_getElem? (i := 65) rfl) rfl) (And.intro (tm_8 _ (List.mem_of_getElem? (i := 67) rfl) rfl) (And.intro (pm_6 _ (List.mem_of_getElem? (i := 14) rfl)) (Or.inl ⟨(RX11, TX11, 69), rfl, rfl⟩))))))))
theorem oX11_beside_98 : OKI 228 98 (.ifCond .eq 7, 101, [105], 0, 0, []) := And.intro dX11_beside_98 (And.intro rfl (by decide))
theorem oX11_beside_101 : OKI 228 101 (.iconst 1, 102, [], 1, 0, []) := And.intro dX11_beside_101 (And.intro rfl (by decide +kernel))
theorem oX11_beside_102 : OKI 228 102 (.goto 4, 105, [106], 0, 0, []) := And.intro dX11_beside_102 (And.intro rfl (by decide))
theorem oX11_beside_105 : OKI 228 105 (.iconst 0, 106, [], 0, 0, []) := And.intro dX11_beside_105 (And.intro rfl (by decide +kernel))
theorem oX11_beside_106 : OKI 228 106 (.iadd, 107, [], 0, 0, []) := And.intro dX11_beside_106 rfl
theorem oX11_beside_107 : OKI 228 107 (.istore 5, 109, [5], 0, 0, []) := And.intro dX11_beside_107 (And.intro rfl (And.intro rfl (by decide)))
theorem oX11_beside_109 : OKI 228 109 (.iinc 7 1, 112, [7], 1, 0, []) := And.intro dX11_beside_109 (And.intro rfl (And.intro rfl (And.intro (by decide +kernel) (by decide))))
theorem oX11_beside_112 : OKI 228 112 (.goto (-56), 115, [56], 0, 0, []) := And.intro dX11_beside_112 (And.intro rfl (by decide))
theorem oX11_beside_115 : OKI 228 115 (.iinc 6 1, 118, [6], 1, 0, []) := And.intro dX11_beside_115 (And.intro rfl (And.intro rfl (And.intro (by decide +kernel) (by decide))))
theorem oX11_beside_118 : OKI 228 118 (.goto (-74), 121, [44], 0, 0, []) := And.intro dX11_beside_118 (And.intro rfl (by decide))
theorem oX11_beside_121 : OKI 228 121 (.iload 5, 123, [5], 0, 0, []) := And.intro dX11_beside_121 (And.intro rfl (rfl))
theorem oX11_beside_123 : OKI 228 123 (.iload_n 3, 124, [3], 0, 0, []) := And.intro dX11_beside_123 (And.intro rfl (rfl))
theorem oX11_beside_124 : OKI 228 124 (.if_icmp .gt 6, 127, [130], 0, 0, []) := And.intro dX11_beside_124 (And.intro rfl (by decide))
theorem oX11_beside_127 : OKI 228 127 (.goto 9, 130, [136], 0, 0, []) := And.intro dX11_beside_127 (And.intro rfl (by decide))
theorem oX11_beside_130 : OKI 228 130 (.iload 4, 132, [4], 0, 0, []) := And.intro dX11_beside_130 (And.intro rfl (rfl))
theorem oX11_beside_132 : OKI 228 132 (.istore_n 2, 133, [2], 0, 0, []) := And.intro dX11_beside_132 (And.intro rfl (And.intro rfl (by decide)))
theorem oX11_beside_133 : OKI 228 133 (.iload 5, 135, [5], 0, 0, []) := And.intro dX11_beside_133 (And.intro rfl (rfl))
theorem oX11_beside_135 : OKI 228 135 (.istore_n 3, 136, [3], 0, 0, []) := And.intro dX11_beside_135 (And.intro rfl (And.intro rfl (by decide)))
theorem oX11_beside_136 : OKI 228 136 (.iinc 4 1, 139, [4], 1, 0, []) := And.intro dX11_beside_136 (And.intro rfl (And.intro rfl (And.intro (by decide +kernel) (by decide))))
theorem oX11_beside_139 : OKI 228 139 (.goto (-110), 142, [29], 0, 0, []) := And.intro dX11_beside_139 (And.intro rfl (by decide))
theorem oX11_beside_142 : OKI 228 142 (.iload_n 2, 143, [2], 0, 0, []) := And.intro dX11_beside_142 (And.intro rfl (rfl))
theorem oX11_beside_143 : OKI 228 143 (.ireturn, 144, [0], 0, 0, []) := And.intro dX11_beside_143 (Or.inl (And.intro rfl rfl))
def pfX11_beside (pc : Nat) : Option XE := (bif Nat.blt pc 67 then (bif Nat.blt pc 29 then (bif Nat.blt pc 15 then (bif Nat.blt pc 8 then (bif Nat.blt pc 2 then (bif Nat.blt pc 1 then (bif Nat.beq pc 0 then some (.aload_n 0, 1, [0], 0, 0, []) else none) else (bif Nat.beq pc 1 then some (.iload_n 1, 2, [1], 0, 0, []) else none)) else (bif Nat.blt pc 5 then (bif Nat.beq pc 2 then some (.invokevirtual 233, 5, [148, 2, 13, 0, 0, 1], 0, 0, []) else none) else (bif Nat.beq pc 5 then some (.ifCond .ne 5, 8, [10], 0, 0, []) else none))) else (bif Nat.blt pc 10 then (bif Nat.blt pc 9 then (bif Nat.beq pc 8 then some (.iconst (-1), 9, [], (-1), 0, []) else none) else (bif Nat.beq pc 9 then some (.ireturn, 10, [0], 0, 0, []) else none)) else (bif Nat.blt pc 11 then (bif Nat.beq pc 10 then some (.aload_n 0, 11, [0], 0, 0, []) else none) else (bif Nat.blt pc 14 then (bif Nat.beq pc 11 then some (.getfield 32, 14, [12, 7, 2, 119, 0], 0, 0, []) else none) else (bif Nat.beq pc 14 then some (.iload_n 1, 15, [1], 0, 0, []) else none))))) else (bif Nat.blt pc 23 then (bif Nat.blt pc 19 then (bif Nat.blt pc 16 then (bif Nat.beq pc 15 then some (.iaload, 16, [], 0, 0, []) else none) else (bif Nat.beq pc 16 then some (.ifCond .ge 6, 19, [22], 0, 0, []) else none)) else (bif Nat.blt pc 21 then (bif Nat.beq pc 19 then some (.bipush (-3), 21, [], (-3), 0, []) else none) else (bif Nat.blt pc 22 then (bif Nat.beq pc 21 then some (.ireturn, 22, [0], 0, 0, []) else none) else (bif Nat.beq pc 22 then some (.iconst (-1), 23, [], (-1), 0, []) else none)))) else (bif Nat.blt pc 25 then (bif Nat.blt pc 24 then (bif Nat.beq pc 23 then some (.istore_n 2, 24, [2], 0, 0, []) else none) else (bif Nat.beq pc 24 then some (.iconst 0, 25, [], 0, 0, []) else none)) else (bif Nat.blt pc 26 then (bif Nat.beq pc 25 then some (.istore_n 3, 26, [3], 0, 0, []) else none) else (bif Nat.blt pc 27 then (bif Nat.beq pc 26 then some (.iconst 0, 27, [], 0, 0, []) else none) else (bif Nat.beq pc 27 then some (.istore 4, 29, [4], 0, 0, []) else none)))))) else (bif Nat.blt pc 46 then (bif Nat.blt pc 38 then (bif Nat.blt pc 32 then (bif Nat.blt pc 31 then (bif Nat.beq pc 29 then some (.iload 4, 31, [4], 0, 0, []) else none) else (bif Nat.beq pc 31 then some (.aload_n 0, 32, [0], 0, 0, []) else none)) else (bif Nat.blt pc 35 then (bif Nat.beq pc 32 then some (.getfield 16, 35, [12, 2, 0], 0, 0, []) else none) else (bif Nat.beq pc 35 then some (.if_icmp .ge 107, 38, [142], 0, 0, []) else none))) else (bif Nat.blt pc 41 then (bif Nat.blt pc 39 then (bif Nat.beq pc 38 then some (.iconst 0, 39, [], 0, 0, []) else none) else (bif Nat.beq pc 39 then some (.istore 5, 41, [5], 0, 0, []) else none)) else (bif Nat.blt pc 42 then (bif Nat.beq pc 41 then some (.iconst 0, 42, [], 0, 0, []) else none) else (bif Nat.blt pc 44 then (bif Nat.beq pc 42 then some (.istore 6, 44, [6], 0, 0, []) else none) else (bif Nat.beq pc 44 then some (.iload 6, 46, [6], 0, 0, []) else none))))) else (bif Nat.blt pc 56 then (bif Nat.blt pc 50 then (bif Nat.blt pc 47 then (bif Nat.beq pc 46 then some (.aload_n 0, 47, [0], 0, 0, []) else none) else (bif Nat.beq pc 47 then some (.getfield 35, 50, [12, 8, 0], 0, 0, []) else none)) else (bif Nat.blt pc 53 then (bif Nat.beq pc 50 then some (.if_icmp .ge 71, 53, [121], 0, 0, []) else none) else (bif Nat.blt pc 54 then (bif Nat.beq pc 53 then some (.iconst 0, 54, [], 0, 0, []) else none) else (bif Nat.beq pc 54 then some (.istore 7, 56, [7], 0, 0, []) else none)))) else (bif Nat.blt pc 59 then (bif Nat.blt pc 58 then (bif Nat.beq pc 56 then some (.iload 7, 58, [7], 0, 0, []) else none) else (bif Nat.beq pc 58 then some (.aload_n 0, 59, [0], 0, 0, []) else none)) else (bif Nat.blt pc 62 then (bif Nat.beq pc 59 then some (.getfield 35, 62, [12, 8, 0], 0, 0, []) else none) else (bif Nat.blt pc 65 then (bif Nat.beq pc 62 then some (.if_icmp .ge 53, 65, [115], 0, 0, []) else none) else (bif Nat.beq pc 65 then some (.iload 5, 67, [5], 0, 0, []) else none))))))) else (bif Nat.blt pc 105 then (bif Nat.blt pc 84 then (bif Nat.blt pc 74 then (bif Nat.blt pc 71 then (bif Nat.blt pc 68 then (bif Nat.beq pc 67 then some (.aload_n 0, 68, [0], 0, 0, []) else none) else (bif Nat.beq pc 68 then some (.getfield 41, 71, [12, 10, 2, 121, 0], 0, 0, []) else none)) else (bif Nat.blt pc 73 then (bif Nat.beq pc 71 then some (.iload 6, 73, [6], 0, 0, []) else none) else (bif Nat.beq pc 73 then some (.iaload, 74, [], 0, 0, []) else none))) else (bif Nat.blt pc 78 then (bif Nat.blt pc 75 then (bif Nat.beq pc 74 then some (.iload_n 1, 75, [1], 0, 0, []) else none) else (bif Nat.beq pc 75 then some (.if_icmp .ne 30, 78, [105], 0, 0, []) else none)) else (bif Nat.blt pc 79 then (bif Nat.beq pc 78 then some (.aload_n 0, 79, [0], 0, 0, []) else none) else (bif Nat.blt pc 82 then (bif Nat.beq pc 79 then some (.getfield 41, 82, [12, 10, 2, 121, 0], 0, 0, []) else none) else (bif Nat.beq pc 82 then some (.iload 7, 84, [7], 0, 0, []) else none))))) else (bif Nat.blt pc 93 then (bif Nat.blt pc 87 then (bif Nat.blt pc 85 then (bif Nat.beq pc 84 then some (.iaload, 85, [], 0, 0, []) else none) else (bif Nat.beq pc 85 then some (.iload 4, 87, [4], 0, 0, []) else none)) else (bif Nat.blt pc 90 then (bif Nat.beq pc 87 then some (.if_icmp .ne 18, 90, [105], 0, 0, []) else none) else (bif Nat.blt pc 91 then (bif Nat.beq pc 90 then some (.aload_n 0, 91, [0], 0, 0, []) else none) else (bif Nat.beq pc 91 then some (.iload 6, 93, [6], 0, 0, []) else none)))) else (bif Nat.blt pc 98 then (bif Nat.blt pc 95 then (bif Nat.beq pc 93 then some (.iload 7, 95, [7], 0, 0, []) else none) else (bif Nat.beq pc 95 then some (.invokevirtual 436, 98, [226, 3, 13, 0, 0, 1], 0, 0, []) else none)) else (bif Nat.blt pc 101 then (bif Nat.beq pc 98 then some (.ifCond .eq 7, 101, [105], 0, 0, []) else none) else (bif Nat.blt pc 102 then (bif Nat.beq pc 101 then some (.iconst 1, 102, [], 1, 0, []) else none) else (bif Nat.beq pc 102 then some (.goto 4, 105, [106], 0, 0, []) else none)))))) else (bif Nat.blt pc 124 then (bif Nat.blt pc 112 then (bif Nat.blt pc 107 then (bif Nat.blt pc 106 then (bif Nat.beq pc 105 then some (.iconst 0, 106, [], 0, 0, []) else none) else (bif Nat.beq pc 106 then some (.iadd, 107, [], 0, 0, []) else none)) else (bif Nat.blt pc 109 then (bif Nat.beq pc 107 then some (.istore 5, 109, [5], 0, 0, []) else none) else (bif Nat.beq pc 109 then some (.iinc 7 1, 112, [7], 1, 0, []) else none))) else (bif Nat.blt pc 118 then (bif Nat.blt pc 115 then (bif Nat.beq pc 112 then some (.goto (-56), 115, [56], 0, 0, []) else none) else (bif Nat.beq pc 115 then some (.iinc 6 1, 118, [6], 1, 0, []) else none)) else (bif Nat.blt pc 121 then (bif Nat.beq pc 118 then some (.goto (-74), 121, [44], 0, 0, []) else none) else (bif Nat.blt pc 123 then (bif Nat.beq pc 121 then some (.iload 5, 123, [5], 0, 0, []) else none) else (bif Nat.beq pc 123 then some (.iload_n 3, 124, [3], 0, 0, []) else none))))) else (bif Nat.blt pc 135 then (bif Nat.blt pc 130 then (bif Nat.blt pc 127 then (bif Nat.beq pc 124 then some (.if_icmp .gt 6, 127, [130], 0, 0, []) else none) else (bif Nat.beq pc 127 then some (.goto 9, 130, [136], 0, 0, []) else none)) else (bif Nat.blt pc 132 then (bif Nat.beq pc 130 then some (.iload 4, 132, [4], 0, 0, []) else none) else (bif Nat.blt pc 133 then (bif Nat.beq pc 132 then some (.istore_n 2, 133, [2], 0, 0, []) else none) else (bif Nat.beq pc 133 then some (.iload 5, 135, [5], 0, 0, []) else none)))) else (bif Nat.blt pc 139 then (bif Nat.blt pc 136 then (bif Nat.beq pc 135 then some (.istore_n 3, 136, [3], 0, 0, []) else none) else (bif Nat.beq pc 136 then some (.iinc 4 1, 139, [4], 1, 0, []) else none)) else (bif Nat.blt pc 142 then (bif Nat.beq pc 139 then some (.goto (-110), 142, [29], 0, 0, []) else none) else (bif Nat.blt pc 143 then (bif Nat.beq pc 142 then some (.iload_n 2, 143, [2], 0, 0, []) else none) else (bif Nat.beq pc 143 then some (.ireturn, 144, [0], 0, 0, []) else none))))))))
theorem okX11_beside : ∀ pc Y, pfX11_beside pc = some Y → OKI m_X11_beside pc Y := fun pc Y => ((bt_node (bt_node (bt_node (bt_node (bt_node (bt_node (bt_leaf (P := OKI m_X11_beside) oX11_beside_0) (bt_leaf (P := OKI m_X11_beside) oX11_beside_1)) (bt_node (bt_leaf (P := OKI m_X11_beside) oX11_beside_2) (bt_leaf (P := OKI m_X11_beside) oX11_beside_5))) (bt_node (bt_node (bt_leaf (P := OKI m_X11_beside) oX11_beside_8) (bt_leaf (P := OKI m_X11_beside) oX11_beside_9)) (bt_node (bt_leaf (P := OKI m_X11_beside) oX11_beside_10) (bt_node (bt_leaf (P := OKI m_X11_beside) oX11_beside_11) (bt_leaf (P := OKI m_X11_beside) oX11_beside_14))))) (bt_node (bt_node (bt_node (bt_leaf (P := OKI m_X11_beside) oX11_beside_15) (bt_leaf (P := OKI m_X11_beside) oX11_beside_16)) (bt_node (bt_leaf (P := OKI m_X11_beside) oX11_beside_19) (bt_node (bt_leaf (P := OKI m_X11_beside) oX11_beside_21) (bt_leaf (P := OKI m_X11_beside) oX11_beside_22)))) (bt_node (bt_node (bt_leaf (P := OKI m_X11_beside) oX11_beside_23) (bt_leaf (P := OKI m_X11_beside) oX11_beside_24)) (bt_node (bt_leaf (P := OKI m_X11_beside) oX11_beside_25) (bt_node (bt_leaf (P := OKI m_X11_beside) oX11_beside_26) (bt_leaf (P := OKI m_X11_beside) oX11_beside_27)))))) (bt_node (bt_node (bt_node (bt_node (bt_leaf (P := OKI m_X11_beside) oX11_beside_29) (bt_leaf (P := OKI m_X11_beside) oX11_beside_31)) (bt_node (bt_leaf (P := OKI m_X11_beside) oX11_beside_32) (bt_leaf (P := OKI m_X11_beside) oX11_beside_35))) (bt_node (bt_node (bt_leaf (P := OKI m_X11_beside) oX11_beside_38) (bt_leaf (P := OKI m_X11_beside) oX11_beside_39)) (bt_node (bt_leaf (P := OKI m_X11_beside) oX11_beside_41) (bt_node (bt_leaf (P := OKI m_X11_beside) oX11_beside_42) (bt_leaf (P := OKI m_X11_beside) oX11_beside_44))))) (bt_node (bt_node (bt_node (bt_leaf (P := OKI m_X11_beside) oX11_beside_46) (bt_leaf (P := OKI m_X11_beside) oX11_beside_47)) (bt_node (bt_leaf (P := OKI m_X11_beside) oX11_beside_50) (bt_node (bt_leaf (P := OKI m_X11_beside) oX11_beside_53) (bt_leaf (P := OKI m_X11_beside) oX11_beside_54)))) (bt_node (bt_node (bt_leaf (P := OKI m_X11_beside) oX11_beside_56) (bt_leaf (P := OKI m_X11_beside) oX11_beside_58)) (bt_node (bt_leaf (P := OKI m_X11_beside) oX11_beside_59) (bt_node (bt_leaf (P := OKI m_X11_beside) oX11_beside_62) (bt_leaf (P := OKI m_X11_beside) oX11_beside_65))))))) (bt_node (bt_node (bt_node (bt_node (bt_node (bt_leaf (P := OKI m_X11_beside) oX11_beside_67) (bt_leaf (P := OKI m_X11_beside) oX11_beside_68)) (bt_node (bt_leaf (P := OKI m_X11_beside) oX11_beside_71) (bt_leaf (P := OKI m_X11_beside) oX11_beside_73))) (bt_node (bt_node (bt_leaf (P := OKI m_X11_beside) oX11_beside_74) (bt_leaf (P := OKI m_X11_beside) oX11_beside_75)) (bt_node (bt_leaf (P := OKI m_X11_beside) oX11_beside_78) (bt_node (bt_leaf (P := OKI m_X11_beside) oX11_beside_79) (bt_leaf (P := OKI m_X11_beside) oX11_beside_82))))) (bt_node (bt_node (bt_node (bt_leaf (P := OKI m_X11_beside) oX11_beside_84) (bt_leaf (P := OKI m_X11_beside) oX11_beside_85)) (bt_node (bt_leaf (P := OKI m_X11_beside) oX11_beside_87) (bt_node (bt_leaf (P := OKI m_X11_beside) oX11_beside_90) (bt_leaf (P := OKI m_X11_beside) oX11_beside_91)))) (bt_node (bt_node (bt_leaf (P := OKI m_X11_beside) oX11_beside_93) (bt_leaf (P := OKI m_X11_beside) oX11_beside_95)) (bt_node (bt_leaf (P := OKI m_X11_beside) oX11_beside_98) (bt_node (bt_leaf (P := OKI m_X11_beside) oX11_beside_101) (bt_leaf (P := OKI m_X11_beside) oX11_beside_102)))))) (bt_node (bt_node (bt_node (bt_node (bt_leaf (P := OKI m_X11_beside) oX11_beside_105) (bt_leaf (P := OKI m_X11_beside) oX11_beside_106)) (bt_node (bt_leaf (P := OKI m_X11_beside) oX11_beside_107) (bt_leaf (P := OKI m_X11_beside) oX11_beside_109))) (bt_node (bt_node (bt_leaf (P := OKI m_X11_beside) oX11_beside_112) (bt_leaf (P := OKI m_X11_beside) oX11_beside_115)) (bt_node (bt_leaf (P := OKI m_X11_beside) oX11_beside_118) (bt_node (bt_leaf (P := OKI m_X11_beside) oX11_beside_121) (bt_leaf (P := OKI m_X11_beside) oX11_beside_123))))) (bt_node (bt_node (bt_node (bt_leaf (P := OKI m_X11_beside) oX11_beside_124) (bt_leaf (P := OKI m_X11_beside) oX11_beside_127)) (bt_node (bt_leaf (P := OKI m_X11_beside) oX11_beside_130) (bt_node (bt_leaf (P := OKI m_X11_beside) oX11_beside_132) (bt_leaf (P := OKI m_X11_beside) oX11_beside_133)))) (bt_node (bt_node (bt_leaf (P := OKI m_X11_beside) oX11_beside_135) (bt_leaf (P := OKI m_X11_beside) oX11_beside_136)) (bt_node (bt_leaf (P := OKI m_X11_beside) oX11_beside_139) (bt_node (bt_leaf (P := OKI m_X11_beside) oX11_beside_142) (bt_leaf (P := OKI m_X11_beside) oX11_beside_143)))))))) : pfX11_beside pc = some Y → OKI m_X11_beside pc Y)
def stpX11_beside (pc : Nat) : Option (List Bool) := (bif Nat.blt pc 105 then (bif Nat.blt pc 44 then (bif Nat.beq pc 29 then some [true, true, true, true, true, false, false, false] else none) else (bif Nat.blt pc 56 then (bif Nat.beq pc 44 then some [true, true, true, true, true, true, true, false] else none) else (bif Nat.beq pc 56 then some [true, true, true, true, true, true, true, true] else none))) else (bif Nat.blt pc 106 then (bif Nat.beq pc 105 then some [true, true, true, true, true, false, true, true] else none) else (bif Nat.blt pc 136 then (bif Nat.beq pc 106 then some [true, true, true, true, true, false, true, true] else none) else (bif Nat.beq pc 136 then some [true, true, true, true, true, false, false, false] else none))))
def bX11_beside_0 (d rc rs : Nat) (a1 : Int32) (σ : XH) (Q : XV → XH → Prop) : Prop :=
  ((1 ≤ d ∧ Ec (d - 1) 0 0 m_X11_isClock [vR (some (12, 0)), vI a1] σ (kI fun x2 h1 => ((x2 = 0 → Q (vI (-1)) h1) ∧ (¬ x2 = 0 → ((hr h1 12 0 7 = some (119, 0) ∧ ((vp_in a1 (hn h1 119 0) ∧ (((hi h1 119 0 a1.toNatClampNeg) < 0 → Q (vI (-3)) h1) ∧ (¬ (hi h1 119 0 a1.toNatClampNeg) < 0 → Ex d rc rs m_X11_beside 29 [vR (some (12, 0)), vI a1, vI (-1), vI 0, vI 0, vU, vU, vU] [] h1 Q)))))))))))
theorem sX11_beside_0 {d rc rs : Nat} {a1 : Int32} {σ : XH} {Q : XV → XH → Prop} (h : bX11_beside_0 d rc rs a1 σ Q) : Ex d rc rs m_X11_beside 0 [vR (some (12, 0)), vI a1, vU, vU, vU, vU, vU, vU] [] σ Q :=
  xtree_sound (stop := stpX11_beside) okX11_beside 17 _ _ _ _ _ _ h
def bX11_beside_29 (d rc rs : Nat) (l1 : Int32) (l2 : Int32) (l3 : Int32) (l4 : Int32) (σ : XH) (Q : XV → XH → Prop) : Prop :=
  (((l4 < (hi σ 12 0 2) → Ex d rc rs m_X11_beside 44 [vR (some (12, 0)), vI l1, vI l2, vI l3, vI l4, vI 0, vI 0, vU] [] σ Q) ∧ (¬ l4 < (hi σ 12 0 2) → Q (vI l2) σ)))
theorem sX11_beside_29 {d rc rs : Nat} {l1 : Int32} {l2 : Int32} {l3 : Int32} {l4 : Int32} {σ : XH} {Q : XV → XH → Prop} (h : bX11_beside_29 d rc rs l1 l2 l3 l4 σ Q) : Ex d rc rs m_X11_beside 29 [vR (some (12, 0)), vI l1, vI l2, vI l3, vI l4, vU, vU, vU] [] σ Q :=
  xtree_sound (stop := stpX11_beside) okX11_beside 10 _ _ _ _ _ _ h
def bX11_beside_44 (d rc rs : Nat) (l1 : Int32) (l2 : Int32) (l3 : Int32) (l4 : Int32) (l5 : Int32) (l6 : Int32) (σ : XH) (Q : XV → XH → Prop) : Prop :=
  (((l6 < (hi σ 12 0 8) → Ex d rc rs m_X11_beside 56 [vR (some (12, 0)), vI l1, vI l2, vI l3, vI l4, vI l5, vI l6, vI 0] [] σ Q) ∧ (¬ l6 < (hi σ 12 0 8) → ((l3 < l5 → Ex d rc rs m_X11_beside 136 [vR (some (12, 0)), vI l1, vI l4, vI l5, vI l4, vU, vU, vU] [] σ Q) ∧ (¬ l3 < l5 → Ex d rc rs m_X11_beside 136 [vR (some (12, 0)), vI l1, vI l2, vI l3, vI l4, vU, vU, vU] [] σ Q)))))
theorem sX11_beside_44 {d rc rs : Nat} {l1 : Int32} {l2 : Int32} {l3 : Int32} {l4 : Int32} {l5 : Int32} {l6 : Int32} {σ : XH} {Q : XV → XH → Prop} (h : bX11_beside_44 d rc rs l1 l2 l3 l4 l5 l6 σ Q) : Ex d rc rs m_X11_beside 44 [vR (some (12, 0)), vI l1, vI l2, vI l3, vI l4, vI l5, vI l6, vU] [] σ Q :=
  xtree_sound (stop := stpX11_beside) okX11_beside 13 _ _ _ _ _ _ h
def bX11_beside_56 (d rc rs : Nat) (l1 : Int32) (l2 : Int32) (l3 : Int32) (l4 : Int32) (l5 : Int32) (l6 : Int32) (l7 : Int32) (σ : XH) (Q : XV → XH → Prop) : Prop :=
  (((l7 < (hi σ 12 0 8) → ((hr σ 12 0 10 = some (121, 0) ∧ ((vp_in l6 (hn σ 121 0) ∧ (((hi σ 121 0 l6.toNatClampNeg) = l1 → ((hr σ 12 0 10 = some (121, 0) ∧ ((vp_in l7 (hn σ 121 0) ∧ (((hi σ 121 0 l7.toNatClampNeg) = l4 → ((1 ≤ d ∧ Ec (d - 1) 0 0 m_X11_areJoined [vR (some (12, 0)), vI l6, vI l7] σ (kI fun x2 h1 => ((x2 = 0 → Ex d rc rs m_X11_beside 105 [vR (some (12, 0)), vI l1, vI l2, vI l3, vI l4, vU, vI l6, vI l7] [vI l5] h1 Q) ∧ (¬ x2 = 0 → Ex d rc rs m_X11_beside 106 [vR (some (12, 0)), vI l1, vI l2, vI l3, vI l4, vU, vI l6, vI l7] [vI 1, vI l5] h1 Q)))))) ∧ (¬ (hi σ 121 0 l7.toNatClampNeg) = l4 → Ex d rc rs m_X11_beside 105 [vR (some (12, 0)), vI l1, vI l2, vI l3, vI l4, vU, vI l6, vI l7] [vI l5] σ Q))))))) ∧ (¬ (hi σ 121 0 l6.toNatClampNeg) = l1 → Ex d rc rs m_X11_beside 105 [vR (some (12, 0)), vI l1, vI l2, vI l3, vI l4, vU, vI l6, vI l7] [vI l5] σ Q))))))) ∧ (¬ l7 < (hi σ 12 0 8) → Ex d rc rs m_X11_beside 44 [vR (some (12, 0)), vI l1, vI l2, vI l3, vI l4, vI l5, vI (l6 + 1), vU] [] σ Q)))
theorem sX11_beside_56 {d rc rs : Nat} {l1 : Int32} {l2 : Int32} {l3 : Int32} {l4 : Int32} {l5 : Int32} {l6 : Int32} {l7 : Int32} {σ : XH} {Q : XV → XH → Prop} (h : bX11_beside_56 d rc rs l1 l2 l3 l4 l5 l6 l7 σ Q) : Ex d rc rs m_X11_beside 56 [vR (some (12, 0)), vI l1, vI l2, vI l3, vI l4, vI l5, vI l6, vI l7] [] σ Q :=
  xtree_sound (stop := stpX11_beside) okX11_beside 26 _ _ _ _ _ _ h
def bX11_beside_105 (d rc rs : Nat) (l1 : Int32) (l2 : Int32) (l3 : Int32) (l4 : Int32) (l6 : Int32) (l7 : Int32) (q0 : Int32) (σ : XH) (Q : XV → XH → Prop) : Prop :=
  Ex d rc rs m_X11_beside 106 [vR (some (12, 0)), vI l1, vI l2, vI l3, vI l4, vU, vI l6, vI l7] [vI 0, vI q0] σ Q
theorem sX11_beside_105 {d rc rs : Nat} {l1 : Int32} {l2 : Int32} {l3 : Int32} {l4 : Int32} {l6 : Int32} {l7 : Int32} {q0 : Int32} {σ : XH} {Q : XV → XH → Prop} (h : bX11_beside_105 d rc rs l1 l2 l3 l4 l6 l7 q0 σ Q) : Ex d rc rs m_X11_beside 105 [vR (some (12, 0)), vI l1, vI l2, vI l3, vI l4, vU, vI l6, vI l7] [vI q0] σ Q :=
  xtree_sound (stop := stpX11_beside) okX11_beside 3 _ _ _ _ _ _ h
def bX11_beside_106 (d rc rs : Nat) (l1 : Int32) (l2 : Int32) (l3 : Int32) (l4 : Int32) (l6 : Int32) (l7 : Int32) (q0 : Int32) (q1 : Int32) (σ : XH) (Q : XV → XH → Prop) : Prop :=
  Ex d rc rs m_X11_beside 56 [vR (some (12, 0)), vI l1, vI l2, vI l3, vI l4, vI (q1 + q0), vI l6, vI (l7 + 1)] [] σ Q
theorem sX11_beside_106 {d rc rs : Nat} {l1 : Int32} {l2 : Int32} {l3 : Int32} {l4 : Int32} {l6 : Int32} {l7 : Int32} {q0 : Int32} {q1 : Int32} {σ : XH} {Q : XV → XH → Prop} (h : bX11_beside_106 d rc rs l1 l2 l3 l4 l6 l7 q0 q1 σ Q) : Ex d rc rs m_X11_beside 106 [vR (some (12, 0)), vI l1, vI l2, vI l3, vI l4, vU, vI l6, vI l7] [vI q0, vI q1] σ Q :=
  xtree_sound (stop := stpX11_beside) okX11_beside 6 _ _ _ _ _ _ h
def bX11_beside_136 (d rc rs : Nat) (l1 : Int32) (l2 : Int32) (l3 : Int32) (l4 : Int32) (σ : XH) (Q : XV → XH → Prop) : Prop :=
  Ex d rc rs m_X11_beside 29 [vR (some (12, 0)), vI l1, vI l2, vI l3, vI (l4 + 1), vU, vU, vU] [] σ Q
theorem sX11_beside_136 {d rc rs : Nat} {l1 : Int32} {l2 : Int32} {l3 : Int32} {l4 : Int32} {σ : XH} {Q : XV → XH → Prop} (h : bX11_beside_136 d rc rs l1 l2 l3 l4 σ Q) : Ex d rc rs m_X11_beside 136 [vR (some (12, 0)), vI l1, vI l2, vI l3, vI l4, vU, vU, vU] [] σ Q :=
  xtree_sound (stop := stpX11_beside) okX11_beside 4 _ _ _ _ _ _ h
/-! SpotTimersModel.body(I)V -/
theorem dX11_body_0 : decode cX11_body 0 = .ok (.aload_n 0, 1) := by decide +kernel
theorem dX11_body_1 : decode cX11_body 1 = .ok (.getfield 203, 3) := by decide +kernel
theorem dX11_body_4 : decode cX11_body 4 = .ok (.bipush 20, 2) := by decide +kernel
theorem dX11_body_6 : decode cX11_body 6 = .ok (.if_icmp .ge 13, 3) := by decide +kernel
theorem dX11_body_9 : decode cX11_body 9 = .ok (.aload_n 0, 1) := by decide +kernel
theorem dX11_body_10 : decode cX11_body 10 = .ok (.getfield 206, 3) := by decide +kernel
theorem dX11_body_13 : decode cX11_body 13 = .ok (.aload_n 0, 1) := by decide +kernel
theorem dX11_body_14 : decode cX11_body 14 = .ok (.getfield 203, 3) := by decide +kernel
theorem dX11_body_17 : decode cX11_body 17 = .ok (.iload_n 1, 1) := by decide +kernel
theorem dX11_body_18 : decode cX11_body 18 = .ok (.iastore, 1) := by decide +kernel
theorem dX11_body_19 : decode cX11_body 19 = .ok (.aload_n 0, 1) := by decide +kernel
theorem dX11_body_20 : decode cX11_body 20 = .ok (.dup, 1) := by decide +kernel
theorem dX11_body_21 : decode cX11_body 21 = .ok (.getfield 203, 3) := by decide +kernel
theorem dX11_body_24 : decode cX11_body 24 = .ok (.iconst 1, 1) := by decide +kernel
theorem dX11_body_25 : decode cX11_body 25 = .ok (.iadd, 1) := by decide +kernel
theorem dX11_body_26 : decode cX11_body 26 = .ok (.putfield 203, 3) := by decide +kernel
theorem dX11_body_29 : decode cX11_body 29 = .ok (.return_, 1) := by decide +kernel
theorem oX11_body_0 : OKI 229 0 (.aload_n 0, 1, [0], 0, 0, []) := And.intro dX11_body_0 (And.intro rfl (rfl))
theorem oX11_body_1 : OKI 229 1 (.getfield 203, 4, [12, 63, 0], 0, 0, []) := And.intro dX11_body_1 (And.intro rfl (⟨(RX11, TX11, 69), "SpotTimersModel", rfl, by decide, tm_6 _ (List.mem_of_getElem? (i := 29) rfl) rfl, Or.inl rfl, Or.inr (Or.inr (And.intro rfl (Or.inl rfl)))⟩))
theorem oX11_body_4 : OKI 229 4 (.bipush 20, 6, [], 20, 0, []) := And.intro dX11_body_4 (And.intro rfl (by decide +kernel))
theorem oX11_body_6 : OKI 229 6 (.if_icmp .ge 13, 9, [19], 0, 0, []) := And.intro dX11_body_6 (And.intro rfl (by decide))
theorem oX11_body_9 : OKI 229 9 (.aload_n 0, 10, [0], 0, 0, []) := And.intro dX11_body_9 (And.intro rfl (rfl))
theorem oX11_body_10 : OKI 229 10 (.getfield 206, 13, [12, 64, 2, 150, 0], 0, 0, []) := And.intro dX11_body_10 (And.intro rfl (⟨(RX11, TX11, 69), "SpotTimersModel", rfl, by decide, tm_6 _ (List.mem_of_getElem? (i := 30) rfl) rfl, Or.inl rfl, rfl, rfl⟩))
theorem oX11_body_13 : OKI 229 13 (.aload_n 0, 14, [0], 0, 0, []) := And.intro dX11_body_13 (And.intro rfl (rfl))
theorem oX11_body_14 : OKI 229 14 (.getfield 203, 17, [12, 63, 0], 0, 0, []) := And.intro dX11_body_14 (And.intro rfl (⟨(RX11, TX11, 69), "SpotTimersModel", rfl, by decide, tm_6 _ (List.mem_of_getElem? (i := 29) rfl) rfl, Or.inl rfl, Or.inr (Or.inr (And.intro rfl (Or.inl rfl)))⟩))
theorem oX11_body_17 : OKI 229 17 (.iload_n 1, 18, [1], 0, 0, []) := And.intro dX11_body_17 (And.intro rfl (rfl))
theorem oX11_body_18 : OKI 229 18 (.iastore, 19, [], 0, 0, []) := And.intro dX11_body_18 rfl
theorem oX11_body_19 : OKI 229 19 (.aload_n 0, 20, [0], 0, 0, []) := And.intro dX11_body_19 (And.intro rfl (rfl))
theorem oX11_body_20 : OKI 229 20 (.dup, 21, [], 0, 0, []) := And.intro dX11_body_20 rfl
theorem oX11_body_21 : OKI 229 21 (.getfield 203, 24, [12, 63, 0], 0, 0, []) := And.intro dX11_body_21 (And.intro rfl (⟨(RX11, TX11, 69), "SpotTimersModel", rfl, by decide, tm_6 _ (List.mem_of_getElem? (i := 29) rfl) rfl, Or.inl rfl, Or.inr (Or.inr (And.intro rfl (Or.inl rfl)))⟩))
theorem oX11_body_24 : OKI 229 24 (.iconst 1, 25, [], 1, 0, []) := And.intro dX11_body_24 (And.intro rfl (by decide +kernel))
theorem oX11_body_25 : OKI 229 25 (.iadd, 26, [], 0, 0, []) := And.intro dX11_body_25 rfl
theorem oX11_body_26 : OKI 229 26 (.putfield 203, 29, [12, 63, 0], 0, 0, []) := And.intro dX11_body_26 (And.intro rfl (⟨(RX11, TX11, 69), "SpotTimersModel", rfl, by decide, tm_6 _ (List.mem_of_getElem? (i := 29) rfl) rfl, Or.inl rfl, Or.inl rfl, rfl⟩))
theorem oX11_body_29 : OKI 229 29 (.return_, 30, [], 0, 0, []) := And.intro dX11_body_29 rfl
def pfX11_body (pc : Nat) : Option XE := (bif Nat.blt pc 17 then (bif Nat.blt pc 9 then (bif Nat.blt pc 4 then (bif Nat.blt pc 1 then (bif Nat.beq pc 0 then some (.aload_n 0, 1, [0], 0, 0, []) else none) else (bif Nat.beq pc 1 then some (.getfield 203, 4, [12, 63, 0], 0, 0, []) else none)) else (bif Nat.blt pc 6 then (bif Nat.beq pc 4 then some (.bipush 20, 6, [], 20, 0, []) else none) else (bif Nat.beq pc 6 then some (.if_icmp .ge 13, 9, [19], 0, 0, []) else none))) else (bif Nat.blt pc 13 then (bif Nat.blt pc 10 then (bif Nat.beq pc 9 then some (.aload_n 0, 10, [0], 0, 0, []) else none) else (bif Nat.beq pc 10 then some (.getfield 206, 13, [12, 64, 2, 150, 0], 0, 0, []) else none)) else (bif Nat.blt pc 14 then (bif Nat.beq pc 13 then some (.aload_n 0, 14, [0], 0, 0, []) else none) else (bif Nat.beq pc 14 then some (.getfield 203, 17, [12, 63, 0], 0, 0, []) else none)))) else (bif Nat.blt pc 21 then (bif Nat.blt pc 19 then (bif Nat.blt pc 18 then (bif Nat.beq pc 17 then some (.iload_n 1, 18, [1], 0, 0, []) else none) else (bif Nat.beq pc 18 then some (.iastore, 19, [], 0, 0, []) else none)) else (bif Nat.blt pc 20 then (bif Nat.beq pc 19 then some (.aload_n 0, 20, [0], 0, 0, []) else none) else (bif Nat.beq pc 20 then some (.dup, 21, [], 0, 0, []) else none))) else (bif Nat.blt pc 25 then (bif Nat.blt pc 24 then (bif Nat.beq pc 21 then some (.getfield 203, 24, [12, 63, 0], 0, 0, []) else none) else (bif Nat.beq pc 24 then some (.iconst 1, 25, [], 1, 0, []) else none)) else (bif Nat.blt pc 26 then (bif Nat.beq pc 25 then some (.iadd, 26, [], 0, 0, []) else none) else (bif Nat.blt pc 29 then (bif Nat.beq pc 26 then some (.putfield 203, 29, [12, 63, 0], 0, 0, []) else none) else (bif Nat.beq pc 29 then some (.return_, 30, [], 0, 0, []) else none))))))
theorem okX11_body : ∀ pc Y, pfX11_body pc = some Y → OKI m_X11_body pc Y := fun pc Y => ((bt_node (bt_node (bt_node (bt_node (bt_leaf (P := OKI m_X11_body) oX11_body_0) (bt_leaf (P := OKI m_X11_body) oX11_body_1)) (bt_node (bt_leaf (P := OKI m_X11_body) oX11_body_4) (bt_leaf (P := OKI m_X11_body) oX11_body_6))) (bt_node (bt_node (bt_leaf (P := OKI m_X11_body) oX11_body_9) (bt_leaf (P := OKI m_X11_body) oX11_body_10)) (bt_node (bt_leaf (P := OKI m_X11_body) oX11_body_13) (bt_leaf (P := OKI m_X11_body) oX11_body_14)))) (bt_node (bt_node (bt_node (bt_leaf (P := OKI m_X11_body) oX11_body_17) (bt_leaf (P := OKI m_X11_body) oX11_body_18)) (bt_node (bt_leaf (P := OKI m_X11_body) oX11_body_19) (bt_leaf (P := OKI m_X11_body) oX11_body_20))) (bt_node (bt_node (bt_leaf (P := OKI m_X11_body) oX11_body_21) (bt_leaf (P := OKI m_X11_body) oX11_body_24)) (bt_node (bt_leaf (P := OKI m_X11_body) oX11_body_25) (bt_node (bt_leaf (P := OKI m_X11_body) oX11_body_26) (bt_leaf (P := OKI m_X11_body) oX11_body_29)))))) : pfX11_body pc = some Y → OKI m_X11_body pc Y)
def stpX11_body (pc : Nat) : Option (List Bool) := (bif Nat.beq pc 19 then some [true, false] else none)
def bX11_body_0 (d rc rs : Nat) (a1 : Int32) (σ : XH) (Q : XV → XH → Prop) : Prop :=
  ((((hi σ 12 0 63) < 20 → ((hr σ 12 0 64 = some (150, 0) ∧ (((vp_in (hi σ 12 0 63) (hn σ 150 0) ∧ (∀ h1, h1 = wI σ 150 0 (hi σ 12 0 63).toNatClampNeg a1 → Ex d rc rs m_X11_body 19 [vR (some (12, 0)), vU] [] h1 Q))))))) ∧ (¬ (hi σ 12 0 63) < 20 → Ex d rc rs m_X11_body 19 [vR (some (12, 0)), vU] [] σ Q)))
theorem sX11_body_0 {d rc rs : Nat} {a1 : Int32} {σ : XH} {Q : XV → XH → Prop} (h : bX11_body_0 d rc rs a1 σ Q) : Ex d rc rs m_X11_body 0 [vR (some (12, 0)), vI a1] [] σ Q :=
  xtree_sound (stop := stpX11_body) okX11_body 12 _ _ _ _ _ _ h
def bX11_body_19 (d rc rs : Nat)  (σ : XH) (Q : XV → XH → Prop) : Prop :=
  (((∀ h1, h1 = wI σ 12 0 63 ((hi σ 12 0 63) + 1) → Q vU h1)))
theorem sX11_body_19 {d rc rs : Nat}  {σ : XH} {Q : XV → XH → Prop} (h : bX11_body_19 d rc rs  σ Q) : Ex d rc rs m_X11_body 19 [vR (some (12, 0)), vU] [] σ Q :=
  xtree_sound (stop := stpX11_body) okX11_body 9 _ _ _ _ _ _ h
/-! SpotTimersModel.plainTimes(II)I -/
theorem dX11_plainTimes_0 : decode cX11_plainTimes 0 = .ok (.aload_n 0, 1) := by decide +kernel
theorem dX11_plainTimes_1 : decode cX11_plainTimes 1 = .ok (.bipush 10, 2) := by decide +kernel
theorem dX11_plainTimes_3 : decode cX11_plainTimes 3 = .ok (.invokevirtual 439, 3) := by decide +kernel
theorem dX11_plainTimes_6 : decode cX11_plainTimes 6 = .ok (.iload_n 2, 1) := by decide +kernel
theorem dX11_plainTimes_7 : decode cX11_plainTimes 7 = .ok (.iload_n 1, 1) := by decide +kernel
theorem dX11_plainTimes_8 : decode cX11_plainTimes 8 = .ok (.iadd, 1) := by decide +kernel
theorem dX11_plainTimes_9 : decode cX11_plainTimes 9 = .ok (.ireturn, 1) := by decide +kernel
theorem oX11_plainTimes_0 : OKI 230 0 (.aload_n 0, 1, [0], 0, 0, []) := And.intro dX11_plainTimes_0 (And.intro rfl (rfl))
theorem oX11_plainTimes_1 : OKI 230 1 (.bipush 10, 3, [], 10, 0, []) := And.intro dX11_plainTimes_1 (And.intro rfl (by decide +kernel))
theorem oX11_plainTimes_3 : OKI 230 3 (.invokevirtual 439, 6, [229, 2, 13, 0, 0, 0], 0, 0, []) := And.intro dX11_plainTimes_3 (And.intro rfl (And.intro (by decide) (And.intro (by decide) (And.intro mo_X11_body (And.intro (tm_8 _ (List.mem_of_getElem? (i := 81) rfl) rfl) (And.intro (tm_8 _ (List.mem_of_getElem? (i := 83) rfl) rfl) (And.intro (pm_7 _ (List.mem_of_getElem? (i := 0) rfl)) (Or.inl ⟨(RX11, TX11, 69), rfl, rfl⟩))))))))
theorem oX11_plainTimes_6 : OKI 230 6 (.iload_n 2, 7, [2], 0, 0, []) := And.intro dX11_plainTimes_6 (And.intro rfl (rfl))
theorem oX11_plainTimes_7 : OKI 230 7 (.iload_n 1, 8, [1], 0, 0, []) := And.intro dX11_plainTimes_7 (And.intro rfl (rfl))
theorem oX11_plainTimes_8 : OKI 230 8 (.iadd, 9, [], 0, 0, []) := And.intro dX11_plainTimes_8 rfl
theorem oX11_plainTimes_9 : OKI 230 9 (.ireturn, 10, [0], 0, 0, []) := And.intro dX11_plainTimes_9 (Or.inl (And.intro rfl rfl))
def pfX11_plainTimes (pc : Nat) : Option XE := (bif Nat.blt pc 6 then (bif Nat.blt pc 1 then (bif Nat.beq pc 0 then some (.aload_n 0, 1, [0], 0, 0, []) else none) else (bif Nat.blt pc 3 then (bif Nat.beq pc 1 then some (.bipush 10, 3, [], 10, 0, []) else none) else (bif Nat.beq pc 3 then some (.invokevirtual 439, 6, [229, 2, 13, 0, 0, 0], 0, 0, []) else none))) else (bif Nat.blt pc 8 then (bif Nat.blt pc 7 then (bif Nat.beq pc 6 then some (.iload_n 2, 7, [2], 0, 0, []) else none) else (bif Nat.beq pc 7 then some (.iload_n 1, 8, [1], 0, 0, []) else none)) else (bif Nat.blt pc 9 then (bif Nat.beq pc 8 then some (.iadd, 9, [], 0, 0, []) else none) else (bif Nat.beq pc 9 then some (.ireturn, 10, [0], 0, 0, []) else none))))
theorem okX11_plainTimes : ∀ pc Y, pfX11_plainTimes pc = some Y → OKI m_X11_plainTimes pc Y := fun pc Y => ((bt_node (bt_node (bt_leaf (P := OKI m_X11_plainTimes) oX11_plainTimes_0) (bt_node (bt_leaf (P := OKI m_X11_plainTimes) oX11_plainTimes_1) (bt_leaf (P := OKI m_X11_plainTimes) oX11_plainTimes_3))) (bt_node (bt_node (bt_leaf (P := OKI m_X11_plainTimes) oX11_plainTimes_6) (bt_leaf (P := OKI m_X11_plainTimes) oX11_plainTimes_7)) (bt_node (bt_leaf (P := OKI m_X11_plainTimes) oX11_plainTimes_8) (bt_leaf (P := OKI m_X11_plainTimes) oX11_plainTimes_9)))) : pfX11_plainTimes pc = some Y → OKI m_X11_plainTimes pc Y)
def stpX11_plainTimes (_ : Nat) : Option (List Bool) := none
def bX11_plainTimes_0 (d rc rs : Nat) (a1 : Int32) (a2 : Int32) (σ : XH) (Q : XV → XH → Prop) : Prop :=
  ((1 ≤ d ∧ Ec (d - 1) 0 0 m_X11_body [vR (some (12, 0)), vI 10] σ (kU fun h1 => Q (vI (a2 + a1)) h1)))
theorem sX11_plainTimes_0 {d rc rs : Nat} {a1 : Int32} {a2 : Int32} {σ : XH} {Q : XV → XH → Prop} (h : bX11_plainTimes_0 d rc rs a1 a2 σ Q) : Ex d rc rs m_X11_plainTimes 0 [vR (some (12, 0)), vI a1, vI a2] [] σ Q :=
  xtree_sound (stop := stpX11_plainTimes) okX11_plainTimes 9 _ _ _ _ _ _ h
/-! SpotTimersModel.timesOf(III)I -/
theorem dX11_timesOf_0 : decode cX11_timesOf 0 = .ok (.iload_n 2, 1) := by decide +kernel
theorem dX11_timesOf_1 : decode cX11_timesOf 1 = .ok (.iconst 1, 1) := by decide +kernel
theorem dX11_timesOf_2 : decode cX11_timesOf 2 = .ok (.if_icmp .ne 18, 3) := by decide +kernel
theorem dX11_timesOf_5 : decode cX11_timesOf 5 = .ok (.aload_n 0, 1) := by decide +kernel
theorem dX11_timesOf_6 : decode cX11_timesOf 6 = .ok (.bipush 20, 2) := by decide +kernel
theorem dX11_timesOf_8 : decode cX11_timesOf 8 = .ok (.invokevirtual 439, 3) := by decide +kernel
theorem dX11_timesOf_11 : decode cX11_timesOf 11 = .ok (.aload_n 0, 1) := by decide +kernel
theorem dX11_timesOf_12 : decode cX11_timesOf 12 = .ok (.iload_n 1, 1) := by decide +kernel
theorem dX11_timesOf_13 : decode cX11_timesOf 13 = .ok (.iload_n 3, 1) := by decide +kernel
theorem dX11_timesOf_14 : decode cX11_timesOf 14 = .ok (.invokevirtual 442, 3) := by decide +kernel
theorem dX11_timesOf_17 : decode cX11_timesOf 17 = .ok (.iconst 1, 1) := by decide +kernel
theorem dX11_timesOf_18 : decode cX11_timesOf 18 = .ok (.ixor, 1) := by decide +kernel
theorem dX11_timesOf_19 : decode cX11_timesOf 19 = .ok (.ireturn, 1) := by decide +kernel
theorem dX11_timesOf_20 : decode cX11_timesOf 20 = .ok (.iload_n 2, 1) := by decide +kernel
theorem dX11_timesOf_21 : decode cX11_timesOf 21 = .ok (.iconst 4, 1) := by decide +kernel
theorem dX11_timesOf_22 : decode cX11_timesOf 22 = .ok (.if_icmp .ne 18, 3) := by decide +kernel
theorem dX11_timesOf_25 : decode cX11_timesOf 25 = .ok (.aload_n 0, 1) := by decide +kernel
theorem dX11_timesOf_26 : decode cX11_timesOf 26 = .ok (.bipush 50, 2) := by decide +kernel
theorem dX11_timesOf_28 : decode cX11_timesOf 28 = .ok (.invokevirtual 439, 3) := by decide +kernel
theorem dX11_timesOf_31 : decode cX11_timesOf 31 = .ok (.aload_n 0, 1) := by decide +kernel
theorem dX11_timesOf_32 : decode cX11_timesOf 32 = .ok (.iload_n 1, 1) := by decide +kernel
theorem dX11_timesOf_33 : decode cX11_timesOf 33 = .ok (.iload_n 3, 1) := by decide +kernel
theorem dX11_timesOf_34 : decode cX11_timesOf 34 = .ok (.iconst 3, 1) := by decide +kernel
theorem dX11_timesOf_35 : decode cX11_timesOf 35 = .ok (.iadd, 1) := by decide +kernel
theorem dX11_timesOf_36 : decode cX11_timesOf 36 = .ok (.invokevirtual 442, 3) := by decide +kernel
theorem dX11_timesOf_39 : decode cX11_timesOf 39 = .ok (.ireturn, 1) := by decide +kernel
theorem dX11_timesOf_40 : decode cX11_timesOf 40 = .ok (.iload_n 2, 1) := by decide +kernel
theorem dX11_timesOf_41 : decode cX11_timesOf 41 = .ok (.bipush 6, 2) := by decide +kernel
theorem dX11_timesOf_43 : decode cX11_timesOf 43 = .ok (.if_icmp .ne 18, 3) := by decide +kernel
theorem dX11_timesOf_46 : decode cX11_timesOf 46 = .ok (.aload_n 0, 1) := by decide +kernel
theorem dX11_timesOf_47 : decode cX11_timesOf 47 = .ok (.bipush 70, 2) := by decide +kernel
theorem dX11_timesOf_49 : decode cX11_timesOf 49 = .ok (.invokevirtual 439, 3) := by decide +kernel
theorem dX11_timesOf_52 : decode cX11_timesOf 52 = .ok (.aload_n 0, 1) := by decide +kernel
theorem dX11_timesOf_53 : decode cX11_timesOf 53 = .ok (.iload_n 1, 1) := by decide +kernel
theorem dX11_timesOf_54 : decode cX11_timesOf 54 = .ok (.iload_n 3, 1) := by decide +kernel
theorem dX11_timesOf_55 : decode cX11_timesOf 55 = .ok (.invokevirtual 442, 3) := by decide +kernel
theorem dX11_timesOf_58 : decode cX11_timesOf 58 = .ok (.iconst 3, 1) := by decide +kernel
theorem dX11_timesOf_59 : decode cX11_timesOf 59 = .ok (.imul, 1) := by decide +kernel
theorem dX11_timesOf_60 : decode cX11_timesOf 60 = .ok (.ireturn, 1) := by decide +kernel
theorem dX11_timesOf_61 : decode cX11_timesOf 61 = .ok (.aload_n 0, 1) := by decide +kernel
theorem dX11_timesOf_62 : decode cX11_timesOf 62 = .ok (.iload_n 1, 1) := by decide +kernel
theorem dX11_timesOf_63 : decode cX11_timesOf 63 = .ok (.iload_n 3, 1) := by decide +kernel
theorem dX11_timesOf_64 : decode cX11_timesOf 64 = .ok (.invokevirtual 442, 3) := by decide +kernel
theorem dX11_timesOf_67 : decode cX11_timesOf 67 = .ok (.ireturn, 1) := by decide +kernel
theorem oX11_timesOf_0 : OKI 231 0 (.iload_n 2, 1, [2], 0, 0, []) := And.intro dX11_timesOf_0 (And.intro rfl (rfl))
theorem oX11_timesOf_1 : OKI 231 1 (.iconst 1, 2, [], 1, 0, []) := And.intro dX11_timesOf_1 (And.intro rfl (by decide +kernel))
theorem oX11_timesOf_2 : OKI 231 2 (.if_icmp .ne 18, 5, [20], 0, 0, []) := And.intro dX11_timesOf_2 (And.intro rfl (by decide))
theorem oX11_timesOf_5 : OKI 231 5 (.aload_n 0, 6, [0], 0, 0, []) := And.intro dX11_timesOf_5 (And.intro rfl (rfl))
theorem oX11_timesOf_6 : OKI 231 6 (.bipush 20, 8, [], 20, 0, []) := And.intro dX11_timesOf_6 (And.intro rfl (by decide +kernel))
theorem oX11_timesOf_8 : OKI 231 8 (.invokevirtual 439, 11, [229, 2, 13, 0, 0, 0], 0, 0, []) := And.intro dX11_timesOf_8 (And.intro rfl (And.intro (by decide) (And.intro (by decide) (And.intro mo_X11_body (And.intro (tm_8 _ (List.mem_of_getElem? (i := 81) rfl) rfl) (And.intro (tm_8 _ (List.mem_of_getElem? (i := 83) rfl) rfl) (And.intro (pm_7 _ (List.mem_of_getElem? (i := 0) rfl)) (Or.inl ⟨(RX11, TX11, 69), rfl, rfl⟩))))))))
theorem oX11_timesOf_11 : OKI 231 11 (.aload_n 0, 12, [0], 0, 0, []) := And.intro dX11_timesOf_11 (And.intro rfl (rfl))
theorem oX11_timesOf_12 : OKI 231 12 (.iload_n 1, 13, [1], 0, 0, []) := And.intro dX11_timesOf_12 (And.intro rfl (rfl))
theorem oX11_timesOf_13 : OKI 231 13 (.iload_n 3, 14, [3], 0, 0, []) := And.intro dX11_timesOf_13 (And.intro rfl (rfl))
theorem oX11_timesOf_14 : OKI 231 14 (.invokevirtual 442, 17, [230, 3, 13, 0, 0, 1], 0, 0, []) := And.intro dX11_timesOf_14 (And.intro rfl (And.intro (by decide) (And.intro (by decide) (And.intro mo_X11_plainTimes (And.intro (tm_8 _ (List.mem_of_getElem? (i := 85) rfl) rfl) (And.intro (tm_8 _ (List.mem_of_getElem? (i := 87) rfl) rfl) (And.intro (pm_7 _ (List.mem_of_getElem? (i := 1) rfl)) (Or.inl ⟨(RX11, TX11, 69), rfl, rfl⟩))))))))
theorem oX11_timesOf_17 : OKI 231 17 (.iconst 1, 18, [], 1, 0, []) := And.intro dX11_timesOf_17 (And.intro rfl (by decide +kernel))
theorem oX11_timesOf_18 : OKI 231 18 (.ixor, 19, [], 0, 0, []) := And.intro dX11_timesOf_18 rfl
theorem oX11_timesOf_19 : OKI 231 19 (.ireturn, 20, [0], 0, 0, []) := And.intro dX11_timesOf_19 (Or.inl (And.intro rfl rfl))
theorem oX11_timesOf_20 : OKI 231 20 (.iload_n 2, 21, [2], 0, 0, []) := And.intro dX11_timesOf_20 (And.intro rfl (rfl))
theorem oX11_timesOf_21 : OKI 231 21 (.iconst 4, 22, [], 4, 0, []) := And.intro dX11_timesOf_21 (And.intro rfl (by decide +kernel))
theorem oX11_timesOf_22 : OKI 231 22 (.if_icmp .ne 18, 25, [40], 0, 0, []) := And.intro dX11_timesOf_22 (And.intro rfl (by decide))
theorem oX11_timesOf_25 : OKI 231 25 (.aload_n 0, 26, [0], 0, 0, []) := And.intro dX11_timesOf_25 (And.intro rfl (rfl))
theorem oX11_timesOf_26 : OKI 231 26 (.bipush 50, 28, [], 50, 0, []) := And.intro dX11_timesOf_26 (And.intro rfl (by decide +kernel))
theorem oX11_timesOf_28 : OKI 231 28 (.invokevirtual 439, 31, [229, 2, 13, 0, 0, 0], 0, 0, []) := And.intro dX11_timesOf_28 (And.intro rfl (And.intro (by decide) (And.intro (by decide) (And.intro mo_X11_body (And.intro (tm_8 _ (List.mem_of_getElem? (i := 81) rfl) rfl) (And.intro (tm_8 _ (List.mem_of_getElem? (i := 83) rfl) rfl) (And.intro (pm_7 _ (List.mem_of_getElem? (i := 0) rfl)) (Or.inl ⟨(RX11, TX11, 69), rfl, rfl⟩))))))))
theorem oX11_timesOf_31 : OKI 231 31 (.aload_n 0, 32, [0], 0, 0, []) := And.intro dX11_timesOf_31 (And.intro rfl (rfl))
theorem oX11_timesOf_32 : OKI 231 32 (.iload_n 1, 33, [1], 0, 0, []) := And.intro dX11_timesOf_32 (And.intro rfl (rfl))
theorem oX11_timesOf_33 : OKI 231 33 (.iload_n 3, 34, [3], 0, 0, []) := And.intro dX11_timesOf_33 (And.intro rfl (rfl))
theorem oX11_timesOf_34 : OKI 231 34 (.iconst 3, 35, [], 3, 0, []) := And.intro dX11_timesOf_34 (And.intro rfl (by decide +kernel))
theorem oX11_timesOf_35 : OKI 231 35 (.iadd, 36, [], 0, 0, []) := And.intro dX11_timesOf_35 rfl
theorem oX11_timesOf_36 : OKI 231 36 (.invokevirtual 442, 39, [230, 3, 13, 0, 0, 1], 0, 0, []) := And.intro dX11_timesOf_36 (And.intro rfl (And.intro (by decide) (And.intro (by decide) (And.intro mo_X11_plainTimes (And.intro (tm_8 _ (List.mem_of_getElem? (i := 85) rfl) rfl) (And.intro (tm_8 _ (List.mem_of_getElem? (i := 87) rfl) rfl) (And.intro (pm_7 _ (List.mem_of_getElem? (i := 1) rfl)) (Or.inl ⟨(RX11, TX11, 69), rfl, rfl⟩))))))))
theorem oX11_timesOf_39 : OKI 231 39 (.ireturn, 40, [0], 0, 0, []) := And.intro dX11_timesOf_39 (Or.inl (And.intro rfl rfl))
theorem oX11_timesOf_40 : OKI 231 40 (.iload_n 2, 41, [2], 0, 0, []) := And.intro dX11_timesOf_40 (And.intro rfl (rfl))
theorem oX11_timesOf_41 : OKI 231 41 (.bipush 6, 43, [], 6, 0, []) := And.intro dX11_timesOf_41 (And.intro rfl (by decide +kernel))
theorem oX11_timesOf_43 : OKI 231 43 (.if_icmp .ne 18, 46, [61], 0, 0, []) := And.intro dX11_timesOf_43 (And.intro rfl (by decide))
theorem oX11_timesOf_46 : OKI 231 46 (.aload_n 0, 47, [0], 0, 0, []) := And.intro dX11_timesOf_46 (And.intro rfl (rfl))
theorem oX11_timesOf_47 : OKI 231 47 (.bipush 70, 49, [], 70, 0, []) := And.intro dX11_timesOf_47 (And.intro rfl (by decide +kernel))
theorem oX11_timesOf_49 : OKI 231 49 (.invokevirtual 439, 52, [229, 2, 13, 0, 0, 0], 0, 0, []) := And.intro dX11_timesOf_49 (And.intro rfl (And.intro (by decide) (And.intro (by decide) (And.intro mo_X11_body (And.intro (tm_8 _ (List.mem_of_getElem? (i := 81) rfl) rfl) (And.intro (tm_8 _ (List.mem_of_getElem? (i := 83) rfl) rfl) (And.intro (pm_7 _ (List.mem_of_getElem? (i := 0) rfl)) (Or.inl ⟨(RX11, TX11, 69), rfl, rfl⟩))))))))
theorem oX11_timesOf_52 : OKI 231 52 (.aload_n 0, 53, [0], 0, 0, []) := And.intro dX11_timesOf_52 (And.intro rfl (rfl))
theorem oX11_timesOf_53 : OKI 231 53 (.iload_n 1, 54, [1], 0, 0, []) := And.intro dX11_timesOf_53 (And.intro rfl (rfl))
theorem oX11_timesOf_54 : OKI 231 54 (.iload_n 3, 55, [3], 0, 0, []) := And.intro dX11_timesOf_54 (And.intro rfl (rfl))
theorem oX11_timesOf_55 : OKI 231 55 (.invokevirtual 442, 58, [230, 3, 13, 0, 0, 1], 0, 0, []) := And.intro dX11_timesOf_55 (And.intro rfl (And.intro (by decide) (And.intro (by decide) (And.intro mo_X11_plainTimes (And.intro (tm_8 _ (List.mem_of_getElem? (i := 85) rfl) rfl) (And.intro (tm_8 _ (List.mem_of_getElem? (i := 87) rfl) rfl) (And.intro (pm_7 _ (List.mem_of_getElem? (i := 1) rfl)) (Or.inl ⟨(RX11, TX11, 69), rfl, rfl⟩))))))))
theorem oX11_timesOf_58 : OKI 231 58 (.iconst 3, 59, [], 3, 0, []) := And.intro dX11_timesOf_58 (And.intro rfl (by decide +kernel))
theorem oX11_timesOf_59 : OKI 231 59 (.imul, 60, [], 0, 0, []) := And.intro dX11_timesOf_59 rfl
theorem oX11_timesOf_60 : OKI 231 60 (.ireturn, 61, [0], 0, 0, []) := And.intro dX11_timesOf_60 (Or.inl (And.intro rfl rfl))
theorem oX11_timesOf_61 : OKI 231 61 (.aload_n 0, 62, [0], 0, 0, []) := And.intro dX11_timesOf_61 (And.intro rfl (rfl))
theorem oX11_timesOf_62 : OKI 231 62 (.iload_n 1, 63, [1], 0, 0, []) := And.intro dX11_timesOf_62 (And.intro rfl (rfl))
theorem oX11_timesOf_63 : OKI 231 63 (.iload_n 3, 64, [3], 0, 0, []) := And.intro dX11_timesOf_63 (And.intro rfl (rfl))
theorem oX11_timesOf_64 : OKI 231 64 (.invokevirtual 442, 67, [230, 3, 13, 0, 0, 1], 0, 0, []) := And.intro dX11_timesOf_64 (And.intro rfl (And.intro (by decide) (And.intro (by decide) (And.intro mo_X11_plainTimes (And.intro (tm_8 _ (List.mem_of_getElem? (i := 85) rfl) rfl) (And.intro (tm_8 _ (List.mem_of_getElem? (i := 87) rfl) rfl) (And.intro (pm_7 _ (List.mem_of_getElem? (i := 1) rfl)) (Or.inl ⟨(RX11, TX11, 69), rfl, rfl⟩))))))))
theorem oX11_timesOf_67 : OKI 231 67 (.ireturn, 68, [0], 0, 0, []) := And.intro dX11_timesOf_67 (Or.inl (And.intro rfl rfl))
def pfX11_timesOf (pc : Nat) : Option XE := (bif Nat.blt pc 34 then (bif Nat.blt pc 18 then (bif Nat.blt pc 8 then (bif Nat.blt pc 2 then (bif Nat.blt pc 1 then (bif Nat.beq pc 0 then some (.iload_n 2, 1, [2], 0, 0, []) else none) else (bif Nat.beq pc 1 then some (.iconst 1, 2, [], 1, 0, []) else none)) else (bif Nat.blt pc 5 then (bif Nat.beq pc 2 then some (.if_icmp .ne 18, 5, [20], 0, 0, []) else none) else (bif Nat.blt pc 6 then (bif Nat.beq pc 5 then some (.aload_n 0, 6, [0], 0, 0, []) else none) else (bif Nat.beq pc 6 then some (.bipush 20, 8, [], 20, 0, []) else none)))) else (bif Nat.blt pc 13 then (bif Nat.blt pc 11 then (bif Nat.beq pc 8 then some (.invokevirtual 439, 11, [229, 2, 13, 0, 0, 0], 0, 0, []) else none) else (bif Nat.blt pc 12 then (bif Nat.beq pc 11 then some (.aload_n 0, 12, [0], 0, 0, []) else none) else (bif Nat.beq pc 12 then some (.iload_n 1, 13, [1], 0, 0, []) else none))) else (bif Nat.blt pc 14 then (bif Nat.beq pc 13 then some (.iload_n 3, 14, [3], 0, 0, []) else none) else (bif Nat.blt pc 17 then (bif Nat.beq pc 14 then some (.invokevirtual 442, 17, [230, 3, 13, 0, 0, 1], 0, 0, []) else none) else (bif Nat.beq pc 17 then some (.iconst 1, 18, [], 1, 0, []) else none))))) else (bif Nat.blt pc 25 then (bif Nat.blt pc 20 then (bif Nat.blt pc 19 then (bif Nat.beq pc 18 then some (.ixor, 19, [], 0, 0, []) else none) else (bif Nat.beq pc 19 then some (.ireturn, 20, [0], 0, 0, []) else none)) else (bif Nat.blt pc 21 then (bif Nat.beq pc 20 then some (.iload_n 2, 21, [2], 0, 0, []) else none) else (bif Nat.blt pc 22 then (bif Nat.beq pc 21 then some (.iconst 4, 22, [], 4, 0, []) else none) else (bif Nat.beq pc 22 then some (.if_icmp .ne 18, 25, [40], 0, 0, []) else none)))) else (bif Nat.blt pc 31 then (bif Nat.blt pc 26 then (bif Nat.beq pc 25 then some (.aload_n 0, 26, [0], 0, 0, []) else none) else (bif Nat.blt pc 28 then (bif Nat.beq pc 26 then some (.bipush 50, 28, [], 50, 0, []) else none) else (bif Nat.beq pc 28 then some (.invokevirtual 439, 31, [229, 2, 13, 0, 0, 0], 0, 0, []) else none))) else (bif Nat.blt pc 32 then (bif Nat.beq pc 31 then some (.aload_n 0, 32, [0], 0, 0, []) else none) else (bif Nat.blt pc 33 then (bif Nat.beq pc 32 then some (.iload_n 1, 33, [1], 0, 0, []) else none) else (bif Nat.beq pc 33 then some (.iload_n 3, 34, [3], 0, 0, []) else none)))))) else (bif Nat.blt pc 53 then (bif Nat.blt pc 41 then (bif Nat.blt pc 36 then (bif Nat.blt pc 35 then (bif Nat.beq pc 34 then some (.iconst 3, 35, [], 3, 0, []) else none) else (bif Nat.beq pc 35 then some (.iadd, 36, [], 0, 0, []) else none)) else (bif Nat.blt pc 39 then (bif Nat.beq pc 36 then some (.invokevirtual 442, 39, [230, 3, 13, 0, 0, 1], 0, 0, []) else none) else (bif Nat.blt pc 40 then (bif Nat.beq pc 39 then some (.ireturn, 40, [0], 0, 0, []) else none) else (bif Nat.beq pc 40 then some (.iload_n 2, 41, [2], 0, 0, []) else none)))) else (bif Nat.blt pc 47 then (bif Nat.blt pc 43 then (bif Nat.beq pc 41 then some (.bipush 6, 43, [], 6, 0, []) else none) else (bif Nat.blt pc 46 then (bif Nat.beq pc 43 then some (.if_icmp .ne 18, 46, [61], 0, 0, []) else none) else (bif Nat.beq pc 46 then some (.aload_n 0, 47, [0], 0, 0, []) else none))) else (bif Nat.blt pc 49 then (bif Nat.beq pc 47 then some (.bipush 70, 49, [], 70, 0, []) else none) else (bif Nat.blt pc 52 then (bif Nat.beq pc 49 then some (.invokevirtual 439, 52, [229, 2, 13, 0, 0, 0], 0, 0, []) else none) else (bif Nat.beq pc 52 then some (.aload_n 0, 53, [0], 0, 0, []) else none))))) else (bif Nat.blt pc 60 then (bif Nat.blt pc 55 then (bif Nat.blt pc 54 then (bif Nat.beq pc 53 then some (.iload_n 1, 54, [1], 0, 0, []) else none) else (bif Nat.beq pc 54 then some (.iload_n 3, 55, [3], 0, 0, []) else none)) else (bif Nat.blt pc 58 then (bif Nat.beq pc 55 then some (.invokevirtual 442, 58, [230, 3, 13, 0, 0, 1], 0, 0, []) else none) else (bif Nat.blt pc 59 then (bif Nat.beq pc 58 then some (.iconst 3, 59, [], 3, 0, []) else none) else (bif Nat.beq pc 59 then some (.imul, 60, [], 0, 0, []) else none)))) else (bif Nat.blt pc 63 then (bif Nat.blt pc 61 then (bif Nat.beq pc 60 then some (.ireturn, 61, [0], 0, 0, []) else none) else (bif Nat.blt pc 62 then (bif Nat.beq pc 61 then some (.aload_n 0, 62, [0], 0, 0, []) else none) else (bif Nat.beq pc 62 then some (.iload_n 1, 63, [1], 0, 0, []) else none))) else (bif Nat.blt pc 64 then (bif Nat.beq pc 63 then some (.iload_n 3, 64, [3], 0, 0, []) else none) else (bif Nat.blt pc 67 then (bif Nat.beq pc 64 then some (.invokevirtual 442, 67, [230, 3, 13, 0, 0, 1], 0, 0, []) else none) else (bif Nat.beq pc 67 then some (.ireturn, 68, [0], 0, 0, []) else none)))))))
theorem okX11_timesOf : ∀ pc Y, pfX11_timesOf pc = some Y → OKI m_X11_timesOf pc Y := fun pc Y => ((bt_node (bt_node (bt_node (bt_node (bt_node (bt_leaf (P := OKI m_X11_timesOf) oX11_timesOf_0) (bt_leaf (P := OKI m_X11_timesOf) oX11_timesOf_1)) (bt_node (bt_leaf (P := OKI m_X11_timesOf) oX11_timesOf_2) (bt_node (bt_leaf (P := OKI m_X11_timesOf) oX11_timesOf_5) (bt_leaf (P := OKI m_X11_timesOf) oX11_timesOf_6)))) (bt_node (bt_node (bt_leaf (P := OKI m_X11_timesOf) oX11_timesOf_8) (bt_node (bt_leaf (P := OKI m_X11_timesOf) oX11_timesOf_11) (bt_leaf (P := OKI m_X11_timesOf) oX11_timesOf_12))) (bt_node (bt_leaf (P := OKI m_X11_timesOf) oX11_timesOf_13) (bt_node (bt_leaf (P := OKI m_X11_timesOf) oX11_timesOf_14) (bt_leaf (P := OKI m_X11_timesOf) oX11_timesOf_17))))) (bt_node (bt_node (bt_node (bt_leaf (P := OKI m_X11_timesOf) oX11_timesOf_18) (bt_leaf (P := OKI m_X11_timesOf) oX11_timesOf_19)) (bt_node (bt_leaf (P := OKI m_X11_timesOf) oX11_timesOf_20) (bt_node (bt_leaf (P := OKI m_X11_timesOf) oX11_timesOf_21) (bt_leaf (P := OKI m_X11_timesOf) oX11_timesOf_22)))) (bt_node (bt_node (bt_leaf (P := OKI m_X11_timesOf) oX11_timesOf_25) (bt_node (bt_leaf (P := OKI m_X11_timesOf) oX11_timesOf_26) (bt_leaf (P := OKI m_X11_timesOf) oX11_timesOf_28))) (bt_node (bt_leaf (P := OKI m_X11_timesOf) oX11_timesOf_31) (bt_node (bt_leaf (P := OKI m_X11_timesOf) oX11_timesOf_32) (bt_leaf (P := OKI m_X11_timesOf) oX11_timesOf_33)))))) (bt_node (bt_node (bt_node (bt_node (bt_leaf (P := OKI m_X11_timesOf) oX11_timesOf_34) (bt_leaf (P := OKI m_X11_timesOf) oX11_timesOf_35)) (bt_node (bt_leaf (P := OKI m_X11_timesOf) oX11_timesOf_36) (bt_node (bt_leaf (P := OKI m_X11_timesOf) oX11_timesOf_39) (bt_leaf (P := OKI m_X11_timesOf) oX11_timesOf_40)))) (bt_node (bt_node (bt_leaf (P := OKI m_X11_timesOf) oX11_timesOf_41) (bt_node (bt_leaf (P := OKI m_X11_timesOf) oX11_timesOf_43) (bt_leaf (P := OKI m_X11_timesOf) oX11_timesOf_46))) (bt_node (bt_leaf (P := OKI m_X11_timesOf) oX11_timesOf_47) (bt_node (bt_leaf (P := OKI m_X11_timesOf) oX11_timesOf_49) (bt_leaf (P := OKI m_X11_timesOf) oX11_timesOf_52))))) (bt_node (bt_node (bt_node (bt_leaf (P := OKI m_X11_timesOf) oX11_timesOf_53) (bt_leaf (P := OKI m_X11_timesOf) oX11_timesOf_54)) (bt_node (bt_leaf (P := OKI m_X11_timesOf) oX11_timesOf_55) (bt_node (bt_leaf (P := OKI m_X11_timesOf) oX11_timesOf_58) (bt_leaf (P := OKI m_X11_timesOf) oX11_timesOf_59)))) (bt_node (bt_node (bt_leaf (P := OKI m_X11_timesOf) oX11_timesOf_60) (bt_node (bt_leaf (P := OKI m_X11_timesOf) oX11_timesOf_61) (bt_leaf (P := OKI m_X11_timesOf) oX11_timesOf_62))) (bt_node (bt_leaf (P := OKI m_X11_timesOf) oX11_timesOf_63) (bt_node (bt_leaf (P := OKI m_X11_timesOf) oX11_timesOf_64) (bt_leaf (P := OKI m_X11_timesOf) oX11_timesOf_67))))))) : pfX11_timesOf pc = some Y → OKI m_X11_timesOf pc Y)
def stpX11_timesOf (pc : Nat) : Option (List Bool) := (bif Nat.beq pc 40 then some [true, true, true, true] else none)
def bX11_timesOf_0 (d rc rs : Nat) (a1 : Int32) (a2 : Int32) (a3 : Int32) (σ : XH) (Q : XV → XH → Prop) : Prop :=
  ((a2 = 1 → ((1 ≤ d ∧ Ec (d - 1) 0 0 m_X11_body [vR (some (12, 0)), vI 20] σ (kU fun h4 => ((1 ≤ d ∧ Ec (d - 1) 0 0 m_X11_plainTimes [vR (some (12, 0)), vI a1, vI a3] h4 (kI fun x6 h5 => Q (vI (x6 ^^^ 1)) h5))))))) ∧ (¬ a2 = 1 → ((a2 = 4 → ((1 ≤ d ∧ Ec (d - 1) 0 0 m_X11_body [vR (some (12, 0)), vI 50] σ (kU fun h1 => ((1 ≤ d ∧ Ec (d - 1) 0 0 m_X11_plainTimes [vR (some (12, 0)), vI a1, vI (a3 + 3)] h1 (kI fun x3 h2 => Q (vI x3) h2))))))) ∧ (¬ a2 = 4 → Ex d rc rs m_X11_timesOf 40 [vR (some (12, 0)), vI a1, vI a2, vI a3] [] σ Q))))
theorem sX11_timesOf_0 {d rc rs : Nat} {a1 : Int32} {a2 : Int32} {a3 : Int32} {σ : XH} {Q : XV → XH → Prop} (h : bX11_timesOf_0 d rc rs a1 a2 a3 σ Q) : Ex d rc rs m_X11_timesOf 0 [vR (some (12, 0)), vI a1, vI a2, vI a3] [] σ Q :=
  xtree_sound (stop := stpX11_timesOf) okX11_timesOf 18 _ _ _ _ _ _ h
def bX11_timesOf_40 (d rc rs : Nat) (l1 : Int32) (l2 : Int32) (l3 : Int32) (σ : XH) (Q : XV → XH → Prop) : Prop :=
  ((l2 = 6 → ((1 ≤ d ∧ Ec (d - 1) 0 0 m_X11_body [vR (some (12, 0)), vI 70] σ (kU fun h3 => ((1 ≤ d ∧ Ec (d - 1) 0 0 m_X11_plainTimes [vR (some (12, 0)), vI l1, vI l3] h3 (kI fun x5 h4 => Q (vI (x5 * 3)) h4))))))) ∧ (¬ l2 = 6 → ((1 ≤ d ∧ Ec (d - 1) 0 0 m_X11_plainTimes [vR (some (12, 0)), vI l1, vI l3] σ (kI fun x2 h1 => Q (vI x2) h1)))))
theorem sX11_timesOf_40 {d rc rs : Nat} {l1 : Int32} {l2 : Int32} {l3 : Int32} {σ : XH} {Q : XV → XH → Prop} (h : bX11_timesOf_40 d rc rs l1 l2 l3 σ Q) : Ex d rc rs m_X11_timesOf 40 [vR (some (12, 0)), vI l1, vI l2, vI l3] [] σ Q :=
  xtree_sound (stop := stpX11_timesOf) okX11_timesOf 15 _ _ _ _ _ _ h
/-! SpotTimersModel.plainWeighs(III)I -/
theorem dX11_plainWeighs_0 : decode cX11_plainWeighs 0 = .ok (.aload_n 0, 1) := by decide +kernel
theorem dX11_plainWeighs_1 : decode cX11_plainWeighs 1 = .ok (.bipush 11, 2) := by decide +kernel
theorem dX11_plainWeighs_3 : decode cX11_plainWeighs 3 = .ok (.invokevirtual 439, 3) := by decide +kernel
theorem dX11_plainWeighs_6 : decode cX11_plainWeighs 6 = .ok (.aload_n 0, 1) := by decide +kernel
theorem dX11_plainWeighs_7 : decode cX11_plainWeighs 7 = .ok (.iload_n 1, 1) := by decide +kernel
theorem dX11_plainWeighs_8 : decode cX11_plainWeighs 8 = .ok (.iload_n 2, 1) := by decide +kernel
theorem dX11_plainWeighs_9 : decode cX11_plainWeighs 9 = .ok (.iload_n 3, 1) := by decide +kernel
theorem dX11_plainWeighs_10 : decode cX11_plainWeighs 10 = .ok (.invokevirtual 445, 3) := by decide +kernel
theorem dX11_plainWeighs_13 : decode cX11_plainWeighs 13 = .ok (.iconst 2, 1) := by decide +kernel
theorem dX11_plainWeighs_14 : decode cX11_plainWeighs 14 = .ok (.imul, 1) := by decide +kernel
theorem dX11_plainWeighs_15 : decode cX11_plainWeighs 15 = .ok (.ireturn, 1) := by decide +kernel
theorem oX11_plainWeighs_0 : OKI 232 0 (.aload_n 0, 1, [0], 0, 0, []) := And.intro dX11_plainWeighs_0 (And.intro rfl (rfl))
theorem oX11_plainWeighs_1 : OKI 232 1 (.bipush 11, 3, [], 11, 0, []) := And.intro dX11_plainWeighs_1 (And.intro rfl (by decide +kernel))
theorem oX11_plainWeighs_3 : OKI 232 3 (.invokevirtual 439, 6, [229, 2, 13, 0, 0, 0], 0, 0, []) := And.intro dX11_plainWeighs_3 (And.intro rfl (And.intro (by decide) (And.intro (by decide) (And.intro mo_X11_body (And.intro (tm_8 _ (List.mem_of_getElem? (i := 81) rfl) rfl) (And.intro (tm_8 _ (List.mem_of_getElem? (i := 83) rfl) rfl) (And.intro (pm_7 _ (List.mem_of_getElem? (i := 0) rfl)) (Or.inl ⟨(RX11, TX11, 69), rfl, rfl⟩))))))))
theorem oX11_plainWeighs_6 : OKI 232 6 (.aload_n 0, 7, [0], 0, 0, []) := And.intro dX11_plainWeighs_6 (And.intro rfl (rfl))
theorem oX11_plainWeighs_7 : OKI 232 7 (.iload_n 1, 8, [1], 0, 0, []) := And.intro dX11_plainWeighs_7 (And.intro rfl (rfl))
theorem oX11_plainWeighs_8 : OKI 232 8 (.iload_n 2, 9, [2], 0, 0, []) := And.intro dX11_plainWeighs_8 (And.intro rfl (rfl))
theorem oX11_plainWeighs_9 : OKI 232 9 (.iload_n 3, 10, [3], 0, 0, []) := And.intro dX11_plainWeighs_9 (And.intro rfl (rfl))
theorem oX11_plainWeighs_10 : OKI 232 10 (.invokevirtual 445, 13, [231, 4, 13, 0, 0, 1], 0, 0, []) := And.intro dX11_plainWeighs_10 (And.intro rfl (And.intro (by decide) (And.intro (by decide) (And.intro mo_X11_timesOf (And.intro (tm_8 _ (List.mem_of_getElem? (i := 77) rfl) rfl) (And.intro (tm_8 _ (List.mem_of_getElem? (i := 79) rfl) rfl) (And.intro (pm_6 _ (List.mem_of_getElem? (i := 15) rfl)) (Or.inl ⟨(RX11, TX11, 69), rfl, rfl⟩))))))))
theorem oX11_plainWeighs_13 : OKI 232 13 (.iconst 2, 14, [], 2, 0, []) := And.intro dX11_plainWeighs_13 (And.intro rfl (by decide +kernel))
theorem oX11_plainWeighs_14 : OKI 232 14 (.imul, 15, [], 0, 0, []) := And.intro dX11_plainWeighs_14 rfl
theorem oX11_plainWeighs_15 : OKI 232 15 (.ireturn, 16, [0], 0, 0, []) := And.intro dX11_plainWeighs_15 (Or.inl (And.intro rfl rfl))
def pfX11_plainWeighs (pc : Nat) : Option XE := (bif Nat.blt pc 8 then (bif Nat.blt pc 3 then (bif Nat.blt pc 1 then (bif Nat.beq pc 0 then some (.aload_n 0, 1, [0], 0, 0, []) else none) else (bif Nat.beq pc 1 then some (.bipush 11, 3, [], 11, 0, []) else none)) else (bif Nat.blt pc 6 then (bif Nat.beq pc 3 then some (.invokevirtual 439, 6, [229, 2, 13, 0, 0, 0], 0, 0, []) else none) else (bif Nat.blt pc 7 then (bif Nat.beq pc 6 then some (.aload_n 0, 7, [0], 0, 0, []) else none) else (bif Nat.beq pc 7 then some (.iload_n 1, 8, [1], 0, 0, []) else none)))) else (bif Nat.blt pc 13 then (bif Nat.blt pc 9 then (bif Nat.beq pc 8 then some (.iload_n 2, 9, [2], 0, 0, []) else none) else (bif Nat.blt pc 10 then (bif Nat.beq pc 9 then some (.iload_n 3, 10, [3], 0, 0, []) else none) else (bif Nat.beq pc 10 then some (.invokevirtual 445, 13, [231, 4, 13, 0, 0, 1], 0, 0, []) else none))) else (bif Nat.blt pc 14 then (bif Nat.beq pc 13 then some (.iconst 2, 14, [], 2, 0, []) else none) else (bif Nat.blt pc 15 then (bif Nat.beq pc 14 then some (.imul, 15, [], 0, 0, []) else none) else (bif Nat.beq pc 15 then some (.ireturn, 16, [0], 0, 0, []) else none)))))
theorem okX11_plainWeighs : ∀ pc Y, pfX11_plainWeighs pc = some Y → OKI m_X11_plainWeighs pc Y := fun pc Y => ((bt_node (bt_node (bt_node (bt_leaf (P := OKI m_X11_plainWeighs) oX11_plainWeighs_0) (bt_leaf (P := OKI m_X11_plainWeighs) oX11_plainWeighs_1)) (bt_node (bt_leaf (P := OKI m_X11_plainWeighs) oX11_plainWeighs_3) (bt_node (bt_leaf (P := OKI m_X11_plainWeighs) oX11_plainWeighs_6) (bt_leaf (P := OKI m_X11_plainWeighs) oX11_plainWeighs_7)))) (bt_node (bt_node (bt_leaf (P := OKI m_X11_plainWeighs) oX11_plainWeighs_8) (bt_node (bt_leaf (P := OKI m_X11_plainWeighs) oX11_plainWeighs_9) (bt_leaf (P := OKI m_X11_plainWeighs) oX11_plainWeighs_10))) (bt_node (bt_leaf (P := OKI m_X11_plainWeighs) oX11_plainWeighs_13) (bt_node (bt_leaf (P := OKI m_X11_plainWeighs) oX11_plainWeighs_14) (bt_leaf (P := OKI m_X11_plainWeighs) oX11_plainWeighs_15))))) : pfX11_plainWeighs pc = some Y → OKI m_X11_plainWeighs pc Y)
def stpX11_plainWeighs (_ : Nat) : Option (List Bool) := none
def bX11_plainWeighs_0 (d rc rs : Nat) (a1 : Int32) (a2 : Int32) (a3 : Int32) (σ : XH) (Q : XV → XH → Prop) : Prop :=
  ((1 ≤ d ∧ Ec (d - 1) 0 0 m_X11_body [vR (some (12, 0)), vI 11] σ (kU fun h1 => ((1 ≤ d ∧ Ec (d - 1) 0 0 m_X11_timesOf [vR (some (12, 0)), vI a1, vI a2, vI a3] h1 (kI fun x3 h2 => Q (vI (x3 * 2)) h2))))))
theorem sX11_plainWeighs_0 {d rc rs : Nat} {a1 : Int32} {a2 : Int32} {a3 : Int32} {σ : XH} {Q : XV → XH → Prop} (h : bX11_plainWeighs_0 d rc rs a1 a2 a3 σ Q) : Ex d rc rs m_X11_plainWeighs 0 [vR (some (12, 0)), vI a1, vI a2, vI a3] [] σ Q :=
  xtree_sound (stop := stpX11_plainWeighs) okX11_plainWeighs 13 _ _ _ _ _ _ h
/-! SpotTimersModel.weighsOf(III)I -/
theorem dX11_weighsOf_0 : decode cX11_weighsOf 0 = .ok (.iload_n 2, 1) := by decide +kernel
theorem dX11_weighsOf_1 : decode cX11_weighsOf 1 = .ok (.iconst 2, 1) := by decide +kernel
theorem dX11_weighsOf_2 : decode cX11_weighsOf 2 = .ok (.if_icmp .ne 29, 3) := by decide +kernel
theorem dX11_weighsOf_5 : decode cX11_weighsOf 5 = .ok (.aload_n 0, 1) := by decide +kernel
theorem dX11_weighsOf_6 : decode cX11_weighsOf 6 = .ok (.bipush 30, 2) := by decide +kernel
theorem dX11_weighsOf_8 : decode cX11_weighsOf 8 = .ok (.invokevirtual 439, 3) := by decide +kernel
theorem dX11_weighsOf_11 : decode cX11_weighsOf 11 = .ok (.aload_n 0, 1) := by decide +kernel
theorem dX11_weighsOf_12 : decode cX11_weighsOf 12 = .ok (.iload_n 1, 1) := by decide +kernel
theorem dX11_weighsOf_13 : decode cX11_weighsOf 13 = .ok (.iload_n 2, 1) := by decide +kernel
theorem dX11_weighsOf_14 : decode cX11_weighsOf 14 = .ok (.iload_n 3, 1) := by decide +kernel
theorem dX11_weighsOf_15 : decode cX11_weighsOf 15 = .ok (.invokevirtual 448, 3) := by decide +kernel
theorem dX11_weighsOf_18 : decode cX11_weighsOf 18 = .ok (.istore 4, 2) := by decide +kernel
theorem dX11_weighsOf_20 : decode cX11_weighsOf 20 = .ok (.iload 4, 2) := by decide +kernel
theorem dX11_weighsOf_22 : decode cX11_weighsOf 22 = .ok (.aload_n 0, 1) := by decide +kernel
theorem dX11_weighsOf_23 : decode cX11_weighsOf 23 = .ok (.iload_n 1, 1) := by decide +kernel
theorem dX11_weighsOf_24 : decode cX11_weighsOf 24 = .ok (.iload_n 2, 1) := by decide +kernel
theorem dX11_weighsOf_25 : decode cX11_weighsOf 25 = .ok (.iconst 2, 1) := by decide +kernel
theorem dX11_weighsOf_26 : decode cX11_weighsOf 26 = .ok (.invokevirtual 445, 3) := by decide +kernel
theorem dX11_weighsOf_29 : decode cX11_weighsOf 29 = .ok (.iadd, 1) := by decide +kernel
theorem dX11_weighsOf_30 : decode cX11_weighsOf 30 = .ok (.ireturn, 1) := by decide +kernel
theorem dX11_weighsOf_31 : decode cX11_weighsOf 31 = .ok (.iload_n 2, 1) := by decide +kernel
theorem dX11_weighsOf_32 : decode cX11_weighsOf 32 = .ok (.iconst 5, 1) := by decide +kernel
theorem dX11_weighsOf_33 : decode cX11_weighsOf 33 = .ok (.if_icmp .ne 19, 3) := by decide +kernel
theorem dX11_weighsOf_36 : decode cX11_weighsOf 36 = .ok (.aload_n 0, 1) := by decide +kernel
theorem dX11_weighsOf_37 : decode cX11_weighsOf 37 = .ok (.bipush 60, 2) := by decide +kernel
theorem dX11_weighsOf_39 : decode cX11_weighsOf 39 = .ok (.invokevirtual 439, 3) := by decide +kernel
theorem dX11_weighsOf_42 : decode cX11_weighsOf 42 = .ok (.aload_n 0, 1) := by decide +kernel
theorem dX11_weighsOf_43 : decode cX11_weighsOf 43 = .ok (.iload_n 1, 1) := by decide +kernel
theorem dX11_weighsOf_44 : decode cX11_weighsOf 44 = .ok (.iload_n 2, 1) := by decide +kernel
theorem dX11_weighsOf_45 : decode cX11_weighsOf 45 = .ok (.iload_n 3, 1) := by decide +kernel
theorem dX11_weighsOf_46 : decode cX11_weighsOf 46 = .ok (.invokevirtual 448, 3) := by decide +kernel
theorem dX11_weighsOf_49 : decode cX11_weighsOf 49 = .ok (.iload_n 3, 1) := by decide +kernel
theorem dX11_weighsOf_50 : decode cX11_weighsOf 50 = .ok (.ixor, 1) := by decide +kernel
theorem dX11_weighsOf_51 : decode cX11_weighsOf 51 = .ok (.ireturn, 1) := by decide +kernel
theorem dX11_weighsOf_52 : decode cX11_weighsOf 52 = .ok (.aload_n 0, 1) := by decide +kernel
theorem dX11_weighsOf_53 : decode cX11_weighsOf 53 = .ok (.iload_n 1, 1) := by decide +kernel
theorem dX11_weighsOf_54 : decode cX11_weighsOf 54 = .ok (.iload_n 2, 1) := by decide +kernel
theorem dX11_weighsOf_55 : decode cX11_weighsOf 55 = .ok (.iload_n 3, 1) := by decide +kernel
theorem dX11_weighsOf_56 : decode cX11_weighsOf 56 = .ok (.invokevirtual 448, 3) := by decide +kernel
theorem dX11_weighsOf_59 : decode cX11_weighsOf 59 = .ok (.ireturn, 1) := by decide +kernel
theorem oX11_weighsOf_0 : OKI 233 0 (.iload_n 2, 1, [2], 0, 0, []) := And.intro dX11_weighsOf_0 (And.intro rfl (rfl))
theorem oX11_weighsOf_1 : OKI 233 1 (.iconst 2, 2, [], 2, 0, []) := And.intro dX11_weighsOf_1 (And.intro rfl (by decide +kernel))
theorem oX11_weighsOf_2 : OKI 233 2 (.if_icmp .ne 29, 5, [31], 0, 0, []) := And.intro dX11_weighsOf_2 (And.intro rfl (by decide))
theorem oX11_weighsOf_5 : OKI 233 5 (.aload_n 0, 6, [0], 0, 0, []) := And.intro dX11_weighsOf_5 (And.intro rfl (rfl))
theorem oX11_weighsOf_6 : OKI 233 6 (.bipush 30, 8, [], 30, 0, []) := And.intro dX11_weighsOf_6 (And.intro rfl (by decide +kernel))
theorem oX11_weighsOf_8 : OKI 233 8 (.invokevirtual 439, 11, [229, 2, 13, 0, 0, 0], 0, 0, []) := And.intro dX11_weighsOf_8 (And.intro rfl (And.intro (by decide) (And.intro (by decide) (And.intro mo_X11_body (And.intro (tm_8 _ (List.mem_of_getElem? (i := 81) rfl) rfl) (And.intro (tm_8 _ (List.mem_of_getElem? (i := 83) rfl) rfl) (And.intro (pm_7 _ (List.mem_of_getElem? (i := 0) rfl)) (Or.inl ⟨(RX11, TX11, 69), rfl, rfl⟩))))))))
theorem oX11_weighsOf_11 : OKI 233 11 (.aload_n 0, 12, [0], 0, 0, []) := And.intro dX11_weighsOf_11 (And.intro rfl (rfl))
theorem oX11_weighsOf_12 : OKI 233 12 (.iload_n 1, 13, [1], 0, 0, []) := And.intro dX11_weighsOf_12 (And.intro rfl (rfl))
theorem oX11_weighsOf_13 : OKI 233 13 (.iload_n 2, 14, [2], 0, 0, []) := And.intro dX11_weighsOf_13 (And.intro rfl (rfl))
theorem oX11_weighsOf_14 : OKI 233 14 (.iload_n 3, 15, [3], 0, 0, []) := And.intro dX11_weighsOf_14 (And.intro rfl (rfl))
theorem oX11_weighsOf_15 : OKI 233 15 (.invokevirtual 448, 18, [232, 4, 13, 0, 0, 1], 0, 0, []) := And.intro dX11_weighsOf_15 (And.intro rfl (And.intro (by decide) (And.intro (by decide) (And.intro mo_X11_plainWeighs (And.intro (tm_8 _ (List.mem_of_getElem? (i := 93) rfl) rfl) (And.intro (tm_8 _ (List.mem_of_getElem? (i := 95) rfl) rfl) (And.intro (pm_7 _ (List.mem_of_getElem? (i := 3) rfl)) (Or.inl ⟨(RX11, TX11, 69), rfl, rfl⟩))))))))
theorem oX11_weighsOf_18 : OKI 233 18 (.istore 4, 20, [4], 0, 0, []) := And.intro dX11_weighsOf_18 (And.intro rfl (And.intro rfl (by decide)))
theorem oX11_weighsOf_20 : OKI 233 20 (.iload 4, 22, [4], 0, 0, []) := And.intro dX11_weighsOf_20 (And.intro rfl (rfl))
theorem oX11_weighsOf_22 : OKI 233 22 (.aload_n 0, 23, [0], 0, 0, []) := And.intro dX11_weighsOf_22 (And.intro rfl (rfl))
theorem oX11_weighsOf_23 : OKI 233 23 (.iload_n 1, 24, [1], 0, 0, []) := And.intro dX11_weighsOf_23 (And.intro rfl (rfl))
theorem oX11_weighsOf_24 : OKI 233 24 (.iload_n 2, 25, [2], 0, 0, []) := And.intro dX11_weighsOf_24 (And.intro rfl (rfl))
theorem oX11_weighsOf_25 : OKI 233 25 (.iconst 2, 26, [], 2, 0, []) := And.intro dX11_weighsOf_25 (And.intro rfl (by decide +kernel))
theorem oX11_weighsOf_26 : OKI 233 26 (.invokevirtual 445, 29, [231, 4, 13, 0, 0, 1], 0, 0, []) := And.intro dX11_weighsOf_26 (And.intro rfl (And.intro (by decide) (And.intro (by decide) (And.intro mo_X11_timesOf (And.intro (tm_8 _ (List.mem_of_getElem? (i := 77) rfl) rfl) (And.intro (tm_8 _ (List.mem_of_getElem? (i := 79) rfl) rfl) (And.intro (pm_6 _ (List.mem_of_getElem? (i := 15) rfl)) (Or.inl ⟨(RX11, TX11, 69), rfl, rfl⟩))))))))
theorem oX11_weighsOf_29 : OKI 233 29 (.iadd, 30, [], 0, 0, []) := And.intro dX11_weighsOf_29 rfl
theorem oX11_weighsOf_30 : OKI 233 30 (.ireturn, 31, [0], 0, 0, []) := And.intro dX11_weighsOf_30 (Or.inl (And.intro rfl rfl))
theorem oX11_weighsOf_31 : OKI 233 31 (.iload_n 2, 32, [2], 0, 0, []) := And.intro dX11_weighsOf_31 (And.intro rfl (rfl))
theorem oX11_weighsOf_32 : OKI 233 32 (.iconst 5, 33, [], 5, 0, []) := And.intro dX11_weighsOf_32 (And.intro rfl (by decide +kernel))
theorem oX11_weighsOf_33 : OKI 233 33 (.if_icmp .ne 19, 36, [52], 0, 0, []) := And.intro dX11_weighsOf_33 (And.intro rfl (by decide))
theorem oX11_weighsOf_36 : OKI 233 36 (.aload_n 0, 37, [0], 0, 0, []) := And.intro dX11_weighsOf_36 (And.intro rfl (rfl))
theorem oX11_weighsOf_37 : OKI 233 37 (.bipush 60, 39, [], 60, 0, []) := And.intro dX11_weighsOf_37 (And.intro rfl (by decide +kernel))
theorem oX11_weighsOf_39 : OKI 233 39 (.invokevirtual 439, 42, [229, 2, 13, 0, 0, 0], 0, 0, []) := And.intro dX11_weighsOf_39 (And.intro rfl (And.intro (by decide) (And.intro (by decide) (And.intro mo_X11_body (And.intro (tm_8 _ (List.mem_of_getElem? (i := 81) rfl) rfl) (And.intro (tm_8 _ (List.mem_of_getElem? (i := 83) rfl) rfl) (And.intro (pm_7 _ (List.mem_of_getElem? (i := 0) rfl)) (Or.inl ⟨(RX11, TX11, 69), rfl, rfl⟩))))))))
theorem oX11_weighsOf_42 : OKI 233 42 (.aload_n 0, 43, [0], 0, 0, []) := And.intro dX11_weighsOf_42 (And.intro rfl (rfl))
theorem oX11_weighsOf_43 : OKI 233 43 (.iload_n 1, 44, [1], 0, 0, []) := And.intro dX11_weighsOf_43 (And.intro rfl (rfl))
theorem oX11_weighsOf_44 : OKI 233 44 (.iload_n 2, 45, [2], 0, 0, []) := And.intro dX11_weighsOf_44 (And.intro rfl (rfl))
theorem oX11_weighsOf_45 : OKI 233 45 (.iload_n 3, 46, [3], 0, 0, []) := And.intro dX11_weighsOf_45 (And.intro rfl (rfl))
theorem oX11_weighsOf_46 : OKI 233 46 (.invokevirtual 448, 49, [232, 4, 13, 0, 0, 1], 0, 0, []) := And.intro dX11_weighsOf_46 (And.intro rfl (And.intro (by decide) (And.intro (by decide) (And.intro mo_X11_plainWeighs (And.intro (tm_8 _ (List.mem_of_getElem? (i := 93) rfl) rfl) (And.intro (tm_8 _ (List.mem_of_getElem? (i := 95) rfl) rfl) (And.intro (pm_7 _ (List.mem_of_getElem? (i := 3) rfl)) (Or.inl ⟨(RX11, TX11, 69), rfl, rfl⟩))))))))
theorem oX11_weighsOf_49 : OKI 233 49 (.iload_n 3, 50, [3], 0, 0, []) := And.intro dX11_weighsOf_49 (And.intro rfl (rfl))
theorem oX11_weighsOf_50 : OKI 233 50 (.ixor, 51, [], 0, 0, []) := And.intro dX11_weighsOf_50 rfl
theorem oX11_weighsOf_51 : OKI 233 51 (.ireturn, 52, [0], 0, 0, []) := And.intro dX11_weighsOf_51 (Or.inl (And.intro rfl rfl))
theorem oX11_weighsOf_52 : OKI 233 52 (.aload_n 0, 53, [0], 0, 0, []) := And.intro dX11_weighsOf_52 (And.intro rfl (rfl))
theorem oX11_weighsOf_53 : OKI 233 53 (.iload_n 1, 54, [1], 0, 0, []) := And.intro dX11_weighsOf_53 (And.intro rfl (rfl))
theorem oX11_weighsOf_54 : OKI 233 54 (.iload_n 2, 55, [2], 0, 0, []) := And.intro dX11_weighsOf_54 (And.intro rfl (rfl))
theorem oX11_weighsOf_55 : OKI 233 55 (.iload_n 3, 56, [3], 0, 0, []) := And.intro dX11_weighsOf_55 (And.intro rfl (rfl))
theorem oX11_weighsOf_56 : OKI 233 56 (.invokevirtual 448, 59, [232, 4, 13, 0, 0, 1], 0, 0, []) := And.intro dX11_weighsOf_56 (And.intro rfl (And.intro (by decide) (And.intro (by decide) (And.intro mo_X11_plainWeighs (And.intro (tm_8 _ (List.mem_of_getElem? (i := 93) rfl) rfl) (And.intro (tm_8 _ (List.mem_of_getElem? (i := 95) rfl) rfl) (And.intro (pm_7 _ (List.mem_of_getElem? (i := 3) rfl)) (Or.inl ⟨(RX11, TX11, 69), rfl, rfl⟩))))))))
theorem oX11_weighsOf_59 : OKI 233 59 (.ireturn, 60, [0], 0, 0, []) := And.intro dX11_weighsOf_59 (Or.inl (And.intro rfl rfl))
def pfX11_weighsOf (pc : Nat) : Option XE := (bif Nat.blt pc 31 then (bif Nat.blt pc 15 then (bif Nat.blt pc 8 then (bif Nat.blt pc 2 then (bif Nat.blt pc 1 then (bif Nat.beq pc 0 then some (.iload_n 2, 1, [2], 0, 0, []) else none) else (bif Nat.beq pc 1 then some (.iconst 2, 2, [], 2, 0, []) else none)) else (bif Nat.blt pc 5 then (bif Nat.beq pc 2 then some (.if_icmp .ne 29, 5, [31], 0, 0, []) else none) else (bif Nat.blt pc 6 then (bif Nat.beq pc 5 then some (.aload_n 0, 6, [0], 0, 0, []) else none) else (bif Nat.beq pc 6 then some (.bipush 30, 8, [], 30, 0, []) else none)))) else (bif Nat.blt pc 12 then (bif Nat.blt pc 11 then (bif Nat.beq pc 8 then some (.invokevirtual 439, 11, [229, 2, 13, 0, 0, 0], 0, 0, []) else none) else (bif Nat.beq pc 11 then some (.aload_n 0, 12, [0], 0, 0, []) else none)) else (bif Nat.blt pc 13 then (bif Nat.beq pc 12 then some (.iload_n 1, 13, [1], 0, 0, []) else none) else (bif Nat.blt pc 14 then (bif Nat.beq pc 13 then some (.iload_n 2, 14, [2], 0, 0, []) else none) else (bif Nat.beq pc 14 then some (.iload_n 3, 15, [3], 0, 0, []) else none))))) else (bif Nat.blt pc 24 then (bif Nat.blt pc 20 then (bif Nat.blt pc 18 then (bif Nat.beq pc 15 then some (.invokevirtual 448, 18, [232, 4, 13, 0, 0, 1], 0, 0, []) else none) else (bif Nat.beq pc 18 then some (.istore 4, 20, [4], 0, 0, []) else none)) else (bif Nat.blt pc 22 then (bif Nat.beq pc 20 then some (.iload 4, 22, [4], 0, 0, []) else none) else (bif Nat.blt pc 23 then (bif Nat.beq pc 22 then some (.aload_n 0, 23, [0], 0, 0, []) else none) else (bif Nat.beq pc 23 then some (.iload_n 1, 24, [1], 0, 0, []) else none)))) else (bif Nat.blt pc 26 then (bif Nat.blt pc 25 then (bif Nat.beq pc 24 then some (.iload_n 2, 25, [2], 0, 0, []) else none) else (bif Nat.beq pc 25 then some (.iconst 2, 26, [], 2, 0, []) else none)) else (bif Nat.blt pc 29 then (bif Nat.beq pc 26 then some (.invokevirtual 445, 29, [231, 4, 13, 0, 0, 1], 0, 0, []) else none) else (bif Nat.blt pc 30 then (bif Nat.beq pc 29 then some (.iadd, 30, [], 0, 0, []) else none) else (bif Nat.beq pc 30 then some (.ireturn, 31, [0], 0, 0, []) else none)))))) else (bif Nat.blt pc 46 then (bif Nat.blt pc 39 then (bif Nat.blt pc 33 then (bif Nat.blt pc 32 then (bif Nat.beq pc 31 then some (.iload_n 2, 32, [2], 0, 0, []) else none) else (bif Nat.beq pc 32 then some (.iconst 5, 33, [], 5, 0, []) else none)) else (bif Nat.blt pc 36 then (bif Nat.beq pc 33 then some (.if_icmp .ne 19, 36, [52], 0, 0, []) else none) else (bif Nat.blt pc 37 then (bif Nat.beq pc 36 then some (.aload_n 0, 37, [0], 0, 0, []) else none) else (bif Nat.beq pc 37 then some (.bipush 60, 39, [], 60, 0, []) else none)))) else (bif Nat.blt pc 43 then (bif Nat.blt pc 42 then (bif Nat.beq pc 39 then some (.invokevirtual 439, 42, [229, 2, 13, 0, 0, 0], 0, 0, []) else none) else (bif Nat.beq pc 42 then some (.aload_n 0, 43, [0], 0, 0, []) else none)) else (bif Nat.blt pc 44 then (bif Nat.beq pc 43 then some (.iload_n 1, 44, [1], 0, 0, []) else none) else (bif Nat.blt pc 45 then (bif Nat.beq pc 44 then some (.iload_n 2, 45, [2], 0, 0, []) else none) else (bif Nat.beq pc 45 then some (.iload_n 3, 46, [3], 0, 0, []) else none))))) else (bif Nat.blt pc 53 then (bif Nat.blt pc 50 then (bif Nat.blt pc 49 then (bif Nat.beq pc 46 then some (.invokevirtual 448, 49, [232, 4, 13, 0, 0, 1], 0, 0, []) else none) else (bif Nat.beq pc 49 then some (.iload_n 3, 50, [3], 0, 0, []) else none)) else (bif Nat.blt pc 51 then (bif Nat.beq pc 50 then some (.ixor, 51, [], 0, 0, []) else none) else (bif Nat.blt pc 52 then (bif Nat.beq pc 51 then some (.ireturn, 52, [0], 0, 0, []) else none) else (bif Nat.beq pc 52 then some (.aload_n 0, 53, [0], 0, 0, []) else none)))) else (bif Nat.blt pc 55 then (bif Nat.blt pc 54 then (bif Nat.beq pc 53 then some (.iload_n 1, 54, [1], 0, 0, []) else none) else (bif Nat.beq pc 54 then some (.iload_n 2, 55, [2], 0, 0, []) else none)) else (bif Nat.blt pc 56 then (bif Nat.beq pc 55 then some (.iload_n 3, 56, [3], 0, 0, []) else none) else (bif Nat.blt pc 59 then (bif Nat.beq pc 56 then some (.invokevirtual 448, 59, [232, 4, 13, 0, 0, 1], 0, 0, []) else none) else (bif Nat.beq pc 59 then some (.ireturn, 60, [0], 0, 0, []) else none)))))))
theorem okX11_weighsOf : ∀ pc Y, pfX11_weighsOf pc = some Y → OKI m_X11_weighsOf pc Y := fun pc Y => ((bt_node (bt_node (bt_node (bt_node (bt_node (bt_leaf (P := OKI m_X11_weighsOf) oX11_weighsOf_0) (bt_leaf (P := OKI m_X11_weighsOf) oX11_weighsOf_1)) (bt_node (bt_leaf (P := OKI m_X11_weighsOf) oX11_weighsOf_2) (bt_node (bt_leaf (P := OKI m_X11_weighsOf) oX11_weighsOf_5) (bt_leaf (P := OKI m_X11_weighsOf) oX11_weighsOf_6)))) (bt_node (bt_node (bt_leaf (P := OKI m_X11_weighsOf) oX11_weighsOf_8) (bt_leaf (P := OKI m_X11_weighsOf) oX11_weighsOf_11)) (bt_node (bt_leaf (P := OKI m_X11_weighsOf) oX11_weighsOf_12) (bt_node (bt_leaf (P := OKI m_X11_weighsOf) oX11_weighsOf_13) (bt_leaf (P := OKI m_X11_weighsOf) oX11_weighsOf_14))))) (bt_node (bt_node (bt_node (bt_leaf (P := OKI m_X11_weighsOf) oX11_weighsOf_15) (bt_leaf (P := OKI m_X11_weighsOf) oX11_weighsOf_18)) (bt_node (bt_leaf (P := OKI m_X11_weighsOf) oX11_weighsOf_20) (bt_node (bt_leaf (P := OKI m_X11_weighsOf) oX11_weighsOf_22) (bt_leaf (P := OKI m_X11_weighsOf) oX11_weighsOf_23)))) (bt_node (bt_node (bt_leaf (P := OKI m_X11_weighsOf) oX11_weighsOf_24) (bt_leaf (P := OKI m_X11_weighsOf) oX11_weighsOf_25)) (bt_node (bt_leaf (P := OKI m_X11_weighsOf) oX11_weighsOf_26) (bt_node (bt_leaf (P := OKI m_X11_weighsOf) oX11_weighsOf_29) (bt_leaf (P := OKI m_X11_weighsOf) oX11_weighsOf_30)))))) (bt_node (bt_node (bt_node (bt_node (bt_leaf (P := OKI m_X11_weighsOf) oX11_weighsOf_31) (bt_leaf (P := OKI m_X11_weighsOf) oX11_weighsOf_32)) (bt_node (bt_leaf (P := OKI m_X11_weighsOf) oX11_weighsOf_33) (bt_node (bt_leaf (P := OKI m_X11_weighsOf) oX11_weighsOf_36) (bt_leaf (P := OKI m_X11_weighsOf) oX11_weighsOf_37)))) (bt_node (bt_node (bt_leaf (P := OKI m_X11_weighsOf) oX11_weighsOf_39) (bt_leaf (P := OKI m_X11_weighsOf) oX11_weighsOf_42)) (bt_node (bt_leaf (P := OKI m_X11_weighsOf) oX11_weighsOf_43) (bt_node (bt_leaf (P := OKI m_X11_weighsOf) oX11_weighsOf_44) (bt_leaf (P := OKI m_X11_weighsOf) oX11_weighsOf_45))))) (bt_node (bt_node (bt_node (bt_leaf (P := OKI m_X11_weighsOf) oX11_weighsOf_46) (bt_leaf (P := OKI m_X11_weighsOf) oX11_weighsOf_49)) (bt_node (bt_leaf (P := OKI m_X11_weighsOf) oX11_weighsOf_50) (bt_node (bt_leaf (P := OKI m_X11_weighsOf) oX11_weighsOf_51) (bt_leaf (P := OKI m_X11_weighsOf) oX11_weighsOf_52)))) (bt_node (bt_node (bt_leaf (P := OKI m_X11_weighsOf) oX11_weighsOf_53) (bt_leaf (P := OKI m_X11_weighsOf) oX11_weighsOf_54)) (bt_node (bt_leaf (P := OKI m_X11_weighsOf) oX11_weighsOf_55) (bt_node (bt_leaf (P := OKI m_X11_weighsOf) oX11_weighsOf_56) (bt_leaf (P := OKI m_X11_weighsOf) oX11_weighsOf_59))))))) : pfX11_weighsOf pc = some Y → OKI m_X11_weighsOf pc Y)
def stpX11_weighsOf (pc : Nat) : Option (List Bool) := (bif Nat.beq pc 42 then some [true, true, true, true, false] else none)
def bX11_weighsOf_0 (d rc rs : Nat) (a1 : Int32) (a2 : Int32) (a3 : Int32) (σ : XH) (Q : XV → XH → Prop) : Prop :=
  ((a2 = 2 → ((1 ≤ d ∧ Ec (d - 1) 0 0 m_X11_body [vR (some (12, 0)), vI 30] σ (kU fun h4 => ((1 ≤ d ∧ Ec (d - 1) 0 0 m_X11_plainWeighs [vR (some (12, 0)), vI a1, vI a2, vI a3] h4 (kI fun x6 h5 => ((1 ≤ d ∧ Ec (d - 1) 0 0 m_X11_timesOf [vR (some (12, 0)), vI a1, vI a2, vI 2] h5 (kI fun x8 h7 => Q (vI (x6 + x8)) h7)))))))))) ∧ (¬ a2 = 2 → ((a2 = 5 → ((1 ≤ d ∧ Ec (d - 1) 0 0 m_X11_body [vR (some (12, 0)), vI 60] σ (kU fun h3 => Ex d rc rs m_X11_weighsOf 42 [vR (some (12, 0)), vI a1, vI a2, vI a3, vU] [] h3 Q)))) ∧ (¬ a2 = 5 → ((1 ≤ d ∧ Ec (d - 1) 0 0 m_X11_plainWeighs [vR (some (12, 0)), vI a1, vI a2, vI a3] σ (kI fun x2 h1 => Q (vI x2) h1)))))))
theorem sX11_weighsOf_0 {d rc rs : Nat} {a1 : Int32} {a2 : Int32} {a3 : Int32} {σ : XH} {Q : XV → XH → Prop} (h : bX11_weighsOf_0 d rc rs a1 a2 a3 σ Q) : Ex d rc rs m_X11_weighsOf 0 [vR (some (12, 0)), vI a1, vI a2, vI a3, vU] [] σ Q :=
  xtree_sound (stop := stpX11_weighsOf) okX11_weighsOf 22 _ _ _ _ _ _ h
def bX11_weighsOf_42 (d rc rs : Nat) (l1 : Int32) (l2 : Int32) (l3 : Int32) (σ : XH) (Q : XV → XH → Prop) : Prop :=
  ((1 ≤ d ∧ Ec (d - 1) 0 0 m_X11_plainWeighs [vR (some (12, 0)), vI l1, vI l2, vI l3] σ (kI fun x2 h1 => Q (vI (x2 ^^^ l3)) h1)))
theorem sX11_weighsOf_42 {d rc rs : Nat} {l1 : Int32} {l2 : Int32} {l3 : Int32} {σ : XH} {Q : XV → XH → Prop} (h : bX11_weighsOf_42 d rc rs l1 l2 l3 σ Q) : Ex d rc rs m_X11_weighsOf 42 [vR (some (12, 0)), vI l1, vI l2, vI l3, vU] [] σ Q :=
  xtree_sound (stop := stpX11_weighsOf) okX11_weighsOf 10 _ _ _ _ _ _ h
/-! SpotTimersModel.plainTells(III)I -/
theorem dX11_plainTells_0 : decode cX11_plainTells 0 = .ok (.aload_n 0, 1) := by decide +kernel
theorem dX11_plainTells_1 : decode cX11_plainTells 1 = .ok (.bipush 12, 2) := by decide +kernel
theorem dX11_plainTells_3 : decode cX11_plainTells 3 = .ok (.invokevirtual 439, 3) := by decide +kernel
theorem dX11_plainTells_6 : decode cX11_plainTells 6 = .ok (.aload_n 0, 1) := by decide +kernel
theorem dX11_plainTells_7 : decode cX11_plainTells 7 = .ok (.iload_n 1, 1) := by decide +kernel
theorem dX11_plainTells_8 : decode cX11_plainTells 8 = .ok (.iload_n 2, 1) := by decide +kernel
theorem dX11_plainTells_9 : decode cX11_plainTells 9 = .ok (.iload_n 3, 1) := by decide +kernel
theorem dX11_plainTells_10 : decode cX11_plainTells 10 = .ok (.invokevirtual 451, 3) := by decide +kernel
theorem dX11_plainTells_13 : decode cX11_plainTells 13 = .ok (.aload_n 0, 1) := by decide +kernel
theorem dX11_plainTells_14 : decode cX11_plainTells 14 = .ok (.getfield 44, 3) := by decide +kernel
theorem dX11_plainTells_17 : decode cX11_plainTells 17 = .ok (.iload_n 1, 1) := by decide +kernel
theorem dX11_plainTells_18 : decode cX11_plainTells 18 = .ok (.iaload, 1) := by decide +kernel
theorem dX11_plainTells_19 : decode cX11_plainTells 19 = .ok (.isub, 1) := by decide +kernel
theorem dX11_plainTells_20 : decode cX11_plainTells 20 = .ok (.ireturn, 1) := by decide +kernel
theorem oX11_plainTells_0 : OKI 234 0 (.aload_n 0, 1, [0], 0, 0, []) := And.intro dX11_plainTells_0 (And.intro rfl (rfl))
theorem oX11_plainTells_1 : OKI 234 1 (.bipush 12, 3, [], 12, 0, []) := And.intro dX11_plainTells_1 (And.intro rfl (by decide +kernel))
theorem oX11_plainTells_3 : OKI 234 3 (.invokevirtual 439, 6, [229, 2, 13, 0, 0, 0], 0, 0, []) := And.intro dX11_plainTells_3 (And.intro rfl (And.intro (by decide) (And.intro (by decide) (And.intro mo_X11_body (And.intro (tm_8 _ (List.mem_of_getElem? (i := 81) rfl) rfl) (And.intro (tm_8 _ (List.mem_of_getElem? (i := 83) rfl) rfl) (And.intro (pm_7 _ (List.mem_of_getElem? (i := 0) rfl)) (Or.inl ⟨(RX11, TX11, 69), rfl, rfl⟩))))))))
theorem oX11_plainTells_6 : OKI 234 6 (.aload_n 0, 7, [0], 0, 0, []) := And.intro dX11_plainTells_6 (And.intro rfl (rfl))
theorem oX11_plainTells_7 : OKI 234 7 (.iload_n 1, 8, [1], 0, 0, []) := And.intro dX11_plainTells_7 (And.intro rfl (rfl))
theorem oX11_plainTells_8 : OKI 234 8 (.iload_n 2, 9, [2], 0, 0, []) := And.intro dX11_plainTells_8 (And.intro rfl (rfl))
theorem oX11_plainTells_9 : OKI 234 9 (.iload_n 3, 10, [3], 0, 0, []) := And.intro dX11_plainTells_9 (And.intro rfl (rfl))
theorem oX11_plainTells_10 : OKI 234 10 (.invokevirtual 451, 13, [233, 4, 13, 0, 0, 1], 0, 0, []) := And.intro dX11_plainTells_10 (And.intro rfl (And.intro (by decide) (And.intro (by decide) (And.intro mo_X11_weighsOf (And.intro (tm_8 _ (List.mem_of_getElem? (i := 89) rfl) rfl) (And.intro (tm_8 _ (List.mem_of_getElem? (i := 91) rfl) rfl) (And.intro (pm_7 _ (List.mem_of_getElem? (i := 2) rfl)) (Or.inl ⟨(RX11, TX11, 69), rfl, rfl⟩))))))))
theorem oX11_plainTells_13 : OKI 234 13 (.aload_n 0, 14, [0], 0, 0, []) := And.intro dX11_plainTells_13 (And.intro rfl (rfl))
theorem oX11_plainTells_14 : OKI 234 14 (.getfield 44, 17, [12, 11, 2, 122, 0], 0, 0, []) := And.intro dX11_plainTells_14 (And.intro rfl (⟨(RX11, TX11, 69), "SpotTimersModel", rfl, by decide, tm_5 _ (List.mem_of_getElem? (i := 217) rfl) rfl, Or.inl rfl, rfl, rfl⟩))
theorem oX11_plainTells_17 : OKI 234 17 (.iload_n 1, 18, [1], 0, 0, []) := And.intro dX11_plainTells_17 (And.intro rfl (rfl))
theorem oX11_plainTells_18 : OKI 234 18 (.iaload, 19, [], 0, 0, []) := And.intro dX11_plainTells_18 rfl
theorem oX11_plainTells_19 : OKI 234 19 (.isub, 20, [], 0, 0, []) := And.intro dX11_plainTells_19 rfl
theorem oX11_plainTells_20 : OKI 234 20 (.ireturn, 21, [0], 0, 0, []) := And.intro dX11_plainTells_20 (Or.inl (And.intro rfl rfl))
def pfX11_plainTells (pc : Nat) : Option XE := (bif Nat.blt pc 10 then (bif Nat.blt pc 6 then (bif Nat.blt pc 1 then (bif Nat.beq pc 0 then some (.aload_n 0, 1, [0], 0, 0, []) else none) else (bif Nat.blt pc 3 then (bif Nat.beq pc 1 then some (.bipush 12, 3, [], 12, 0, []) else none) else (bif Nat.beq pc 3 then some (.invokevirtual 439, 6, [229, 2, 13, 0, 0, 0], 0, 0, []) else none))) else (bif Nat.blt pc 8 then (bif Nat.blt pc 7 then (bif Nat.beq pc 6 then some (.aload_n 0, 7, [0], 0, 0, []) else none) else (bif Nat.beq pc 7 then some (.iload_n 1, 8, [1], 0, 0, []) else none)) else (bif Nat.blt pc 9 then (bif Nat.beq pc 8 then some (.iload_n 2, 9, [2], 0, 0, []) else none) else (bif Nat.beq pc 9 then some (.iload_n 3, 10, [3], 0, 0, []) else none)))) else (bif Nat.blt pc 17 then (bif Nat.blt pc 13 then (bif Nat.beq pc 10 then some (.invokevirtual 451, 13, [233, 4, 13, 0, 0, 1], 0, 0, []) else none) else (bif Nat.blt pc 14 then (bif Nat.beq pc 13 then some (.aload_n 0, 14, [0], 0, 0, []) else none) else (bif Nat.beq pc 14 then some (.getfield 44, 17, [12, 11, 2, 122, 0], 0, 0, []) else none))) else (bif Nat.blt pc 19 then (bif Nat.blt pc 18 then (bif Nat.beq pc 17 then some (.iload_n 1, 18, [1], 0, 0, []) else none) else (bif Nat.beq pc 18 then some (.iaload, 19, [], 0, 0, []) else none)) else (bif Nat.blt pc 20 then (bif Nat.beq pc 19 then some (.isub, 20, [], 0, 0, []) else none) else (bif Nat.beq pc 20 then some (.ireturn, 21, [0], 0, 0, []) else none)))))
theorem okX11_plainTells : ∀ pc Y, pfX11_plainTells pc = some Y → OKI m_X11_plainTells pc Y := fun pc Y => ((bt_node (bt_node (bt_node (bt_leaf (P := OKI m_X11_plainTells) oX11_plainTells_0) (bt_node (bt_leaf (P := OKI m_X11_plainTells) oX11_plainTells_1) (bt_leaf (P := OKI m_X11_plainTells) oX11_plainTells_3))) (bt_node (bt_node (bt_leaf (P := OKI m_X11_plainTells) oX11_plainTells_6) (bt_leaf (P := OKI m_X11_plainTells) oX11_plainTells_7)) (bt_node (bt_leaf (P := OKI m_X11_plainTells) oX11_plainTells_8) (bt_leaf (P := OKI m_X11_plainTells) oX11_plainTells_9)))) (bt_node (bt_node (bt_leaf (P := OKI m_X11_plainTells) oX11_plainTells_10) (bt_node (bt_leaf (P := OKI m_X11_plainTells) oX11_plainTells_13) (bt_leaf (P := OKI m_X11_plainTells) oX11_plainTells_14))) (bt_node (bt_node (bt_leaf (P := OKI m_X11_plainTells) oX11_plainTells_17) (bt_leaf (P := OKI m_X11_plainTells) oX11_plainTells_18)) (bt_node (bt_leaf (P := OKI m_X11_plainTells) oX11_plainTells_19) (bt_leaf (P := OKI m_X11_plainTells) oX11_plainTells_20))))) : pfX11_plainTells pc = some Y → OKI m_X11_plainTells pc Y)
def stpX11_plainTells (_ : Nat) : Option (List Bool) := none
def bX11_plainTells_0 (d rc rs : Nat) (a1 : Int32) (a2 : Int32) (a3 : Int32) (σ : XH) (Q : XV → XH → Prop) : Prop :=
  ((1 ≤ d ∧ Ec (d - 1) 0 0 m_X11_body [vR (some (12, 0)), vI 12] σ (kU fun h1 => ((1 ≤ d ∧ Ec (d - 1) 0 0 m_X11_weighsOf [vR (some (12, 0)), vI a1, vI a2, vI a3] h1 (kI fun x3 h2 => ((hr h2 12 0 11 = some (122, 0) ∧ ((vp_in a1 (hn h2 122 0) ∧ Q (vI (x3 - (hi h2 122 0 a1.toNatClampNeg))) h2))))))))))
theorem sX11_plainTells_0 {d rc rs : Nat} {a1 : Int32} {a2 : Int32} {a3 : Int32} {σ : XH} {Q : XV → XH → Prop} (h : bX11_plainTells_0 d rc rs a1 a2 a3 σ Q) : Ex d rc rs m_X11_plainTells 0 [vR (some (12, 0)), vI a1, vI a2, vI a3] [] σ Q :=
  xtree_sound (stop := stpX11_plainTells) okX11_plainTells 16 _ _ _ _ _ _ h
/-! SpotTimersModel.edgeTells(III)I -/
theorem dX11_edgeTells_0 : decode cX11_edgeTells 0 = .ok (.aload_n 0, 1) := by decide +kernel
theorem dX11_edgeTells_1 : decode cX11_edgeTells 1 = .ok (.bipush 40, 2) := by decide +kernel
theorem dX11_edgeTells_3 : decode cX11_edgeTells 3 = .ok (.invokevirtual 439, 3) := by decide +kernel
theorem dX11_edgeTells_6 : decode cX11_edgeTells 6 = .ok (.aload_n 0, 1) := by decide +kernel
theorem dX11_edgeTells_7 : decode cX11_edgeTells 7 = .ok (.iload_n 1, 1) := by decide +kernel
theorem dX11_edgeTells_8 : decode cX11_edgeTells 8 = .ok (.iload_n 2, 1) := by decide +kernel
theorem dX11_edgeTells_9 : decode cX11_edgeTells 9 = .ok (.iload_n 3, 1) := by decide +kernel
theorem dX11_edgeTells_10 : decode cX11_edgeTells 10 = .ok (.invokevirtual 454, 3) := by decide +kernel
theorem dX11_edgeTells_13 : decode cX11_edgeTells 13 = .ok (.ineg, 1) := by decide +kernel
theorem dX11_edgeTells_14 : decode cX11_edgeTells 14 = .ok (.ireturn, 1) := by decide +kernel
theorem oX11_edgeTells_0 : OKI 235 0 (.aload_n 0, 1, [0], 0, 0, []) := And.intro dX11_edgeTells_0 (And.intro rfl (rfl))
theorem oX11_edgeTells_1 : OKI 235 1 (.bipush 40, 3, [], 40, 0, []) := And.intro dX11_edgeTells_1 (And.intro rfl (by decide +kernel))
theorem oX11_edgeTells_3 : OKI 235 3 (.invokevirtual 439, 6, [229, 2, 13, 0, 0, 0], 0, 0, []) := And.intro dX11_edgeTells_3 (And.intro rfl (And.intro (by decide) (And.intro (by decide) (And.intro mo_X11_body (And.intro (tm_8 _ (List.mem_of_getElem? (i := 81) rfl) rfl) (And.intro (tm_8 _ (List.mem_of_getElem? (i := 83) rfl) rfl) (And.intro (pm_7 _ (List.mem_of_getElem? (i := 0) rfl)) (Or.inl ⟨(RX11, TX11, 69), rfl, rfl⟩))))))))
theorem oX11_edgeTells_6 : OKI 235 6 (.aload_n 0, 7, [0], 0, 0, []) := And.intro dX11_edgeTells_6 (And.intro rfl (rfl))
theorem oX11_edgeTells_7 : OKI 235 7 (.iload_n 1, 8, [1], 0, 0, []) := And.intro dX11_edgeTells_7 (And.intro rfl (rfl))
theorem oX11_edgeTells_8 : OKI 235 8 (.iload_n 2, 9, [2], 0, 0, []) := And.intro dX11_edgeTells_8 (And.intro rfl (rfl))
theorem oX11_edgeTells_9 : OKI 235 9 (.iload_n 3, 10, [3], 0, 0, []) := And.intro dX11_edgeTells_9 (And.intro rfl (rfl))
theorem oX11_edgeTells_10 : OKI 235 10 (.invokevirtual 454, 13, [234, 4, 13, 0, 0, 1], 0, 0, []) := And.intro dX11_edgeTells_10 (And.intro rfl (And.intro (by decide) (And.intro (by decide) (And.intro mo_X11_plainTells (And.intro (tm_8 _ (List.mem_of_getElem? (i := 105) rfl) rfl) (And.intro (tm_8 _ (List.mem_of_getElem? (i := 107) rfl) rfl) (And.intro (pm_7 _ (List.mem_of_getElem? (i := 6) rfl)) (Or.inl ⟨(RX11, TX11, 69), rfl, rfl⟩))))))))
theorem oX11_edgeTells_13 : OKI 235 13 (.ineg, 14, [], 0, 0, []) := And.intro dX11_edgeTells_13 rfl
theorem oX11_edgeTells_14 : OKI 235 14 (.ireturn, 15, [0], 0, 0, []) := And.intro dX11_edgeTells_14 (Or.inl (And.intro rfl rfl))
def pfX11_edgeTells (pc : Nat) : Option XE := (bif Nat.blt pc 8 then (bif Nat.blt pc 3 then (bif Nat.blt pc 1 then (bif Nat.beq pc 0 then some (.aload_n 0, 1, [0], 0, 0, []) else none) else (bif Nat.beq pc 1 then some (.bipush 40, 3, [], 40, 0, []) else none)) else (bif Nat.blt pc 6 then (bif Nat.beq pc 3 then some (.invokevirtual 439, 6, [229, 2, 13, 0, 0, 0], 0, 0, []) else none) else (bif Nat.blt pc 7 then (bif Nat.beq pc 6 then some (.aload_n 0, 7, [0], 0, 0, []) else none) else (bif Nat.beq pc 7 then some (.iload_n 1, 8, [1], 0, 0, []) else none)))) else (bif Nat.blt pc 10 then (bif Nat.blt pc 9 then (bif Nat.beq pc 8 then some (.iload_n 2, 9, [2], 0, 0, []) else none) else (bif Nat.beq pc 9 then some (.iload_n 3, 10, [3], 0, 0, []) else none)) else (bif Nat.blt pc 13 then (bif Nat.beq pc 10 then some (.invokevirtual 454, 13, [234, 4, 13, 0, 0, 1], 0, 0, []) else none) else (bif Nat.blt pc 14 then (bif Nat.beq pc 13 then some (.ineg, 14, [], 0, 0, []) else none) else (bif Nat.beq pc 14 then some (.ireturn, 15, [0], 0, 0, []) else none)))))
theorem okX11_edgeTells : ∀ pc Y, pfX11_edgeTells pc = some Y → OKI m_X11_edgeTells pc Y := fun pc Y => ((bt_node (bt_node (bt_node (bt_leaf (P := OKI m_X11_edgeTells) oX11_edgeTells_0) (bt_leaf (P := OKI m_X11_edgeTells) oX11_edgeTells_1)) (bt_node (bt_leaf (P := OKI m_X11_edgeTells) oX11_edgeTells_3) (bt_node (bt_leaf (P := OKI m_X11_edgeTells) oX11_edgeTells_6) (bt_leaf (P := OKI m_X11_edgeTells) oX11_edgeTells_7)))) (bt_node (bt_node (bt_leaf (P := OKI m_X11_edgeTells) oX11_edgeTells_8) (bt_leaf (P := OKI m_X11_edgeTells) oX11_edgeTells_9)) (bt_node (bt_leaf (P := OKI m_X11_edgeTells) oX11_edgeTells_10) (bt_node (bt_leaf (P := OKI m_X11_edgeTells) oX11_edgeTells_13) (bt_leaf (P := OKI m_X11_edgeTells) oX11_edgeTells_14))))) : pfX11_edgeTells pc = some Y → OKI m_X11_edgeTells pc Y)
def stpX11_edgeTells (_ : Nat) : Option (List Bool) := none
def bX11_edgeTells_0 (d rc rs : Nat) (a1 : Int32) (a2 : Int32) (a3 : Int32) (σ : XH) (Q : XV → XH → Prop) : Prop :=
  ((1 ≤ d ∧ Ec (d - 1) 0 0 m_X11_body [vR (some (12, 0)), vI 40] σ (kU fun h1 => ((1 ≤ d ∧ Ec (d - 1) 0 0 m_X11_plainTells [vR (some (12, 0)), vI a1, vI a2, vI a3] h1 (kI fun x3 h2 => Q (vI (-x3)) h2))))))
theorem sX11_edgeTells_0 {d rc rs : Nat} {a1 : Int32} {a2 : Int32} {a3 : Int32} {σ : XH} {Q : XV → XH → Prop} (h : bX11_edgeTells_0 d rc rs a1 a2 a3 σ Q) : Ex d rc rs m_X11_edgeTells 0 [vR (some (12, 0)), vI a1, vI a2, vI a3] [] σ Q :=
  xtree_sound (stop := stpX11_edgeTells) okX11_edgeTells 12 _ _ _ _ _ _ h
/-! SpotTimersModel.tellsOf(III)I -/
theorem dX11_tellsOf_0 : decode cX11_tellsOf 0 = .ok (.iload_n 2, 1) := by decide +kernel
theorem dX11_tellsOf_1 : decode cX11_tellsOf 1 = .ok (.iconst 3, 1) := by decide +kernel
theorem dX11_tellsOf_2 : decode cX11_tellsOf 2 = .ok (.if_icmp .ne 11, 3) := by decide +kernel
theorem dX11_tellsOf_5 : decode cX11_tellsOf 5 = .ok (.aload_n 0, 1) := by decide +kernel
theorem dX11_tellsOf_6 : decode cX11_tellsOf 6 = .ok (.iload_n 1, 1) := by decide +kernel
theorem dX11_tellsOf_7 : decode cX11_tellsOf 7 = .ok (.iload_n 2, 1) := by decide +kernel
theorem dX11_tellsOf_8 : decode cX11_tellsOf 8 = .ok (.iload_n 3, 1) := by decide +kernel
theorem dX11_tellsOf_9 : decode cX11_tellsOf 9 = .ok (.invokevirtual 457, 3) := by decide +kernel
theorem dX11_tellsOf_12 : decode cX11_tellsOf 12 = .ok (.ireturn, 1) := by decide +kernel
theorem dX11_tellsOf_13 : decode cX11_tellsOf 13 = .ok (.iload_n 2, 1) := by decide +kernel
theorem dX11_tellsOf_14 : decode cX11_tellsOf 14 = .ok (.iconst 4, 1) := by decide +kernel
theorem dX11_tellsOf_15 : decode cX11_tellsOf 15 = .ok (.if_icmp .ne 19, 3) := by decide +kernel
theorem dX11_tellsOf_18 : decode cX11_tellsOf 18 = .ok (.aload_n 0, 1) := by decide +kernel
theorem dX11_tellsOf_19 : decode cX11_tellsOf 19 = .ok (.bipush 51, 2) := by decide +kernel
theorem dX11_tellsOf_21 : decode cX11_tellsOf 21 = .ok (.invokevirtual 439, 3) := by decide +kernel
theorem dX11_tellsOf_24 : decode cX11_tellsOf 24 = .ok (.aload_n 0, 1) := by decide +kernel
theorem dX11_tellsOf_25 : decode cX11_tellsOf 25 = .ok (.iload_n 1, 1) := by decide +kernel
theorem dX11_tellsOf_26 : decode cX11_tellsOf 26 = .ok (.iload_n 2, 1) := by decide +kernel
theorem dX11_tellsOf_27 : decode cX11_tellsOf 27 = .ok (.iload_n 3, 1) := by decide +kernel
theorem dX11_tellsOf_28 : decode cX11_tellsOf 28 = .ok (.invokevirtual 457, 3) := by decide +kernel
theorem dX11_tellsOf_31 : decode cX11_tellsOf 31 = .ok (.iconst 5, 1) := by decide +kernel
theorem dX11_tellsOf_32 : decode cX11_tellsOf 32 = .ok (.iadd, 1) := by decide +kernel
theorem dX11_tellsOf_33 : decode cX11_tellsOf 33 = .ok (.ireturn, 1) := by decide +kernel
theorem dX11_tellsOf_34 : decode cX11_tellsOf 34 = .ok (.iload_n 2, 1) := by decide +kernel
theorem dX11_tellsOf_35 : decode cX11_tellsOf 35 = .ok (.bipush 7, 2) := by decide +kernel
theorem dX11_tellsOf_37 : decode cX11_tellsOf 37 = .ok (.if_icmp .ne 29, 3) := by decide +kernel
theorem dX11_tellsOf_40 : decode cX11_tellsOf 40 = .ok (.aload_n 0, 1) := by decide +kernel
theorem dX11_tellsOf_41 : decode cX11_tellsOf 41 = .ok (.bipush 80, 2) := by decide +kernel
theorem dX11_tellsOf_43 : decode cX11_tellsOf 43 = .ok (.invokevirtual 439, 3) := by decide +kernel
theorem dX11_tellsOf_46 : decode cX11_tellsOf 46 = .ok (.aload_n 0, 1) := by decide +kernel
theorem dX11_tellsOf_47 : decode cX11_tellsOf 47 = .ok (.iload_n 1, 1) := by decide +kernel
theorem dX11_tellsOf_48 : decode cX11_tellsOf 48 = .ok (.iload_n 2, 1) := by decide +kernel
theorem dX11_tellsOf_49 : decode cX11_tellsOf 49 = .ok (.iload_n 3, 1) := by decide +kernel
theorem dX11_tellsOf_50 : decode cX11_tellsOf 50 = .ok (.invokevirtual 445, 3) := by decide +kernel
theorem dX11_tellsOf_53 : decode cX11_tellsOf 53 = .ok (.istore 4, 2) := by decide +kernel
theorem dX11_tellsOf_55 : decode cX11_tellsOf 55 = .ok (.iload 4, 2) := by decide +kernel
theorem dX11_tellsOf_57 : decode cX11_tellsOf 57 = .ok (.aload_n 0, 1) := by decide +kernel
theorem dX11_tellsOf_58 : decode cX11_tellsOf 58 = .ok (.iload_n 1, 1) := by decide +kernel
theorem dX11_tellsOf_59 : decode cX11_tellsOf 59 = .ok (.iload_n 2, 1) := by decide +kernel
theorem dX11_tellsOf_60 : decode cX11_tellsOf 60 = .ok (.iload_n 3, 1) := by decide +kernel
theorem dX11_tellsOf_61 : decode cX11_tellsOf 61 = .ok (.invokevirtual 454, 3) := by decide +kernel
theorem dX11_tellsOf_64 : decode cX11_tellsOf 64 = .ok (.isub, 1) := by decide +kernel
theorem dX11_tellsOf_65 : decode cX11_tellsOf 65 = .ok (.ireturn, 1) := by decide +kernel
theorem dX11_tellsOf_66 : decode cX11_tellsOf 66 = .ok (.aload_n 0, 1) := by decide +kernel
theorem dX11_tellsOf_67 : decode cX11_tellsOf 67 = .ok (.iload_n 1, 1) := by decide +kernel
theorem dX11_tellsOf_68 : decode cX11_tellsOf 68 = .ok (.iload_n 2, 1) := by decide +kernel
theorem dX11_tellsOf_69 : decode cX11_tellsOf 69 = .ok (.iload_n 3, 1) := by decide +kernel
theorem dX11_tellsOf_70 : decode cX11_tellsOf 70 = .ok (.invokevirtual 454, 3) := by decide +kernel
theorem dX11_tellsOf_73 : decode cX11_tellsOf 73 = .ok (.ireturn, 1) := by decide +kernel
theorem oX11_tellsOf_0 : OKI 236 0 (.iload_n 2, 1, [2], 0, 0, []) := And.intro dX11_tellsOf_0 (And.intro rfl (rfl))
theorem oX11_tellsOf_1 : OKI 236 1 (.iconst 3, 2, [], 3, 0, []) := And.intro dX11_tellsOf_1 (And.intro rfl (by decide +kernel))
theorem oX11_tellsOf_2 : OKI 236 2 (.if_icmp .ne 11, 5, [13], 0, 0, []) := And.intro dX11_tellsOf_2 (And.intro rfl (by decide))
theorem oX11_tellsOf_5 : OKI 236 5 (.aload_n 0, 6, [0], 0, 0, []) := And.intro dX11_tellsOf_5 (And.intro rfl (rfl))
theorem oX11_tellsOf_6 : OKI 236 6 (.iload_n 1, 7, [1], 0, 0, []) := And.intro dX11_tellsOf_6 (And.intro rfl (rfl))
theorem oX11_tellsOf_7 : OKI 236 7 (.iload_n 2, 8, [2], 0, 0, []) := And.intro dX11_tellsOf_7 (And.intro rfl (rfl))
theorem oX11_tellsOf_8 : OKI 236 8 (.iload_n 3, 9, [3], 0, 0, []) := And.intro dX11_tellsOf_8 (And.intro rfl (rfl))
theorem oX11_tellsOf_9 : OKI 236 9 (.invokevirtual 457, 12, [235, 4, 13, 0, 0, 1], 0, 0, []) := And.intro dX11_tellsOf_9 (And.intro rfl (And.intro (by decide) (And.intro (by decide) (And.intro mo_X11_edgeTells (And.intro (tm_8 _ (List.mem_of_getElem? (i := 101) rfl) rfl) (And.intro (tm_8 _ (List.mem_of_getElem? (i := 103) rfl) rfl) (And.intro (pm_7 _ (List.mem_of_getElem? (i := 5) rfl)) (Or.inl ⟨(RX11, TX11, 69), rfl, rfl⟩))))))))
theorem oX11_tellsOf_12 : OKI 236 12 (.ireturn, 13, [0], 0, 0, []) := And.intro dX11_tellsOf_12 (Or.inl (And.intro rfl rfl))
theorem oX11_tellsOf_13 : OKI 236 13 (.iload_n 2, 14, [2], 0, 0, []) := And.intro dX11_tellsOf_13 (And.intro rfl (rfl))
theorem oX11_tellsOf_14 : OKI 236 14 (.iconst 4, 15, [], 4, 0, []) := And.intro dX11_tellsOf_14 (And.intro rfl (by decide +kernel))
theorem oX11_tellsOf_15 : OKI 236 15 (.if_icmp .ne 19, 18, [34], 0, 0, []) := And.intro dX11_tellsOf_15 (And.intro rfl (by decide))
theorem oX11_tellsOf_18 : OKI 236 18 (.aload_n 0, 19, [0], 0, 0, []) := And.intro dX11_tellsOf_18 (And.intro rfl (rfl))
theorem oX11_tellsOf_19 : OKI 236 19 (.bipush 51, 21, [], 51, 0, []) := And.intro dX11_tellsOf_19 (And.intro rfl (by decide +kernel))
theorem oX11_tellsOf_21 : OKI 236 21 (.invokevirtual 439, 24, [229, 2, 13, 0, 0, 0], 0, 0, []) := And.intro dX11_tellsOf_21 (And.intro rfl (And.intro (by decide) (And.intro (by decide) (And.intro mo_X11_body (And.intro (tm_8 _ (List.mem_of_getElem? (i := 81) rfl) rfl) (And.intro (tm_8 _ (List.mem_of_getElem? (i := 83) rfl) rfl) (And.intro (pm_7 _ (List.mem_of_getElem? (i := 0) rfl)) (Or.inl ⟨(RX11, TX11, 69), rfl, rfl⟩))))))))
theorem oX11_tellsOf_24 : OKI 236 24 (.aload_n 0, 25, [0], 0, 0, []) := And.intro dX11_tellsOf_24 (And.intro rfl (rfl))
theorem oX11_tellsOf_25 : OKI 236 25 (.iload_n 1, 26, [1], 0, 0, []) := And.intro dX11_tellsOf_25 (And.intro rfl (rfl))
theorem oX11_tellsOf_26 : OKI 236 26 (.iload_n 2, 27, [2], 0, 0, []) := And.intro dX11_tellsOf_26 (And.intro rfl (rfl))
theorem oX11_tellsOf_27 : OKI 236 27 (.iload_n 3, 28, [3], 0, 0, []) := And.intro dX11_tellsOf_27 (And.intro rfl (rfl))
theorem oX11_tellsOf_28 : OKI 236 28 (.invokevirtual 457, 31, [235, 4, 13, 0, 0, 1], 0, 0, []) := And.intro dX11_tellsOf_28 (And.intro rfl (And.intro (by decide) (And.intro (by decide) (And.intro mo_X11_edgeTells (And.intro (tm_8 _ (List.mem_of_getElem? (i := 101) rfl) rfl) (And.intro (tm_8 _ (List.mem_of_getElem? (i := 103) rfl) rfl) (And.intro (pm_7 _ (List.mem_of_getElem? (i := 5) rfl)) (Or.inl ⟨(RX11, TX11, 69), rfl, rfl⟩))))))))
theorem oX11_tellsOf_31 : OKI 236 31 (.iconst 5, 32, [], 5, 0, []) := And.intro dX11_tellsOf_31 (And.intro rfl (by decide +kernel))
theorem oX11_tellsOf_32 : OKI 236 32 (.iadd, 33, [], 0, 0, []) := And.intro dX11_tellsOf_32 rfl
theorem oX11_tellsOf_33 : OKI 236 33 (.ireturn, 34, [0], 0, 0, []) := And.intro dX11_tellsOf_33 (Or.inl (And.intro rfl rfl))
theorem oX11_tellsOf_34 : OKI 236 34 (.iload_n 2, 35, [2], 0, 0, []) := And.intro dX11_tellsOf_34 (And.intro rfl (rfl))
theorem oX11_tellsOf_35 : OKI 236 35 (.bipush 7, 37, [], 7, 0, []) := And.intro dX11_tellsOf_35 (And.intro rfl (by decide +kernel))
theorem oX11_tellsOf_37 : OKI 236 37 (.if_icmp .ne 29, 40, [66], 0, 0, []) := And.intro dX11_tellsOf_37 (And.intro rfl (by decide))
theorem oX11_tellsOf_40 : OKI 236 40 (.aload_n 0, 41, [0], 0, 0, []) := And.intro dX11_tellsOf_40 (And.intro rfl (rfl))
theorem oX11_tellsOf_41 : OKI 236 41 (.bipush 80, 43, [], 80, 0, []) := And.intro dX11_tellsOf_41 (And.intro rfl (by decide +kernel))
theorem oX11_tellsOf_43 : OKI 236 43 (.invokevirtual 439, 46, [229, 2, 13, 0, 0, 0], 0, 0, []) := And.intro dX11_tellsOf_43 (And.intro rfl (And.intro (by decide) (And.intro (by decide) (And.intro mo_X11_body (And.intro (tm_8 _ (List.mem_of_getElem? (i := 81) rfl) rfl) (And.intro (tm_8 _ (List.mem_of_getElem? (i := 83) rfl) rfl) (And.intro (pm_7 _ (List.mem_of_getElem? (i := 0) rfl)) (Or.inl ⟨(RX11, TX11, 69), rfl, rfl⟩))))))))
theorem oX11_tellsOf_46 : OKI 236 46 (.aload_n 0, 47, [0], 0, 0, []) := And.intro dX11_tellsOf_46 (And.intro rfl (rfl))
theorem oX11_tellsOf_47 : OKI 236 47 (.iload_n 1, 48, [1], 0, 0, []) := And.intro dX11_tellsOf_47 (And.intro rfl (rfl))
theorem oX11_tellsOf_48 : OKI 236 48 (.iload_n 2, 49, [2], 0, 0, []) := And.intro dX11_tellsOf_48 (And.intro rfl (rfl))
theorem oX11_tellsOf_49 : OKI 236 49 (.iload_n 3, 50, [3], 0, 0, []) := And.intro dX11_tellsOf_49 (And.intro rfl (rfl))
theorem oX11_tellsOf_50 : OKI 236 50 (.invokevirtual 445, 53, [231, 4, 13, 0, 0, 1], 0, 0, []) := And.intro dX11_tellsOf_50 (And.intro rfl (And.intro (by decide) (And.intro (by decide) (And.intro mo_X11_timesOf (And.intro (tm_8 _ (List.mem_of_getElem? (i := 77) rfl) rfl) (And.intro (tm_8 _ (List.mem_of_getElem? (i := 79) rfl) rfl) (And.intro (pm_6 _ (List.mem_of_getElem? (i := 15) rfl)) (Or.inl ⟨(RX11, TX11, 69), rfl, rfl⟩))))))))
theorem oX11_tellsOf_53 : OKI 236 53 (.istore 4, 55, [4], 0, 0, []) := And.intro dX11_tellsOf_53 (And.intro rfl (And.intro rfl (by decide)))
theorem oX11_tellsOf_55 : OKI 236 55 (.iload 4, 57, [4], 0, 0, []) := And.intro dX11_tellsOf_55 (And.intro rfl (rfl))
theorem oX11_tellsOf_57 : OKI 236 57 (.aload_n 0, 58, [0], 0, 0, []) := And.intro dX11_tellsOf_57 (And.intro rfl (rfl))
theorem oX11_tellsOf_58 : OKI 236 58 (.iload_n 1, 59, [1], 0, 0, []) := And.intro dX11_tellsOf_58 (And.intro rfl (rfl))
theorem oX11_tellsOf_59 : OKI 236 59 (.iload_n 2, 60, [2], 0, 0, []) := And.intro dX11_tellsOf_59 (And.intro rfl (rfl))
theorem oX11_tellsOf_60 : OKI 236 60 (.iload_n 3, 61, [3], 0, 0, []) := And.intro dX11_tellsOf_60 (And.intro rfl (rfl))
theorem oX11_tellsOf_61 : OKI 236 61 (.invokevirtual 454, 64, [234, 4, 13, 0, 0, 1], 0, 0, []) := And.intro dX11_tellsOf_61 (And.intro rfl (And.intro (by decide) (And.intro (by decide) (And.intro mo_X11_plainTells (And.intro (tm_8 _ (List.mem_of_getElem? (i := 105) rfl) rfl) (And.intro (tm_8 _ (List.mem_of_getElem? (i := 107) rfl) rfl) (And.intro (pm_7 _ (List.mem_of_getElem? (i := 6) rfl)) (Or.inl ⟨(RX11, TX11, 69), rfl, rfl⟩))))))))
theorem oX11_tellsOf_64 : OKI 236 64 (.isub, 65, [], 0, 0, []) := And.intro dX11_tellsOf_64 rfl
theorem oX11_tellsOf_65 : OKI 236 65 (.ireturn, 66, [0], 0, 0, []) := And.intro dX11_tellsOf_65 (Or.inl (And.intro rfl rfl))
theorem oX11_tellsOf_66 : OKI 236 66 (.aload_n 0, 67, [0], 0, 0, []) := And.intro dX11_tellsOf_66 (And.intro rfl (rfl))
theorem oX11_tellsOf_67 : OKI 236 67 (.iload_n 1, 68, [1], 0, 0, []) := And.intro dX11_tellsOf_67 (And.intro rfl (rfl))
theorem oX11_tellsOf_68 : OKI 236 68 (.iload_n 2, 69, [2], 0, 0, []) := And.intro dX11_tellsOf_68 (And.intro rfl (rfl))
theorem oX11_tellsOf_69 : OKI 236 69 (.iload_n 3, 70, [3], 0, 0, []) := And.intro dX11_tellsOf_69 (And.intro rfl (rfl))
theorem oX11_tellsOf_70 : OKI 236 70 (.invokevirtual 454, 73, [234, 4, 13, 0, 0, 1], 0, 0, []) := And.intro dX11_tellsOf_70 (And.intro rfl (And.intro (by decide) (And.intro (by decide) (And.intro mo_X11_plainTells (And.intro (tm_8 _ (List.mem_of_getElem? (i := 105) rfl) rfl) (And.intro (tm_8 _ (List.mem_of_getElem? (i := 107) rfl) rfl) (And.intro (pm_7 _ (List.mem_of_getElem? (i := 6) rfl)) (Or.inl ⟨(RX11, TX11, 69), rfl, rfl⟩))))))))
theorem oX11_tellsOf_73 : OKI 236 73 (.ireturn, 74, [0], 0, 0, []) := And.intro dX11_tellsOf_73 (Or.inl (And.intro rfl rfl))
def pfX11_tellsOf (pc : Nat) : Option XE := (bif Nat.blt pc 35 then (bif Nat.blt pc 18 then (bif Nat.blt pc 8 then (bif Nat.blt pc 5 then (bif Nat.blt pc 1 then (bif Nat.beq pc 0 then some (.iload_n 2, 1, [2], 0, 0, []) else none) else (bif Nat.blt pc 2 then (bif Nat.beq pc 1 then some (.iconst 3, 2, [], 3, 0, []) else none) else (bif Nat.beq pc 2 then some (.if_icmp .ne 11, 5, [13], 0, 0, []) else none))) else (bif Nat.blt pc 6 then (bif Nat.beq pc 5 then some (.aload_n 0, 6, [0], 0, 0, []) else none) else (bif Nat.blt pc 7 then (bif Nat.beq pc 6 then some (.iload_n 1, 7, [1], 0, 0, []) else none) else (bif Nat.beq pc 7 then some (.iload_n 2, 8, [2], 0, 0, []) else none)))) else (bif Nat.blt pc 13 then (bif Nat.blt pc 9 then (bif Nat.beq pc 8 then some (.iload_n 3, 9, [3], 0, 0, []) else none) else (bif Nat.blt pc 12 then (bif Nat.beq pc 9 then some (.invokevirtual 457, 12, [235, 4, 13, 0, 0, 1], 0, 0, []) else none) else (bif Nat.beq pc 12 then some (.ireturn, 13, [0], 0, 0, []) else none))) else (bif Nat.blt pc 14 then (bif Nat.beq pc 13 then some (.iload_n 2, 14, [2], 0, 0, []) else none) else (bif Nat.blt pc 15 then (bif Nat.beq pc 14 then some (.iconst 4, 15, [], 4, 0, []) else none) else (bif Nat.beq pc 15 then some (.if_icmp .ne 19, 18, [34], 0, 0, []) else none))))) else (bif Nat.blt pc 27 then (bif Nat.blt pc 24 then (bif Nat.blt pc 19 then (bif Nat.beq pc 18 then some (.aload_n 0, 19, [0], 0, 0, []) else none) else (bif Nat.blt pc 21 then (bif Nat.beq pc 19 then some (.bipush 51, 21, [], 51, 0, []) else none) else (bif Nat.beq pc 21 then some (.invokevirtual 439, 24, [229, 2, 13, 0, 0, 0], 0, 0, []) else none))) else (bif Nat.blt pc 25 then (bif Nat.beq pc 24 then some (.aload_n 0, 25, [0], 0, 0, []) else none) else (bif Nat.blt pc 26 then (bif Nat.beq pc 25 then some (.iload_n 1, 26, [1], 0, 0, []) else none) else (bif Nat.beq pc 26 then some (.iload_n 2, 27, [2], 0, 0, []) else none)))) else (bif Nat.blt pc 32 then (bif Nat.blt pc 28 then (bif Nat.beq pc 27 then some (.iload_n 3, 28, [3], 0, 0, []) else none) else (bif Nat.blt pc 31 then (bif Nat.beq pc 28 then some (.invokevirtual 457, 31, [235, 4, 13, 0, 0, 1], 0, 0, []) else none) else (bif Nat.beq pc 31 then some (.iconst 5, 32, [], 5, 0, []) else none))) else (bif Nat.blt pc 33 then (bif Nat.beq pc 32 then some (.iadd, 33, [], 0, 0, []) else none) else (bif Nat.blt pc 34 then (bif Nat.beq pc 33 then some (.ireturn, 34, [0], 0, 0, []) else none) else (bif Nat.beq pc 34 then some (.iload_n 2, 35, [2], 0, 0, []) else none)))))) else (bif Nat.blt pc 57 then (bif Nat.blt pc 47 then (bif Nat.blt pc 41 then (bif Nat.blt pc 37 then (bif Nat.beq pc 35 then some (.bipush 7, 37, [], 7, 0, []) else none) else (bif Nat.blt pc 40 then (bif Nat.beq pc 37 then some (.if_icmp .ne 29, 40, [66], 0, 0, []) else none) else (bif Nat.beq pc 40 then some (.aload_n 0, 41, [0], 0, 0, []) else none))) else (bif Nat.blt pc 43 then (bif Nat.beq pc 41 then some (.bipush 80, 43, [], 80, 0, []) else none) else (bif Nat.blt pc 46 then (bif Nat.beq pc 43 then some (.invokevirtual 439, 46, [229, 2, 13, 0, 0, 0], 0, 0, []) else none) else (bif Nat.beq pc 46 then some (.aload_n 0, 47, [0], 0, 0, []) else none)))) else (bif Nat.blt pc 50 then (bif Nat.blt pc 48 then (bif Nat.beq pc 47 then some (.iload_n 1, 48, [1], 0, 0, []) else none) else (bif Nat.blt pc 49 then (bif Nat.beq pc 48 then some (.iload_n 2, 49, [2], 0, 0, []) else none) else (bif Nat.beq pc 49 then some (.iload_n 3, 50, [3], 0, 0, []) else none))) else (bif Nat.blt pc 53 then (bif Nat.beq pc 50 then some (.invokevirtual 445, 53, [231, 4, 13, 0, 0, 1], 0, 0, []) else none) else (bif Nat.blt pc 55 then (bif Nat.beq pc 53 then some (.istore 4, 55, [4], 0, 0, []) else none) else (bif Nat.beq pc 55 then some (.iload 4, 57, [4], 0, 0, []) else none))))) else (bif Nat.blt pc 65 then (bif Nat.blt pc 60 then (bif Nat.blt pc 58 then (bif Nat.beq pc 57 then some (.aload_n 0, 58, [0], 0, 0, []) else none) else (bif Nat.blt pc 59 then (bif Nat.beq pc 58 then some (.iload_n 1, 59, [1], 0, 0, []) else none) else (bif Nat.beq pc 59 then some (.iload_n 2, 60, [2], 0, 0, []) else none))) else (bif Nat.blt pc 61 then (bif Nat.beq pc 60 then some (.iload_n 3, 61, [3], 0, 0, []) else none) else (bif Nat.blt pc 64 then (bif Nat.beq pc 61 then some (.invokevirtual 454, 64, [234, 4, 13, 0, 0, 1], 0, 0, []) else none) else (bif Nat.beq pc 64 then some (.isub, 65, [], 0, 0, []) else none)))) else (bif Nat.blt pc 68 then (bif Nat.blt pc 66 then (bif Nat.beq pc 65 then some (.ireturn, 66, [0], 0, 0, []) else none) else (bif Nat.blt pc 67 then (bif Nat.beq pc 66 then some (.aload_n 0, 67, [0], 0, 0, []) else none) else (bif Nat.beq pc 67 then some (.iload_n 1, 68, [1], 0, 0, []) else none))) else (bif Nat.blt pc 70 then (bif Nat.blt pc 69 then (bif Nat.beq pc 68 then some (.iload_n 2, 69, [2], 0, 0, []) else none) else (bif Nat.beq pc 69 then some (.iload_n 3, 70, [3], 0, 0, []) else none)) else (bif Nat.blt pc 73 then (bif Nat.beq pc 70 then some (.invokevirtual 454, 73, [234, 4, 13, 0, 0, 1], 0, 0, []) else none) else (bif Nat.beq pc 73 then some (.ireturn, 74, [0], 0, 0, []) else none)))))))
theorem okX11_tellsOf : ∀ pc Y, pfX11_tellsOf pc = some Y → OKI m_X11_tellsOf pc Y := fun pc Y => ((bt_node (bt_node (bt_node (bt_node (bt_node (bt_leaf (P := OKI m_X11_tellsOf) oX11_tellsOf_0) (bt_node (bt_leaf (P := OKI m_X11_tellsOf) oX11_tellsOf_1) (bt_leaf (P := OKI m_X11_tellsOf) oX11_tellsOf_2))) (bt_node (bt_leaf (P := OKI m_X11_tellsOf) oX11_tellsOf_5) (bt_node (bt_leaf (P := OKI m_X11_tellsOf) oX11_tellsOf_6) (bt_leaf (P := OKI m_X11_tellsOf) oX11_tellsOf_7)))) (bt_node (bt_node (bt_leaf (P := OKI m_X11_tellsOf) oX11_tellsOf_8) (bt_node (bt_leaf (P := OKI m_X11_tellsOf) oX11_tellsOf_9) (bt_leaf (P := OKI m_X11_tellsOf) oX11_tellsOf_12))) (bt_node (bt_leaf (P := OKI m_X11_tellsOf) oX11_tellsOf_13) (bt_node (bt_leaf (P := OKI m_X11_tellsOf) oX11_tellsOf_14) (bt_leaf (P := OKI m_X11_tellsOf) oX11_tellsOf_15))))) (bt_node (bt_node (bt_node (bt_leaf (P := OKI m_X11_tellsOf) oX11_tellsOf_18) (bt_node (bt_leaf (P := OKI m_X11_tellsOf) oX11_tellsOf_19) (bt_leaf (P := OKI m_X11_tellsOf) oX11_tellsOf_21))) (bt_node (bt_leaf (P := OKI m_X11_tellsOf) oX11_tellsOf_24) (bt_node (bt_leaf (P := OKI m_X11_tellsOf) oX11_tellsOf_25) (bt_leaf (P := OKI m_X11_tellsOf) oX11_tellsOf_26)))) (bt_node (bt_node (bt_leaf (P := OKI m_X11_tellsOf) oX11_tellsOf_27) (bt_node (bt_leaf (P := OKI m_X11_tellsOf) oX11_tellsOf_28) (bt_leaf (P := OKI m_X11_tellsOf) oX11_tellsOf_31))) (bt_node (bt_leaf (P := OKI m_X11_tellsOf) oX11_tellsOf_32) (bt_node (bt_leaf (P := OKI m_X11_tellsOf) oX11_tellsOf_33) (bt_leaf (P := OKI m_X11_tellsOf) oX11_tellsOf_34)))))) (bt_node (bt_node (bt_node (bt_node (bt_leaf (P := OKI m_X11_tellsOf) oX11_tellsOf_35) (bt_node (bt_leaf (P := OKI m_X11_tellsOf) oX11_tellsOf_37) (bt_leaf (P := OKI m_X11_tellsOf) oX11_tellsOf_40))) (bt_node (bt_leaf (P := OKI m_X11_tellsOf) oX11_tellsOf_41) (bt_node (bt_leaf (P := OKI m_X11_tellsOf) oX11_tellsOf_43) (bt_leaf (P := OKI m_X11_tellsOf) oX11_tellsOf_46)))) (bt_node (bt_node (bt_leaf (P := OKI m_X11_tellsOf) oX11_tellsOf_47) (bt_node (bt_leaf (P := OKI m_X11_tellsOf) oX11_tellsOf_48) (bt_leaf (P := OKI m_X11_tellsOf) oX11_tellsOf_49))) (bt_node (bt_leaf (P := OKI m_X11_tellsOf) oX11_tellsOf_50) (bt_node (bt_leaf (P := OKI m_X11_tellsOf) oX11_tellsOf_53) (bt_leaf (P := OKI m_X11_tellsOf) oX11_tellsOf_55))))) (bt_node (bt_node (bt_node (bt_leaf (P := OKI m_X11_tellsOf) oX11_tellsOf_57) (bt_node (bt_leaf (P := OKI m_X11_tellsOf) oX11_tellsOf_58) (bt_leaf (P := OKI m_X11_tellsOf) oX11_tellsOf_59))) (bt_node (bt_leaf (P := OKI m_X11_tellsOf) oX11_tellsOf_60) (bt_node (bt_leaf (P := OKI m_X11_tellsOf) oX11_tellsOf_61) (bt_leaf (P := OKI m_X11_tellsOf) oX11_tellsOf_64)))) (bt_node (bt_node (bt_leaf (P := OKI m_X11_tellsOf) oX11_tellsOf_65) (bt_node (bt_leaf (P := OKI m_X11_tellsOf) oX11_tellsOf_66) (bt_leaf (P := OKI m_X11_tellsOf) oX11_tellsOf_67))) (bt_node (bt_node (bt_leaf (P := OKI m_X11_tellsOf) oX11_tellsOf_68) (bt_leaf (P := OKI m_X11_tellsOf) oX11_tellsOf_69)) (bt_node (bt_leaf (P := OKI m_X11_tellsOf) oX11_tellsOf_70) (bt_leaf (P := OKI m_X11_tellsOf) oX11_tellsOf_73))))))) : pfX11_tellsOf pc = some Y → OKI m_X11_tellsOf pc Y)
def stpX11_tellsOf (pc : Nat) : Option (List Bool) := (bif Nat.beq pc 46 then some [true, true, true, true, false] else none)
def bX11_tellsOf_0 (d rc rs : Nat) (a1 : Int32) (a2 : Int32) (a3 : Int32) (σ : XH) (Q : XV → XH → Prop) : Prop :=
  ((a2 = 3 → ((1 ≤ d ∧ Ec (d - 1) 0 0 m_X11_edgeTells [vR (some (12, 0)), vI a1, vI a2, vI a3] σ (kI fun x8 h7 => Q (vI x8) h7)))) ∧ (¬ a2 = 3 → ((a2 = 4 → ((1 ≤ d ∧ Ec (d - 1) 0 0 m_X11_body [vR (some (12, 0)), vI 51] σ (kU fun h4 => ((1 ≤ d ∧ Ec (d - 1) 0 0 m_X11_edgeTells [vR (some (12, 0)), vI a1, vI a2, vI a3] h4 (kI fun x6 h5 => Q (vI (x6 + 5)) h5))))))) ∧ (¬ a2 = 4 → ((a2 = 7 → ((1 ≤ d ∧ Ec (d - 1) 0 0 m_X11_body [vR (some (12, 0)), vI 80] σ (kU fun h3 => Ex d rc rs m_X11_tellsOf 46 [vR (some (12, 0)), vI a1, vI a2, vI a3, vU] [] h3 Q)))) ∧ (¬ a2 = 7 → ((1 ≤ d ∧ Ec (d - 1) 0 0 m_X11_plainTells [vR (some (12, 0)), vI a1, vI a2, vI a3] σ (kI fun x2 h1 => Q (vI x2) h1)))))))))
theorem sX11_tellsOf_0 {d rc rs : Nat} {a1 : Int32} {a2 : Int32} {a3 : Int32} {σ : XH} {Q : XV → XH → Prop} (h : bX11_tellsOf_0 d rc rs a1 a2 a3 σ Q) : Ex d rc rs m_X11_tellsOf 0 [vR (some (12, 0)), vI a1, vI a2, vI a3, vU] [] σ Q :=
  xtree_sound (stop := stpX11_tellsOf) okX11_tellsOf 19 _ _ _ _ _ _ h
def bX11_tellsOf_46 (d rc rs : Nat) (l1 : Int32) (l2 : Int32) (l3 : Int32) (σ : XH) (Q : XV → XH → Prop) : Prop :=
  ((1 ≤ d ∧ Ec (d - 1) 0 0 m_X11_timesOf [vR (some (12, 0)), vI l1, vI l2, vI l3] σ (kI fun x2 h1 => ((1 ≤ d ∧ Ec (d - 1) 0 0 m_X11_plainTells [vR (some (12, 0)), vI l1, vI l2, vI l3] h1 (kI fun x4 h3 => Q (vI (x2 - x4)) h3))))))
theorem sX11_tellsOf_46 {d rc rs : Nat} {l1 : Int32} {l2 : Int32} {l3 : Int32} {σ : XH} {Q : XV → XH → Prop} (h : bX11_tellsOf_46 d rc rs l1 l2 l3 σ Q) : Ex d rc rs m_X11_tellsOf 46 [vR (some (12, 0)), vI l1, vI l2, vI l3, vU] [] σ Q :=
  xtree_sound (stop := stpX11_tellsOf) okX11_tellsOf 16 _ _ _ _ _ _ h
/-! SpotTimersModel.act(III)I -/
theorem dX11_act_0 : decode cX11_act 0 = .ok (.aload_n 0, 1) := by decide +kernel
theorem dX11_act_1 : decode cX11_act 1 = .ok (.iconst 0, 1) := by decide +kernel
theorem dX11_act_2 : decode cX11_act 2 = .ok (.putfield 203, 3) := by decide +kernel
theorem dX11_act_5 : decode cX11_act 5 = .ok (.aload_n 0, 1) := by decide +kernel
theorem dX11_act_6 : decode cX11_act 6 = .ok (.iload_n 1, 1) := by decide +kernel
theorem dX11_act_7 : decode cX11_act 7 = .ok (.invokevirtual 249, 3) := by decide +kernel
theorem dX11_act_10 : decode cX11_act 10 = .ok (.ifCond .eq 13, 3) := by decide +kernel
theorem dX11_act_13 : decode cX11_act 13 = .ok (.aload_n 0, 1) := by decide +kernel
theorem dX11_act_14 : decode cX11_act 14 = .ok (.iload_n 2, 1) := by decide +kernel
theorem dX11_act_15 : decode cX11_act 15 = .ok (.iconst 0, 1) := by decide +kernel
theorem dX11_act_16 : decode cX11_act 16 = .ok (.iconst 2, 1) := by decide +kernel
theorem dX11_act_17 : decode cX11_act 17 = .ok (.invokevirtual 222, 3) := by decide +kernel
theorem dX11_act_20 : decode cX11_act 20 = .ok (.ifCond .ne 5, 3) := by decide +kernel
theorem dX11_act_23 : decode cX11_act 23 = .ok (.iconst 0, 1) := by decide +kernel
theorem dX11_act_24 : decode cX11_act 24 = .ok (.ireturn, 1) := by decide +kernel
theorem dX11_act_25 : decode cX11_act 25 = .ok (.aload_n 0, 1) := by decide +kernel
theorem dX11_act_26 : decode cX11_act 26 = .ok (.iload_n 1, 1) := by decide +kernel
theorem dX11_act_27 : decode cX11_act 27 = .ok (.invokevirtual 252, 3) := by decide +kernel
theorem dX11_act_30 : decode cX11_act 30 = .ok (.istore 4, 2) := by decide +kernel
theorem dX11_act_32 : decode cX11_act 32 = .ok (.iload_n 2, 1) := by decide +kernel
theorem dX11_act_33 : decode cX11_act 33 = .ok (.ifCond .ne 14, 3) := by decide +kernel
theorem dX11_act_36 : decode cX11_act 36 = .ok (.aload_n 0, 1) := by decide +kernel
theorem dX11_act_37 : decode cX11_act 37 = .ok (.iload_n 1, 1) := by decide +kernel
theorem dX11_act_38 : decode cX11_act 38 = .ok (.iload 4, 2) := by decide +kernel
theorem dX11_act_40 : decode cX11_act 40 = .ok (.iload_n 3, 1) := by decide +kernel
theorem dX11_act_41 : decode cX11_act 41 = .ok (.invokevirtual 445, 3) := by decide +kernel
theorem dX11_act_44 : decode cX11_act 44 = .ok (.goto 27, 3) := by decide +kernel
theorem dX11_act_47 : decode cX11_act 47 = .ok (.iload_n 2, 1) := by decide +kernel
theorem dX11_act_48 : decode cX11_act 48 = .ok (.iconst 1, 1) := by decide +kernel
theorem dX11_act_49 : decode cX11_act 49 = .ok (.if_icmp .ne 14, 3) := by decide +kernel
theorem dX11_act_52 : decode cX11_act 52 = .ok (.aload_n 0, 1) := by decide +kernel
theorem dX11_act_53 : decode cX11_act 53 = .ok (.iload_n 1, 1) := by decide +kernel
theorem dX11_act_54 : decode cX11_act 54 = .ok (.iload 4, 2) := by decide +kernel
theorem dX11_act_56 : decode cX11_act 56 = .ok (.iload_n 3, 1) := by decide +kernel
theorem dX11_act_57 : decode cX11_act 57 = .ok (.invokevirtual 451, 3) := by decide +kernel
theorem dX11_act_60 : decode cX11_act 60 = .ok (.goto 11, 3) := by decide +kernel
theorem dX11_act_63 : decode cX11_act 63 = .ok (.aload_n 0, 1) := by decide +kernel
theorem dX11_act_64 : decode cX11_act 64 = .ok (.iload_n 1, 1) := by decide +kernel
theorem dX11_act_65 : decode cX11_act 65 = .ok (.iload 4, 2) := by decide +kernel
theorem dX11_act_67 : decode cX11_act 67 = .ok (.iload_n 3, 1) := by decide +kernel
theorem dX11_act_68 : decode cX11_act 68 = .ok (.invokevirtual 460, 3) := by decide +kernel
theorem dX11_act_71 : decode cX11_act 71 = .ok (.ireturn, 1) := by decide +kernel
theorem oX11_act_0 : OKI 237 0 (.aload_n 0, 1, [0], 0, 0, []) := And.intro dX11_act_0 (And.intro rfl (rfl))
theorem oX11_act_1 : OKI 237 1 (.iconst 0, 2, [], 0, 0, []) := And.intro dX11_act_1 (And.intro rfl (by decide +kernel))
theorem oX11_act_2 : OKI 237 2 (.putfield 203, 5, [12, 63, 0], 0, 0, []) := And.intro dX11_act_2 (And.intro rfl (⟨(RX11, TX11, 69), "SpotTimersModel", rfl, by decide, tm_6 _ (List.mem_of_getElem? (i := 29) rfl) rfl, Or.inl rfl, Or.inl rfl, rfl⟩))
theorem oX11_act_5 : OKI 237 5 (.aload_n 0, 6, [0], 0, 0, []) := And.intro dX11_act_5 (And.intro rfl (rfl))
theorem oX11_act_6 : OKI 237 6 (.iload_n 1, 7, [1], 0, 0, []) := And.intro dX11_act_6 (And.intro rfl (rfl))
theorem oX11_act_7 : OKI 237 7 (.invokevirtual 249, 10, [151, 2, 13, 0, 0, 1], 0, 0, []) := And.intro dX11_act_7 (And.intro rfl (And.intro (by decide) (And.intro (by decide) (And.intro mo_X11_isReading (And.intro (tm_6 _ (List.mem_of_getElem? (i := 231) rfl) rfl) (And.intro (tm_6 _ (List.mem_of_getElem? (i := 233) rfl) rfl) (And.intro (pm_3 _ (List.mem_of_getElem? (i := 15) rfl)) (Or.inl ⟨(RX11, TX11, 69), rfl, rfl⟩))))))))
theorem oX11_act_10 : OKI 237 10 (.ifCond .eq 13, 13, [23], 0, 0, []) := And.intro dX11_act_10 (And.intro rfl (by decide))
theorem oX11_act_13 : OKI 237 13 (.aload_n 0, 14, [0], 0, 0, []) := And.intro dX11_act_13 (And.intro rfl (rfl))
theorem oX11_act_14 : OKI 237 14 (.iload_n 2, 15, [2], 0, 0, []) := And.intro dX11_act_14 (And.intro rfl (rfl))
theorem oX11_act_15 : OKI 237 15 (.iconst 0, 16, [], 0, 0, []) := And.intro dX11_act_15 (And.intro rfl (by decide +kernel))
theorem oX11_act_16 : OKI 237 16 (.iconst 2, 17, [], 2, 0, []) := And.intro dX11_act_16 (And.intro rfl (by decide +kernel))
theorem oX11_act_17 : OKI 237 17 (.invokevirtual 222, 20, [141, 4, 13, 0, 0, 1], 0, 0, []) := And.intro dX11_act_17 (And.intro rfl (And.intro (by decide) (And.intro (by decide) (And.intro mo_X11_in (And.intro (tm_6 _ (List.mem_of_getElem? (i := 179) rfl) rfl) (And.intro (tm_6 _ (List.mem_of_getElem? (i := 181) rfl) rfl) (And.intro (pm_3 _ (List.mem_of_getElem? (i := 8) rfl)) (Or.inl ⟨(RX11, TX11, 69), rfl, rfl⟩))))))))
theorem oX11_act_20 : OKI 237 20 (.ifCond .ne 5, 23, [25], 0, 0, []) := And.intro dX11_act_20 (And.intro rfl (by decide))
theorem oX11_act_23 : OKI 237 23 (.iconst 0, 24, [], 0, 0, []) := And.intro dX11_act_23 (And.intro rfl (by decide +kernel))
theorem oX11_act_24 : OKI 237 24 (.ireturn, 25, [0], 0, 0, []) := And.intro dX11_act_24 (Or.inl (And.intro rfl rfl))
theorem oX11_act_25 : OKI 237 25 (.aload_n 0, 26, [0], 0, 0, []) := And.intro dX11_act_25 (And.intro rfl (rfl))
theorem oX11_act_26 : OKI 237 26 (.iload_n 1, 27, [1], 0, 0, []) := And.intro dX11_act_26 (And.intro rfl (rfl))
theorem oX11_act_27 : OKI 237 27 (.invokevirtual 252, 30, [153, 2, 13, 0, 0, 1], 0, 0, []) := And.intro dX11_act_27 (And.intro rfl (And.intro (by decide) (And.intro (by decide) (And.intro mo_X11_nowKind (And.intro (tm_6 _ (List.mem_of_getElem? (i := 235) rfl) rfl) (And.intro (tm_6 _ (List.mem_of_getElem? (i := 237) rfl) rfl) (And.intro (pm_4 _ (List.mem_of_getElem? (i := 0) rfl)) (Or.inl ⟨(RX11, TX11, 69), rfl, rfl⟩))))))))
theorem oX11_act_30 : OKI 237 30 (.istore 4, 32, [4], 0, 0, []) := And.intro dX11_act_30 (And.intro rfl (And.intro rfl (by decide)))
theorem oX11_act_32 : OKI 237 32 (.iload_n 2, 33, [2], 0, 0, []) := And.intro dX11_act_32 (And.intro rfl (rfl))
theorem oX11_act_33 : OKI 237 33 (.ifCond .ne 14, 36, [47], 0, 0, []) := And.intro dX11_act_33 (And.intro rfl (by decide))
theorem oX11_act_36 : OKI 237 36 (.aload_n 0, 37, [0], 0, 0, []) := And.intro dX11_act_36 (And.intro rfl (rfl))
theorem oX11_act_37 : OKI 237 37 (.iload_n 1, 38, [1], 0, 0, []) := And.intro dX11_act_37 (And.intro rfl (rfl))
theorem oX11_act_38 : OKI 237 38 (.iload 4, 40, [4], 0, 0, []) := And.intro dX11_act_38 (And.intro rfl (rfl))
theorem oX11_act_40 : OKI 237 40 (.iload_n 3, 41, [3], 0, 0, []) := And.intro dX11_act_40 (And.intro rfl (rfl))
theorem oX11_act_41 : OKI 237 41 (.invokevirtual 445, 44, [231, 4, 13, 0, 0, 1], 0, 0, []) := And.intro dX11_act_41 (And.intro rfl (And.intro (by decide) (And.intro (by decide) (And.intro mo_X11_timesOf (And.intro (tm_8 _ (List.mem_of_getElem? (i := 77) rfl) rfl) (And.intro (tm_8 _ (List.mem_of_getElem? (i := 79) rfl) rfl) (And.intro (pm_6 _ (List.mem_of_getElem? (i := 15) rfl)) (Or.inl ⟨(RX11, TX11, 69), rfl, rfl⟩))))))))
theorem oX11_act_44 : OKI 237 44 (.goto 27, 47, [71], 0, 0, []) := And.intro dX11_act_44 (And.intro rfl (by decide))
theorem oX11_act_47 : OKI 237 47 (.iload_n 2, 48, [2], 0, 0, []) := And.intro dX11_act_47 (And.intro rfl (rfl))
theorem oX11_act_48 : OKI 237 48 (.iconst 1, 49, [], 1, 0, []) := And.intro dX11_act_48 (And.intro rfl (by decide +kernel))
theorem oX11_act_49 : OKI 237 49 (.if_icmp .ne 14, 52, [63], 0, 0, []) := And.intro dX11_act_49 (And.intro rfl (by decide))
theorem oX11_act_52 : OKI 237 52 (.aload_n 0, 53, [0], 0, 0, []) := And.intro dX11_act_52 (And.intro rfl (rfl))
theorem oX11_act_53 : OKI 237 53 (.iload_n 1, 54, [1], 0, 0, []) := And.intro dX11_act_53 (And.intro rfl (rfl))
theorem oX11_act_54 : OKI 237 54 (.iload 4, 56, [4], 0, 0, []) := And.intro dX11_act_54 (And.intro rfl (rfl))
theorem oX11_act_56 : OKI 237 56 (.iload_n 3, 57, [3], 0, 0, []) := And.intro dX11_act_56 (And.intro rfl (rfl))
theorem oX11_act_57 : OKI 237 57 (.invokevirtual 451, 60, [233, 4, 13, 0, 0, 1], 0, 0, []) := And.intro dX11_act_57 (And.intro rfl (And.intro (by decide) (And.intro (by decide) (And.intro mo_X11_weighsOf (And.intro (tm_8 _ (List.mem_of_getElem? (i := 89) rfl) rfl) (And.intro (tm_8 _ (List.mem_of_getElem? (i := 91) rfl) rfl) (And.intro (pm_7 _ (List.mem_of_getElem? (i := 2) rfl)) (Or.inl ⟨(RX11, TX11, 69), rfl, rfl⟩))))))))
theorem oX11_act_60 : OKI 237 60 (.goto 11, 63, [71], 0, 0, []) := And.intro dX11_act_60 (And.intro rfl (by decide))
theorem oX11_act_63 : OKI 237 63 (.aload_n 0, 64, [0], 0, 0, []) := And.intro dX11_act_63 (And.intro rfl (rfl))
theorem oX11_act_64 : OKI 237 64 (.iload_n 1, 65, [1], 0, 0, []) := And.intro dX11_act_64 (And.intro rfl (rfl))
theorem oX11_act_65 : OKI 237 65 (.iload 4, 67, [4], 0, 0, []) := And.intro dX11_act_65 (And.intro rfl (rfl))
theorem oX11_act_67 : OKI 237 67 (.iload_n 3, 68, [3], 0, 0, []) := And.intro dX11_act_67 (And.intro rfl (rfl))
theorem oX11_act_68 : OKI 237 68 (.invokevirtual 460, 71, [236, 4, 13, 0, 0, 1], 0, 0, []) := And.intro dX11_act_68 (And.intro rfl (And.intro (by decide) (And.intro (by decide) (And.intro mo_X11_tellsOf (And.intro (tm_8 _ (List.mem_of_getElem? (i := 97) rfl) rfl) (And.intro (tm_8 _ (List.mem_of_getElem? (i := 99) rfl) rfl) (And.intro (pm_7 _ (List.mem_of_getElem? (i := 4) rfl)) (Or.inl ⟨(RX11, TX11, 69), rfl, rfl⟩))))))))
theorem oX11_act_71 : OKI 237 71 (.ireturn, 72, [0], 0, 0, []) := And.intro dX11_act_71 (Or.inl (And.intro rfl rfl))
def pfX11_act (pc : Nat) : Option XE := (bif Nat.blt pc 36 then (bif Nat.blt pc 16 then (bif Nat.blt pc 7 then (bif Nat.blt pc 2 then (bif Nat.blt pc 1 then (bif Nat.beq pc 0 then some (.aload_n 0, 1, [0], 0, 0, []) else none) else (bif Nat.beq pc 1 then some (.iconst 0, 2, [], 0, 0, []) else none)) else (bif Nat.blt pc 5 then (bif Nat.beq pc 2 then some (.putfield 203, 5, [12, 63, 0], 0, 0, []) else none) else (bif Nat.blt pc 6 then (bif Nat.beq pc 5 then some (.aload_n 0, 6, [0], 0, 0, []) else none) else (bif Nat.beq pc 6 then some (.iload_n 1, 7, [1], 0, 0, []) else none)))) else (bif Nat.blt pc 13 then (bif Nat.blt pc 10 then (bif Nat.beq pc 7 then some (.invokevirtual 249, 10, [151, 2, 13, 0, 0, 1], 0, 0, []) else none) else (bif Nat.beq pc 10 then some (.ifCond .eq 13, 13, [23], 0, 0, []) else none)) else (bif Nat.blt pc 14 then (bif Nat.beq pc 13 then some (.aload_n 0, 14, [0], 0, 0, []) else none) else (bif Nat.blt pc 15 then (bif Nat.beq pc 14 then some (.iload_n 2, 15, [2], 0, 0, []) else none) else (bif Nat.beq pc 15 then some (.iconst 0, 16, [], 0, 0, []) else none))))) else (bif Nat.blt pc 25 then (bif Nat.blt pc 20 then (bif Nat.blt pc 17 then (bif Nat.beq pc 16 then some (.iconst 2, 17, [], 2, 0, []) else none) else (bif Nat.beq pc 17 then some (.invokevirtual 222, 20, [141, 4, 13, 0, 0, 1], 0, 0, []) else none)) else (bif Nat.blt pc 23 then (bif Nat.beq pc 20 then some (.ifCond .ne 5, 23, [25], 0, 0, []) else none) else (bif Nat.blt pc 24 then (bif Nat.beq pc 23 then some (.iconst 0, 24, [], 0, 0, []) else none) else (bif Nat.beq pc 24 then some (.ireturn, 25, [0], 0, 0, []) else none)))) else (bif Nat.blt pc 30 then (bif Nat.blt pc 26 then (bif Nat.beq pc 25 then some (.aload_n 0, 26, [0], 0, 0, []) else none) else (bif Nat.blt pc 27 then (bif Nat.beq pc 26 then some (.iload_n 1, 27, [1], 0, 0, []) else none) else (bif Nat.beq pc 27 then some (.invokevirtual 252, 30, [153, 2, 13, 0, 0, 1], 0, 0, []) else none))) else (bif Nat.blt pc 32 then (bif Nat.beq pc 30 then some (.istore 4, 32, [4], 0, 0, []) else none) else (bif Nat.blt pc 33 then (bif Nat.beq pc 32 then some (.iload_n 2, 33, [2], 0, 0, []) else none) else (bif Nat.beq pc 33 then some (.ifCond .ne 14, 36, [47], 0, 0, []) else none)))))) else (bif Nat.blt pc 53 then (bif Nat.blt pc 44 then (bif Nat.blt pc 38 then (bif Nat.blt pc 37 then (bif Nat.beq pc 36 then some (.aload_n 0, 37, [0], 0, 0, []) else none) else (bif Nat.beq pc 37 then some (.iload_n 1, 38, [1], 0, 0, []) else none)) else (bif Nat.blt pc 40 then (bif Nat.beq pc 38 then some (.iload 4, 40, [4], 0, 0, []) else none) else (bif Nat.blt pc 41 then (bif Nat.beq pc 40 then some (.iload_n 3, 41, [3], 0, 0, []) else none) else (bif Nat.beq pc 41 then some (.invokevirtual 445, 44, [231, 4, 13, 0, 0, 1], 0, 0, []) else none)))) else (bif Nat.blt pc 48 then (bif Nat.blt pc 47 then (bif Nat.beq pc 44 then some (.goto 27, 47, [71], 0, 0, []) else none) else (bif Nat.beq pc 47 then some (.iload_n 2, 48, [2], 0, 0, []) else none)) else (bif Nat.blt pc 49 then (bif Nat.beq pc 48 then some (.iconst 1, 49, [], 1, 0, []) else none) else (bif Nat.blt pc 52 then (bif Nat.beq pc 49 then some (.if_icmp .ne 14, 52, [63], 0, 0, []) else none) else (bif Nat.beq pc 52 then some (.aload_n 0, 53, [0], 0, 0, []) else none))))) else (bif Nat.blt pc 63 then (bif Nat.blt pc 56 then (bif Nat.blt pc 54 then (bif Nat.beq pc 53 then some (.iload_n 1, 54, [1], 0, 0, []) else none) else (bif Nat.beq pc 54 then some (.iload 4, 56, [4], 0, 0, []) else none)) else (bif Nat.blt pc 57 then (bif Nat.beq pc 56 then some (.iload_n 3, 57, [3], 0, 0, []) else none) else (bif Nat.blt pc 60 then (bif Nat.beq pc 57 then some (.invokevirtual 451, 60, [233, 4, 13, 0, 0, 1], 0, 0, []) else none) else (bif Nat.beq pc 60 then some (.goto 11, 63, [71], 0, 0, []) else none)))) else (bif Nat.blt pc 67 then (bif Nat.blt pc 64 then (bif Nat.beq pc 63 then some (.aload_n 0, 64, [0], 0, 0, []) else none) else (bif Nat.blt pc 65 then (bif Nat.beq pc 64 then some (.iload_n 1, 65, [1], 0, 0, []) else none) else (bif Nat.beq pc 65 then some (.iload 4, 67, [4], 0, 0, []) else none))) else (bif Nat.blt pc 68 then (bif Nat.beq pc 67 then some (.iload_n 3, 68, [3], 0, 0, []) else none) else (bif Nat.blt pc 71 then (bif Nat.beq pc 68 then some (.invokevirtual 460, 71, [236, 4, 13, 0, 0, 1], 0, 0, []) else none) else (bif Nat.beq pc 71 then some (.ireturn, 72, [0], 0, 0, []) else none)))))))
theorem okX11_act : ∀ pc Y, pfX11_act pc = some Y → OKI m_X11_act pc Y := fun pc Y => ((bt_node (bt_node (bt_node (bt_node (bt_node (bt_leaf (P := OKI m_X11_act) oX11_act_0) (bt_leaf (P := OKI m_X11_act) oX11_act_1)) (bt_node (bt_leaf (P := OKI m_X11_act) oX11_act_2) (bt_node (bt_leaf (P := OKI m_X11_act) oX11_act_5) (bt_leaf (P := OKI m_X11_act) oX11_act_6)))) (bt_node (bt_node (bt_leaf (P := OKI m_X11_act) oX11_act_7) (bt_leaf (P := OKI m_X11_act) oX11_act_10)) (bt_node (bt_leaf (P := OKI m_X11_act) oX11_act_13) (bt_node (bt_leaf (P := OKI m_X11_act) oX11_act_14) (bt_leaf (P := OKI m_X11_act) oX11_act_15))))) (bt_node (bt_node (bt_node (bt_leaf (P := OKI m_X11_act) oX11_act_16) (bt_leaf (P := OKI m_X11_act) oX11_act_17)) (bt_node (bt_leaf (P := OKI m_X11_act) oX11_act_20) (bt_node (bt_leaf (P := OKI m_X11_act) oX11_act_23) (bt_leaf (P := OKI m_X11_act) oX11_act_24)))) (bt_node (bt_node (bt_leaf (P := OKI m_X11_act) oX11_act_25) (bt_node (bt_leaf (P := OKI m_X11_act) oX11_act_26) (bt_leaf (P := OKI m_X11_act) oX11_act_27))) (bt_node (bt_leaf (P := OKI m_X11_act) oX11_act_30) (bt_node (bt_leaf (P := OKI m_X11_act) oX11_act_32) (bt_leaf (P := OKI m_X11_act) oX11_act_33)))))) (bt_node (bt_node (bt_node (bt_node (bt_leaf (P := OKI m_X11_act) oX11_act_36) (bt_leaf (P := OKI m_X11_act) oX11_act_37)) (bt_node (bt_leaf (P := OKI m_X11_act) oX11_act_38) (bt_node (bt_leaf (P := OKI m_X11_act) oX11_act_40) (bt_leaf (P := OKI m_X11_act) oX11_act_41)))) (bt_node (bt_node (bt_leaf (P := OKI m_X11_act) oX11_act_44) (bt_leaf (P := OKI m_X11_act) oX11_act_47)) (bt_node (bt_leaf (P := OKI m_X11_act) oX11_act_48) (bt_node (bt_leaf (P := OKI m_X11_act) oX11_act_49) (bt_leaf (P := OKI m_X11_act) oX11_act_52))))) (bt_node (bt_node (bt_node (bt_leaf (P := OKI m_X11_act) oX11_act_53) (bt_leaf (P := OKI m_X11_act) oX11_act_54)) (bt_node (bt_leaf (P := OKI m_X11_act) oX11_act_56) (bt_node (bt_leaf (P := OKI m_X11_act) oX11_act_57) (bt_leaf (P := OKI m_X11_act) oX11_act_60)))) (bt_node (bt_node (bt_leaf (P := OKI m_X11_act) oX11_act_63) (bt_node (bt_leaf (P := OKI m_X11_act) oX11_act_64) (bt_leaf (P := OKI m_X11_act) oX11_act_65))) (bt_node (bt_leaf (P := OKI m_X11_act) oX11_act_67) (bt_node (bt_leaf (P := OKI m_X11_act) oX11_act_68) (bt_leaf (P := OKI m_X11_act) oX11_act_71))))))) : pfX11_act pc = some Y → OKI m_X11_act pc Y)
def stpX11_act (pc : Nat) : Option (List Bool) := (bif Nat.blt pc 71 then (bif Nat.beq pc 23 then some [false, false, false, false, false] else none) else (bif Nat.beq pc 71 then some [false, false, false, false, false] else none))
def bX11_act_0 (d rc rs : Nat) (a1 : Int32) (a2 : Int32) (a3 : Int32) (σ : XH) (Q : XV → XH → Prop) : Prop :=
  ((∀ h1, h1 = wI σ 12 0 63 0 → ((1 ≤ d ∧ Ec (d - 1) 0 0 m_X11_isReading [vR (some (12, 0)), vI a1] h1 (kI fun x3 h2 => ((x3 = 0 → Ex d rc rs m_X11_act 23 [vU, vU, vU, vU, vU] [] h2 Q) ∧ (¬ x3 = 0 → ((1 ≤ d ∧ Ec (d - 1) 0 0 m_X11_in [vR (some (12, 0)), vI a2, vI 0, vI 2] h2 (kI fun x5 h4 => ((x5 = 0 → Ex d rc rs m_X11_act 23 [vU, vU, vU, vU, vU] [] h4 Q) ∧ (¬ x5 = 0 → ((1 ≤ d ∧ Ec (d - 1) 0 0 m_X11_nowKind [vR (some (12, 0)), vI a1] h4 (kI fun x7 h6 => ((a2 = 0 → ((1 ≤ d ∧ Ec (d - 1) 0 0 m_X11_timesOf [vR (some (12, 0)), vI a1, vI x7, vI a3] h6 (kI fun x13 h12 => Ex d rc rs m_X11_act 71 [vU, vU, vU, vU, vU] [vI x13] h12 Q)))) ∧ (¬ a2 = 0 → ((a2 = 1 → ((1 ≤ d ∧ Ec (d - 1) 0 0 m_X11_weighsOf [vR (some (12, 0)), vI a1, vI x7, vI a3] h6 (kI fun x11 h10 => Ex d rc rs m_X11_act 71 [vU, vU, vU, vU, vU] [vI x11] h10 Q)))) ∧ (¬ a2 = 1 → ((1 ≤ d ∧ Ec (d - 1) 0 0 m_X11_tellsOf [vR (some (12, 0)), vI a1, vI x7, vI a3] h6 (kI fun x9 h8 => Ex d rc rs m_X11_act 71 [vU, vU, vU, vU, vU] [vI x9] h8 Q))))))))))))))))))))))
theorem sX11_act_0 {d rc rs : Nat} {a1 : Int32} {a2 : Int32} {a3 : Int32} {σ : XH} {Q : XV → XH → Prop} (h : bX11_act_0 d rc rs a1 a2 a3 σ Q) : Ex d rc rs m_X11_act 0 [vR (some (12, 0)), vI a1, vI a2, vI a3, vU] [] σ Q :=
  xtree_sound (stop := stpX11_act) okX11_act 30 _ _ _ _ _ _ h
def bX11_act_23 (d rc rs : Nat)  (σ : XH) (Q : XV → XH → Prop) : Prop :=
  Q (vI 0) σ
theorem sX11_act_23 {d rc rs : Nat}  {σ : XH} {Q : XV → XH → Prop} (h : bX11_act_23 d rc rs  σ Q) : Ex d rc rs m_X11_act 23 [vU, vU, vU, vU, vU] [] σ Q :=
  xtree_sound (stop := stpX11_act) okX11_act 4 _ _ _ _ _ _ h
def bX11_act_71 (d rc rs : Nat) (q0 : Int32) (σ : XH) (Q : XV → XH → Prop) : Prop :=
  Q (vI q0) σ
theorem sX11_act_71 {d rc rs : Nat} {q0 : Int32} {σ : XH} {Q : XV → XH → Prop} (h : bX11_act_71 d rc rs q0 σ Q) : Ex d rc rs m_X11_act 71 [vU, vU, vU, vU, vU] [vI q0] σ Q :=
  xtree_sound (stop := stpX11_act) okX11_act 3 _ _ _ _ _ _ h
/-! SpotTimersModel.trace(I)I -/
theorem dX11_trace_0 : decode cX11_trace 0 = .ok (.aload_n 0, 1) := by decide +kernel
theorem dX11_trace_1 : decode cX11_trace 1 = .ok (.iload_n 1, 1) := by decide +kernel
theorem dX11_trace_2 : decode cX11_trace 2 = .ok (.iconst 0, 1) := by decide +kernel
theorem dX11_trace_3 : decode cX11_trace 3 = .ok (.bipush 19, 2) := by decide +kernel
theorem dX11_trace_5 : decode cX11_trace 5 = .ok (.invokevirtual 222, 3) := by decide +kernel
theorem dX11_trace_8 : decode cX11_trace 8 = .ok (.ifCond .eq 20, 3) := by decide +kernel
theorem dX11_trace_11 : decode cX11_trace 11 = .ok (.iload_n 1, 1) := by decide +kernel
theorem dX11_trace_12 : decode cX11_trace 12 = .ok (.aload_n 0, 1) := by decide +kernel
theorem dX11_trace_13 : decode cX11_trace 13 = .ok (.getfield 203, 3) := by decide +kernel
theorem dX11_trace_16 : decode cX11_trace 16 = .ok (.if_icmp .ge 12, 3) := by decide +kernel
theorem dX11_trace_19 : decode cX11_trace 19 = .ok (.aload_n 0, 1) := by decide +kernel
theorem dX11_trace_20 : decode cX11_trace 20 = .ok (.getfield 206, 3) := by decide +kernel
theorem dX11_trace_23 : decode cX11_trace 23 = .ok (.iload_n 1, 1) := by decide +kernel
theorem dX11_trace_24 : decode cX11_trace 24 = .ok (.iaload, 1) := by decide +kernel
theorem dX11_trace_25 : decode cX11_trace 25 = .ok (.goto 4, 3) := by decide +kernel
theorem dX11_trace_28 : decode cX11_trace 28 = .ok (.iconst (-1), 1) := by decide +kernel
theorem dX11_trace_29 : decode cX11_trace 29 = .ok (.ireturn, 1) := by decide +kernel
theorem oX11_trace_0 : OKI 238 0 (.aload_n 0, 1, [0], 0, 0, []) := And.intro dX11_trace_0 (And.intro rfl (rfl))
theorem oX11_trace_1 : OKI 238 1 (.iload_n 1, 2, [1], 0, 0, []) := And.intro dX11_trace_1 (And.intro rfl (rfl))
theorem oX11_trace_2 : OKI 238 2 (.iconst 0, 3, [], 0, 0, []) := And.intro dX11_trace_2 (And.intro rfl (by decide +kernel))
theorem oX11_trace_3 : OKI 238 3 (.bipush 19, 5, [], 19, 0, []) := And.intro dX11_trace_3 (And.intro rfl (by decide +kernel))
theorem oX11_trace_5 : OKI 238 5 (.invokevirtual 222, 8, [141, 4, 13, 0, 0, 1], 0, 0, []) := And.intro dX11_trace_5 (And.intro rfl (And.intro (by decide) (And.intro (by decide) (And.intro mo_X11_in (And.intro (tm_6 _ (List.mem_of_getElem? (i := 179) rfl) rfl) (And.intro (tm_6 _ (List.mem_of_getElem? (i := 181) rfl) rfl) (And.intro (pm_3 _ (List.mem_of_getElem? (i := 8) rfl)) (Or.inl ⟨(RX11, TX11, 69), rfl, rfl⟩))))))))
theorem oX11_trace_8 : OKI 238 8 (.ifCond .eq 20, 11, [28], 0, 0, []) := And.intro dX11_trace_8 (And.intro rfl (by decide))
theorem oX11_trace_11 : OKI 238 11 (.iload_n 1, 12, [1], 0, 0, []) := And.intro dX11_trace_11 (And.intro rfl (rfl))
theorem oX11_trace_12 : OKI 238 12 (.aload_n 0, 13, [0], 0, 0, []) := And.intro dX11_trace_12 (And.intro rfl (rfl))
theorem oX11_trace_13 : OKI 238 13 (.getfield 203, 16, [12, 63, 0], 0, 0, []) := And.intro dX11_trace_13 (And.intro rfl (⟨(RX11, TX11, 69), "SpotTimersModel", rfl, by decide, tm_6 _ (List.mem_of_getElem? (i := 29) rfl) rfl, Or.inl rfl, Or.inr (Or.inr (And.intro rfl (Or.inl rfl)))⟩))
theorem oX11_trace_16 : OKI 238 16 (.if_icmp .ge 12, 19, [28], 0, 0, []) := And.intro dX11_trace_16 (And.intro rfl (by decide))
theorem oX11_trace_19 : OKI 238 19 (.aload_n 0, 20, [0], 0, 0, []) := And.intro dX11_trace_19 (And.intro rfl (rfl))
theorem oX11_trace_20 : OKI 238 20 (.getfield 206, 23, [12, 64, 2, 150, 0], 0, 0, []) := And.intro dX11_trace_20 (And.intro rfl (⟨(RX11, TX11, 69), "SpotTimersModel", rfl, by decide, tm_6 _ (List.mem_of_getElem? (i := 30) rfl) rfl, Or.inl rfl, rfl, rfl⟩))
theorem oX11_trace_23 : OKI 238 23 (.iload_n 1, 24, [1], 0, 0, []) := And.intro dX11_trace_23 (And.intro rfl (rfl))
theorem oX11_trace_24 : OKI 238 24 (.iaload, 25, [], 0, 0, []) := And.intro dX11_trace_24 rfl
theorem oX11_trace_25 : OKI 238 25 (.goto 4, 28, [29], 0, 0, []) := And.intro dX11_trace_25 (And.intro rfl (by decide))
theorem oX11_trace_28 : OKI 238 28 (.iconst (-1), 29, [], (-1), 0, []) := And.intro dX11_trace_28 (And.intro rfl (by decide +kernel))
theorem oX11_trace_29 : OKI 238 29 (.ireturn, 30, [0], 0, 0, []) := And.intro dX11_trace_29 (Or.inl (And.intro rfl rfl))
def pfX11_trace (pc : Nat) : Option XE := (bif Nat.blt pc 13 then (bif Nat.blt pc 5 then (bif Nat.blt pc 2 then (bif Nat.blt pc 1 then (bif Nat.beq pc 0 then some (.aload_n 0, 1, [0], 0, 0, []) else none) else (bif Nat.beq pc 1 then some (.iload_n 1, 2, [1], 0, 0, []) else none)) else (bif Nat.blt pc 3 then (bif Nat.beq pc 2 then some (.iconst 0, 3, [], 0, 0, []) else none) else (bif Nat.beq pc 3 then some (.bipush 19, 5, [], 19, 0, []) else none))) else (bif Nat.blt pc 11 then (bif Nat.blt pc 8 then (bif Nat.beq pc 5 then some (.invokevirtual 222, 8, [141, 4, 13, 0, 0, 1], 0, 0, []) else none) else (bif Nat.beq pc 8 then some (.ifCond .eq 20, 11, [28], 0, 0, []) else none)) else (bif Nat.blt pc 12 then (bif Nat.beq pc 11 then some (.iload_n 1, 12, [1], 0, 0, []) else none) else (bif Nat.beq pc 12 then some (.aload_n 0, 13, [0], 0, 0, []) else none)))) else (bif Nat.blt pc 23 then (bif Nat.blt pc 19 then (bif Nat.blt pc 16 then (bif Nat.beq pc 13 then some (.getfield 203, 16, [12, 63, 0], 0, 0, []) else none) else (bif Nat.beq pc 16 then some (.if_icmp .ge 12, 19, [28], 0, 0, []) else none)) else (bif Nat.blt pc 20 then (bif Nat.beq pc 19 then some (.aload_n 0, 20, [0], 0, 0, []) else none) else (bif Nat.beq pc 20 then some (.getfield 206, 23, [12, 64, 2, 150, 0], 0, 0, []) else none))) else (bif Nat.blt pc 25 then (bif Nat.blt pc 24 then (bif Nat.beq pc 23 then some (.iload_n 1, 24, [1], 0, 0, []) else none) else (bif Nat.beq pc 24 then some (.iaload, 25, [], 0, 0, []) else none)) else (bif Nat.blt pc 28 then (bif Nat.beq pc 25 then some (.goto 4, 28, [29], 0, 0, []) else none) else (bif Nat.blt pc 29 then (bif Nat.beq pc 28 then some (.iconst (-1), 29, [], (-1), 0, []) else none) else (bif Nat.beq pc 29 then some (.ireturn, 30, [0], 0, 0, []) else none))))))
theorem okX11_trace : ∀ pc Y, pfX11_trace pc = some Y → OKI m_X11_trace pc Y := fun pc Y => ((bt_node (bt_node (bt_node (bt_node (bt_leaf (P := OKI m_X11_trace) oX11_trace_0) (bt_leaf (P := OKI m_X11_trace) oX11_trace_1)) (bt_node (bt_leaf (P := OKI m_X11_trace) oX11_trace_2) (bt_leaf (P := OKI m_X11_trace) oX11_trace_3))) (bt_node (bt_node (bt_leaf (P := OKI m_X11_trace) oX11_trace_5) (bt_leaf (P := OKI m_X11_trace) oX11_trace_8)) (bt_node (bt_leaf (P := OKI m_X11_trace) oX11_trace_11) (bt_leaf (P := OKI m_X11_trace) oX11_trace_12)))) (bt_node (bt_node (bt_node (bt_leaf (P := OKI m_X11_trace) oX11_trace_13) (bt_leaf (P := OKI m_X11_trace) oX11_trace_16)) (bt_node (bt_leaf (P := OKI m_X11_trace) oX11_trace_19) (bt_leaf (P := OKI m_X11_trace) oX11_trace_20))) (bt_node (bt_node (bt_leaf (P := OKI m_X11_trace) oX11_trace_23) (bt_leaf (P := OKI m_X11_trace) oX11_trace_24)) (bt_node (bt_leaf (P := OKI m_X11_trace) oX11_trace_25) (bt_node (bt_leaf (P := OKI m_X11_trace) oX11_trace_28) (bt_leaf (P := OKI m_X11_trace) oX11_trace_29)))))) : pfX11_trace pc = some Y → OKI m_X11_trace pc Y)
def stpX11_trace (pc : Nat) : Option (List Bool) := (bif Nat.blt pc 29 then (bif Nat.beq pc 28 then some [false, false] else none) else (bif Nat.beq pc 29 then some [false, false] else none))
def bX11_trace_0 (d rc rs : Nat) (a1 : Int32) (σ : XH) (Q : XV → XH → Prop) : Prop :=
  ((1 ≤ d ∧ Ec (d - 1) 0 0 m_X11_in [vR (some (12, 0)), vI a1, vI 0, vI 19] σ (kI fun x2 h1 => ((x2 = 0 → Ex d rc rs m_X11_trace 28 [vU, vU] [] h1 Q) ∧ (¬ x2 = 0 → (((a1 < (hi h1 12 0 63) → ((hr h1 12 0 64 = some (150, 0) ∧ ((vp_in a1 (hn h1 150 0) ∧ Ex d rc rs m_X11_trace 29 [vU, vU] [vI (hi h1 150 0 a1.toNatClampNeg)] h1 Q))))) ∧ (¬ a1 < (hi h1 12 0 63) → Ex d rc rs m_X11_trace 28 [vU, vU] [] h1 Q))))))))
theorem sX11_trace_0 {d rc rs : Nat} {a1 : Int32} {σ : XH} {Q : XV → XH → Prop} (h : bX11_trace_0 d rc rs a1 σ Q) : Ex d rc rs m_X11_trace 0 [vR (some (12, 0)), vI a1] [] σ Q :=
  xtree_sound (stop := stpX11_trace) okX11_trace 17 _ _ _ _ _ _ h
def bX11_trace_28 (d rc rs : Nat)  (σ : XH) (Q : XV → XH → Prop) : Prop :=
  Ex d rc rs m_X11_trace 29 [vU, vU] [vI (-1)] σ Q
theorem sX11_trace_28 {d rc rs : Nat}  {σ : XH} {Q : XV → XH → Prop} (h : bX11_trace_28 d rc rs  σ Q) : Ex d rc rs m_X11_trace 28 [vU, vU] [] σ Q :=
  xtree_sound (stop := stpX11_trace) okX11_trace 3 _ _ _ _ _ _ h
def bX11_trace_29 (d rc rs : Nat) (q0 : Int32) (σ : XH) (Q : XV → XH → Prop) : Prop :=
  Q (vI q0) σ
theorem sX11_trace_29 {d rc rs : Nat} {q0 : Int32} {σ : XH} {Q : XV → XH → Prop} (h : bX11_trace_29 d rc rs q0 σ Q) : Ex d rc rs m_X11_trace 29 [vU, vU] [vI q0] σ Q :=
  xtree_sound (stop := stpX11_trace) okX11_trace 3 _ _ _ _ _ _ h
/-! SpotTimersModel.taken(II)I -/
theorem dX11_taken_0 : decode cX11_taken 0 = .ok (.aload_n 0, 1) := by decide +kernel
theorem dX11_taken_1 : decode cX11_taken 1 = .ok (.iload_n 2, 1) := by decide +kernel
theorem dX11_taken_2 : decode cX11_taken 2 = .ok (.iconst 0, 1) := by decide +kernel
theorem dX11_taken_3 : decode cX11_taken 3 = .ok (.bipush 7, 2) := by decide +kernel
theorem dX11_taken_5 : decode cX11_taken 5 = .ok (.invokevirtual 222, 3) := by decide +kernel
theorem dX11_taken_8 : decode cX11_taken 8 = .ok (.ifCond .ne 6, 3) := by decide +kernel
theorem dX11_taken_11 : decode cX11_taken 11 = .ok (.bipush (-2), 2) := by decide +kernel
theorem dX11_taken_13 : decode cX11_taken 13 = .ok (.ireturn, 1) := by decide +kernel
theorem dX11_taken_14 : decode cX11_taken 14 = .ok (.aload_n 0, 1) := by decide +kernel
theorem dX11_taken_15 : decode cX11_taken 15 = .ok (.iload_n 1, 1) := by decide +kernel
theorem dX11_taken_16 : decode cX11_taken 16 = .ok (.invokevirtual 249, 3) := by decide +kernel
theorem dX11_taken_19 : decode cX11_taken 19 = .ok (.ifCond .ne 6, 3) := by decide +kernel
theorem dX11_taken_22 : decode cX11_taken 22 = .ok (.bipush (-11), 2) := by decide +kernel
theorem dX11_taken_24 : decode cX11_taken 24 = .ok (.ireturn, 1) := by decide +kernel
theorem dX11_taken_25 : decode cX11_taken 25 = .ok (.aload_n 0, 1) := by decide +kernel
theorem dX11_taken_26 : decode cX11_taken 26 = .ok (.iload_n 1, 1) := by decide +kernel
theorem dX11_taken_27 : decode cX11_taken 27 = .ok (.invokevirtual 252, 3) := by decide +kernel
theorem dX11_taken_30 : decode cX11_taken 30 = .ok (.istore_n 3, 1) := by decide +kernel
theorem dX11_taken_31 : decode cX11_taken 31 = .ok (.iload_n 2, 1) := by decide +kernel
theorem dX11_taken_32 : decode cX11_taken 32 = .ok (.ifCond .eq 18, 3) := by decide +kernel
theorem dX11_taken_35 : decode cX11_taken 35 = .ok (.iload_n 3, 1) := by decide +kernel
theorem dX11_taken_36 : decode cX11_taken 36 = .ok (.iload_n 2, 1) := by decide +kernel
theorem dX11_taken_37 : decode cX11_taken 37 = .ok (.if_icmp .eq 13, 3) := by decide +kernel
theorem dX11_taken_40 : decode cX11_taken 40 = .ok (.iload_n 2, 1) := by decide +kernel
theorem dX11_taken_41 : decode cX11_taken 41 = .ok (.iconst 3, 1) := by decide +kernel
theorem dX11_taken_42 : decode cX11_taken 42 = .ok (.if_icmp .ne 12, 3) := by decide +kernel
theorem dX11_taken_45 : decode cX11_taken 45 = .ok (.iload_n 3, 1) := by decide +kernel
theorem dX11_taken_46 : decode cX11_taken 46 = .ok (.iconst 4, 1) := by decide +kernel
theorem dX11_taken_47 : decode cX11_taken 47 = .ok (.if_icmp .ne 7, 3) := by decide +kernel
theorem dX11_taken_50 : decode cX11_taken 50 = .ok (.iload_n 3, 1) := by decide +kernel
theorem dX11_taken_51 : decode cX11_taken 51 = .ok (.goto 5, 3) := by decide +kernel
theorem dX11_taken_54 : decode cX11_taken 54 = .ok (.bipush (-12), 2) := by decide +kernel
theorem dX11_taken_56 : decode cX11_taken 56 = .ok (.ireturn, 1) := by decide +kernel
theorem oX11_taken_0 : OKI 239 0 (.aload_n 0, 1, [0], 0, 0, []) := And.intro dX11_taken_0 (And.intro rfl (rfl))
theorem oX11_taken_1 : OKI 239 1 (.iload_n 2, 2, [2], 0, 0, []) := And.intro dX11_taken_1 (And.intro rfl (rfl))
theorem oX11_taken_2 : OKI 239 2 (.iconst 0, 3, [], 0, 0, []) := And.intro dX11_taken_2 (And.intro rfl (by decide +kernel))
theorem oX11_taken_3 : OKI 239 3 (.bipush 7, 5, [], 7, 0, []) := And.intro dX11_taken_3 (And.intro rfl (by decide +kernel))
theorem oX11_taken_5 : OKI 239 5 (.invokevirtual 222, 8, [141, 4, 13, 0, 0, 1], 0, 0, []) := And.intro dX11_taken_5 (And.intro rfl (And.intro (by decide) (And.intro (by decide) (And.intro mo_X11_in (And.intro (tm_6 _ (List.mem_of_getElem? (i := 179) rfl) rfl) (And.intro (tm_6 _ (List.mem_of_getElem? (i := 181) rfl) rfl) (And.intro (pm_3 _ (List.mem_of_getElem? (i := 8) rfl)) (Or.inl ⟨(RX11, TX11, 69), rfl, rfl⟩))))))))
theorem oX11_taken_8 : OKI 239 8 (.ifCond .ne 6, 11, [14], 0, 0, []) := And.intro dX11_taken_8 (And.intro rfl (by decide))
theorem oX11_taken_11 : OKI 239 11 (.bipush (-2), 13, [], (-2), 0, []) := And.intro dX11_taken_11 (And.intro rfl (by decide +kernel))
theorem oX11_taken_13 : OKI 239 13 (.ireturn, 14, [0], 0, 0, []) := And.intro dX11_taken_13 (Or.inl (And.intro rfl rfl))
theorem oX11_taken_14 : OKI 239 14 (.aload_n 0, 15, [0], 0, 0, []) := And.intro dX11_taken_14 (And.intro rfl (rfl))
theorem oX11_taken_15 : OKI 239 15 (.iload_n 1, 16, [1], 0, 0, []) := And.intro dX11_taken_15 (And.intro rfl (rfl))
theorem oX11_taken_16 : OKI 239 16 (.invokevirtual 249, 19, [151, 2, 13, 0, 0, 1], 0, 0, []) := And.intro dX11_taken_16 (And.intro rfl (And.intro (by decide) (And.intro (by decide) (And.intro mo_X11_isReading (And.intro (tm_6 _ (List.mem_of_getElem? (i := 231) rfl) rfl) (And.intro (tm_6 _ (List.mem_of_getElem? (i := 233) rfl) rfl) (And.intro (pm_3 _ (List.mem_of_getElem? (i := 15) rfl)) (Or.inl ⟨(RX11, TX11, 69), rfl, rfl⟩))))))))
theorem oX11_taken_19 : OKI 239 19 (.ifCond .ne 6, 22, [25], 0, 0, []) := And.intro dX11_taken_19 (And.intro rfl (by decide))
theorem oX11_taken_22 : OKI 239 22 (.bipush (-11), 24, [], (-11), 0, []) := And.intro dX11_taken_22 (And.intro rfl (by decide +kernel))
theorem oX11_taken_24 : OKI 239 24 (.ireturn, 25, [0], 0, 0, []) := And.intro dX11_taken_24 (Or.inl (And.intro rfl rfl))
theorem oX11_taken_25 : OKI 239 25 (.aload_n 0, 26, [0], 0, 0, []) := And.intro dX11_taken_25 (And.intro rfl (rfl))
theorem oX11_taken_26 : OKI 239 26 (.iload_n 1, 27, [1], 0, 0, []) := And.intro dX11_taken_26 (And.intro rfl (rfl))
theorem oX11_taken_27 : OKI 239 27 (.invokevirtual 252, 30, [153, 2, 13, 0, 0, 1], 0, 0, []) := And.intro dX11_taken_27 (And.intro rfl (And.intro (by decide) (And.intro (by decide) (And.intro mo_X11_nowKind (And.intro (tm_6 _ (List.mem_of_getElem? (i := 235) rfl) rfl) (And.intro (tm_6 _ (List.mem_of_getElem? (i := 237) rfl) rfl) (And.intro (pm_4 _ (List.mem_of_getElem? (i := 0) rfl)) (Or.inl ⟨(RX11, TX11, 69), rfl, rfl⟩))))))))
theorem oX11_taken_30 : OKI 239 30 (.istore_n 3, 31, [3], 0, 0, []) := And.intro dX11_taken_30 (And.intro rfl (And.intro rfl (by decide)))
theorem oX11_taken_31 : OKI 239 31 (.iload_n 2, 32, [2], 0, 0, []) := And.intro dX11_taken_31 (And.intro rfl (rfl))
theorem oX11_taken_32 : OKI 239 32 (.ifCond .eq 18, 35, [50], 0, 0, []) := And.intro dX11_taken_32 (And.intro rfl (by decide))
theorem oX11_taken_35 : OKI 239 35 (.iload_n 3, 36, [3], 0, 0, []) := And.intro dX11_taken_35 (And.intro rfl (rfl))
theorem oX11_taken_36 : OKI 239 36 (.iload_n 2, 37, [2], 0, 0, []) := And.intro dX11_taken_36 (And.intro rfl (rfl))
theorem oX11_taken_37 : OKI 239 37 (.if_icmp .eq 13, 40, [50], 0, 0, []) := And.intro dX11_taken_37 (And.intro rfl (by decide))
theorem oX11_taken_40 : OKI 239 40 (.iload_n 2, 41, [2], 0, 0, []) := And.intro dX11_taken_40 (And.intro rfl (rfl))
theorem oX11_taken_41 : OKI 239 41 (.iconst 3, 42, [], 3, 0, []) := And.intro dX11_taken_41 (And.intro rfl (by decide +kernel))
theorem oX11_taken_42 : OKI 239 42 (.if_icmp .ne 12, 45, [54], 0, 0, []) := And.intro dX11_taken_42 (And.intro rfl (by decide))
theorem oX11_taken_45 : OKI 239 45 (.iload_n 3, 46, [3], 0, 0, []) := And.intro dX11_taken_45 (And.intro rfl (rfl))
theorem oX11_taken_46 : OKI 239 46 (.iconst 4, 47, [], 4, 0, []) := And.intro dX11_taken_46 (And.intro rfl (by decide +kernel))
theorem oX11_taken_47 : OKI 239 47 (.if_icmp .ne 7, 50, [54], 0, 0, []) := And.intro dX11_taken_47 (And.intro rfl (by decide))
theorem oX11_taken_50 : OKI 239 50 (.iload_n 3, 51, [3], 0, 0, []) := And.intro dX11_taken_50 (And.intro rfl (rfl))
theorem oX11_taken_51 : OKI 239 51 (.goto 5, 54, [56], 0, 0, []) := And.intro dX11_taken_51 (And.intro rfl (by decide))
theorem oX11_taken_54 : OKI 239 54 (.bipush (-12), 56, [], (-12), 0, []) := And.intro dX11_taken_54 (And.intro rfl (by decide +kernel))
theorem oX11_taken_56 : OKI 239 56 (.ireturn, 57, [0], 0, 0, []) := And.intro dX11_taken_56 (Or.inl (And.intro rfl rfl))
def pfX11_taken (pc : Nat) : Option XE := (bif Nat.blt pc 27 then (bif Nat.blt pc 14 then (bif Nat.blt pc 5 then (bif Nat.blt pc 2 then (bif Nat.blt pc 1 then (bif Nat.beq pc 0 then some (.aload_n 0, 1, [0], 0, 0, []) else none) else (bif Nat.beq pc 1 then some (.iload_n 2, 2, [2], 0, 0, []) else none)) else (bif Nat.blt pc 3 then (bif Nat.beq pc 2 then some (.iconst 0, 3, [], 0, 0, []) else none) else (bif Nat.beq pc 3 then some (.bipush 7, 5, [], 7, 0, []) else none))) else (bif Nat.blt pc 11 then (bif Nat.blt pc 8 then (bif Nat.beq pc 5 then some (.invokevirtual 222, 8, [141, 4, 13, 0, 0, 1], 0, 0, []) else none) else (bif Nat.beq pc 8 then some (.ifCond .ne 6, 11, [14], 0, 0, []) else none)) else (bif Nat.blt pc 13 then (bif Nat.beq pc 11 then some (.bipush (-2), 13, [], (-2), 0, []) else none) else (bif Nat.beq pc 13 then some (.ireturn, 14, [0], 0, 0, []) else none)))) else (bif Nat.blt pc 22 then (bif Nat.blt pc 16 then (bif Nat.blt pc 15 then (bif Nat.beq pc 14 then some (.aload_n 0, 15, [0], 0, 0, []) else none) else (bif Nat.beq pc 15 then some (.iload_n 1, 16, [1], 0, 0, []) else none)) else (bif Nat.blt pc 19 then (bif Nat.beq pc 16 then some (.invokevirtual 249, 19, [151, 2, 13, 0, 0, 1], 0, 0, []) else none) else (bif Nat.beq pc 19 then some (.ifCond .ne 6, 22, [25], 0, 0, []) else none))) else (bif Nat.blt pc 25 then (bif Nat.blt pc 24 then (bif Nat.beq pc 22 then some (.bipush (-11), 24, [], (-11), 0, []) else none) else (bif Nat.beq pc 24 then some (.ireturn, 25, [0], 0, 0, []) else none)) else (bif Nat.blt pc 26 then (bif Nat.beq pc 25 then some (.aload_n 0, 26, [0], 0, 0, []) else none) else (bif Nat.beq pc 26 then some (.iload_n 1, 27, [1], 0, 0, []) else none))))) else (bif Nat.blt pc 41 then (bif Nat.blt pc 35 then (bif Nat.blt pc 31 then (bif Nat.blt pc 30 then (bif Nat.beq pc 27 then some (.invokevirtual 252, 30, [153, 2, 13, 0, 0, 1], 0, 0, []) else none) else (bif Nat.beq pc 30 then some (.istore_n 3, 31, [3], 0, 0, []) else none)) else (bif Nat.blt pc 32 then (bif Nat.beq pc 31 then some (.iload_n 2, 32, [2], 0, 0, []) else none) else (bif Nat.beq pc 32 then some (.ifCond .eq 18, 35, [50], 0, 0, []) else none))) else (bif Nat.blt pc 37 then (bif Nat.blt pc 36 then (bif Nat.beq pc 35 then some (.iload_n 3, 36, [3], 0, 0, []) else none) else (bif Nat.beq pc 36 then some (.iload_n 2, 37, [2], 0, 0, []) else none)) else (bif Nat.blt pc 40 then (bif Nat.beq pc 37 then some (.if_icmp .eq 13, 40, [50], 0, 0, []) else none) else (bif Nat.beq pc 40 then some (.iload_n 2, 41, [2], 0, 0, []) else none)))) else (bif Nat.blt pc 47 then (bif Nat.blt pc 45 then (bif Nat.blt pc 42 then (bif Nat.beq pc 41 then some (.iconst 3, 42, [], 3, 0, []) else none) else (bif Nat.beq pc 42 then some (.if_icmp .ne 12, 45, [54], 0, 0, []) else none)) else (bif Nat.blt pc 46 then (bif Nat.beq pc 45 then some (.iload_n 3, 46, [3], 0, 0, []) else none) else (bif Nat.beq pc 46 then some (.iconst 4, 47, [], 4, 0, []) else none))) else (bif Nat.blt pc 51 then (bif Nat.blt pc 50 then (bif Nat.beq pc 47 then some (.if_icmp .ne 7, 50, [54], 0, 0, []) else none) else (bif Nat.beq pc 50 then some (.iload_n 3, 51, [3], 0, 0, []) else none)) else (bif Nat.blt pc 54 then (bif Nat.beq pc 51 then some (.goto 5, 54, [56], 0, 0, []) else none) else (bif Nat.blt pc 56 then (bif Nat.beq pc 54 then some (.bipush (-12), 56, [], (-12), 0, []) else none) else (bif Nat.beq pc 56 then some (.ireturn, 57, [0], 0, 0, []) else none)))))))
theorem okX11_taken : ∀ pc Y, pfX11_taken pc = some Y → OKI m_X11_taken pc Y := fun pc Y => ((bt_node (bt_node (bt_node (bt_node (bt_node (bt_leaf (P := OKI m_X11_taken) oX11_taken_0) (bt_leaf (P := OKI m_X11_taken) oX11_taken_1)) (bt_node (bt_leaf (P := OKI m_X11_taken) oX11_taken_2) (bt_leaf (P := OKI m_X11_taken) oX11_taken_3))) (bt_node (bt_node (bt_leaf (P := OKI m_X11_taken) oX11_taken_5) (bt_leaf (P := OKI m_X11_taken) oX11_taken_8)) (bt_node (bt_leaf (P := OKI m_X11_taken) oX11_taken_11) (bt_leaf (P := OKI m_X11_taken) oX11_taken_13)))) (bt_node (bt_node (bt_node (bt_leaf (P := OKI m_X11_taken) oX11_taken_14) (bt_leaf (P := OKI m_X11_taken) oX11_taken_15)) (bt_node (bt_leaf (P := OKI m_X11_taken) oX11_taken_16) (bt_leaf (P := OKI m_X11_taken) oX11_taken_19))) (bt_node (bt_node (bt_leaf (P := OKI m_X11_taken) oX11_taken_22) (bt_leaf (P := OKI m_X11_taken) oX11_taken_24)) (bt_node (bt_leaf (P := OKI m_X11_taken) oX11_taken_25) (bt_leaf (P := OKI m_X11_taken) oX11_taken_26))))) (bt_node (bt_node (bt_node (bt_node (bt_leaf (P := OKI m_X11_taken) oX11_taken_27) (bt_leaf (P := OKI m_X11_taken) oX11_taken_30)) (bt_node (bt_leaf (P := OKI m_X11_taken) oX11_taken_31) (bt_leaf (P := OKI m_X11_taken) oX11_taken_32))) (bt_node (bt_node (bt_leaf (P := OKI m_X11_taken) oX11_taken_35) (bt_leaf (P := OKI m_X11_taken) oX11_taken_36)) (bt_node (bt_leaf (P := OKI m_X11_taken) oX11_taken_37) (bt_leaf (P := OKI m_X11_taken) oX11_taken_40)))) (bt_node (bt_node (bt_node (bt_leaf (P := OKI m_X11_taken) oX11_taken_41) (bt_leaf (P := OKI m_X11_taken) oX11_taken_42)) (bt_node (bt_leaf (P := OKI m_X11_taken) oX11_taken_45) (bt_leaf (P := OKI m_X11_taken) oX11_taken_46))) (bt_node (bt_node (bt_leaf (P := OKI m_X11_taken) oX11_taken_47) (bt_leaf (P := OKI m_X11_taken) oX11_taken_50)) (bt_node (bt_leaf (P := OKI m_X11_taken) oX11_taken_51) (bt_node (bt_leaf (P := OKI m_X11_taken) oX11_taken_54) (bt_leaf (P := OKI m_X11_taken) oX11_taken_56))))))) : pfX11_taken pc = some Y → OKI m_X11_taken pc Y)
def stpX11_taken (pc : Nat) : Option (List Bool) := (bif Nat.blt pc 54 then (bif Nat.beq pc 50 then some [false, false, false, true] else none) else (bif Nat.blt pc 56 then (bif Nat.beq pc 54 then some [false, false, false, false] else none) else (bif Nat.beq pc 56 then some [false, false, false, false] else none)))
def bX11_taken_0 (d rc rs : Nat) (a1 : Int32) (a2 : Int32) (σ : XH) (Q : XV → XH → Prop) : Prop :=
  ((1 ≤ d ∧ Ec (d - 1) 0 0 m_X11_in [vR (some (12, 0)), vI a2, vI 0, vI 7] σ (kI fun x2 h1 => ((x2 = 0 → Q (vI (-2)) h1) ∧ (¬ x2 = 0 → ((1 ≤ d ∧ Ec (d - 1) 0 0 m_X11_isReading [vR (some (12, 0)), vI a1] h1 (kI fun x4 h3 => ((x4 = 0 → Q (vI (-11)) h3) ∧ (¬ x4 = 0 → ((1 ≤ d ∧ Ec (d - 1) 0 0 m_X11_nowKind [vR (some (12, 0)), vI a1] h3 (kI fun x6 h5 => ((a2 = 0 → Ex d rc rs m_X11_taken 50 [vU, vU, vU, vI x6] [] h5 Q) ∧ (¬ a2 = 0 → ((x6 = a2 → Ex d rc rs m_X11_taken 50 [vU, vU, vU, vI x6] [] h5 Q) ∧ (¬ x6 = a2 → ((a2 = 3 → ((x6 = 4 → Ex d rc rs m_X11_taken 50 [vU, vU, vU, vI x6] [] h5 Q) ∧ (¬ x6 = 4 → Ex d rc rs m_X11_taken 54 [vU, vU, vU, vU] [] h5 Q))) ∧ (¬ a2 = 3 → Ex d rc rs m_X11_taken 54 [vU, vU, vU, vU] [] h5 Q)))))))))))))))))))
theorem sX11_taken_0 {d rc rs : Nat} {a1 : Int32} {a2 : Int32} {σ : XH} {Q : XV → XH → Prop} (h : bX11_taken_0 d rc rs a1 a2 σ Q) : Ex d rc rs m_X11_taken 0 [vR (some (12, 0)), vI a1, vI a2, vU] [] σ Q :=
  xtree_sound (stop := stpX11_taken) okX11_taken 27 _ _ _ _ _ _ h
def bX11_taken_50 (d rc rs : Nat) (l3 : Int32) (σ : XH) (Q : XV → XH → Prop) : Prop :=
  Ex d rc rs m_X11_taken 56 [vU, vU, vU, vU] [vI l3] σ Q
theorem sX11_taken_50 {d rc rs : Nat} {l3 : Int32} {σ : XH} {Q : XV → XH → Prop} (h : bX11_taken_50 d rc rs l3 σ Q) : Ex d rc rs m_X11_taken 50 [vU, vU, vU, vI l3] [] σ Q :=
  xtree_sound (stop := stpX11_taken) okX11_taken 4 _ _ _ _ _ _ h
def bX11_taken_54 (d rc rs : Nat)  (σ : XH) (Q : XV → XH → Prop) : Prop :=
  Ex d rc rs m_X11_taken 56 [vU, vU, vU, vU] [vI (-12)] σ Q
theorem sX11_taken_54 {d rc rs : Nat}  {σ : XH} {Q : XV → XH → Prop} (h : bX11_taken_54 d rc rs  σ Q) : Ex d rc rs m_X11_taken 54 [vU, vU, vU, vU] [] σ Q :=
  xtree_sound (stop := stpX11_taken) okX11_taken 3 _ _ _ _ _ _ h
def bX11_taken_56 (d rc rs : Nat) (q0 : Int32) (σ : XH) (Q : XV → XH → Prop) : Prop :=
  Q (vI q0) σ
theorem sX11_taken_56 {d rc rs : Nat} {q0 : Int32} {σ : XH} {Q : XV → XH → Prop} (h : bX11_taken_56 d rc rs q0 σ Q) : Ex d rc rs m_X11_taken 56 [vU, vU, vU, vU] [vI q0] σ Q :=
  xtree_sound (stop := stpX11_taken) okX11_taken 3 _ _ _ _ _ _ h
/-! SpotTimersModel.count(I)I -/
theorem dX11_count_0 : decode cX11_count 0 = .ok (.iload_n 1, 1) := by decide +kernel
theorem dX11_count_1 : decode cX11_count 1 = .ok (.tableswitch 96 0 8 #[51, 56, 61, 66, 71, 76, 81, 86, 91], 51) := by decide +kernel
theorem dX11_count_52 : decode cX11_count 52 = .ok (.aload_n 0, 1) := by decide +kernel
theorem dX11_count_53 : decode cX11_count 53 = .ok (.getfield 7, 3) := by decide +kernel
theorem dX11_count_56 : decode cX11_count 56 = .ok (.ireturn, 1) := by decide +kernel
theorem dX11_count_57 : decode cX11_count 57 = .ok (.aload_n 0, 1) := by decide +kernel
theorem dX11_count_58 : decode cX11_count 58 = .ok (.getfield 13, 3) := by decide +kernel
theorem dX11_count_61 : decode cX11_count 61 = .ok (.ireturn, 1) := by decide +kernel
theorem dX11_count_62 : decode cX11_count 62 = .ok (.aload_n 0, 1) := by decide +kernel
theorem dX11_count_63 : decode cX11_count 63 = .ok (.getfield 16, 3) := by decide +kernel
theorem dX11_count_66 : decode cX11_count 66 = .ok (.ireturn, 1) := by decide +kernel
theorem dX11_count_67 : decode cX11_count 67 = .ok (.aload_n 0, 1) := by decide +kernel
theorem dX11_count_68 : decode cX11_count 68 = .ok (.getfield 35, 3) := by decide +kernel
theorem dX11_count_71 : decode cX11_count 71 = .ok (.ireturn, 1) := by decide +kernel
theorem dX11_count_72 : decode cX11_count 72 = .ok (.aload_n 0, 1) := by decide +kernel
theorem dX11_count_73 : decode cX11_count 73 = .ok (.getfield 71, 3) := by decide +kernel
theorem dX11_count_76 : decode cX11_count 76 = .ok (.ireturn, 1) := by decide +kernel
theorem dX11_count_77 : decode cX11_count 77 = .ok (.aload_n 0, 1) := by decide +kernel
theorem dX11_count_78 : decode cX11_count 78 = .ok (.getfield 86, 3) := by decide +kernel
theorem dX11_count_81 : decode cX11_count 81 = .ok (.ireturn, 1) := by decide +kernel
theorem dX11_count_82 : decode cX11_count 82 = .ok (.aload_n 0, 1) := by decide +kernel
theorem dX11_count_83 : decode cX11_count 83 = .ok (.getfield 89, 3) := by decide +kernel
theorem dX11_count_86 : decode cX11_count 86 = .ok (.ireturn, 1) := by decide +kernel
theorem dX11_count_87 : decode cX11_count 87 = .ok (.aload_n 0, 1) := by decide +kernel
theorem dX11_count_88 : decode cX11_count 88 = .ok (.getfield 191, 3) := by decide +kernel
theorem dX11_count_91 : decode cX11_count 91 = .ok (.ireturn, 1) := by decide +kernel
theorem dX11_count_92 : decode cX11_count 92 = .ok (.aload_n 0, 1) := by decide +kernel
theorem dX11_count_93 : decode cX11_count 93 = .ok (.getfield 203, 3) := by decide +kernel
theorem dX11_count_96 : decode cX11_count 96 = .ok (.ireturn, 1) := by decide +kernel
theorem dX11_count_97 : decode cX11_count 97 = .ok (.bipush (-2), 2) := by decide +kernel
theorem dX11_count_99 : decode cX11_count 99 = .ok (.ireturn, 1) := by decide +kernel
theorem oX11_count_0 : OKI 240 0 (.iload_n 1, 1, [1], 0, 0, []) := And.intro dX11_count_0 (And.intro rfl (rfl))
theorem oX11_count_1 : OKI 240 1 (.tableswitch 96 0 8 #[51, 56, 61, 66, 71, 76, 81, 86, 91], 52, [97], 0, 0, [(0, 52), (1, 57), (2, 62), (3, 67), (4, 72), (5, 77), (6, 82), (7, 87), (8, 92)]) := And.intro ⟨_, dX11_count_1⟩ (by decide +kernel)
theorem oX11_count_52 : OKI 240 52 (.aload_n 0, 53, [0], 0, 0, []) := And.intro dX11_count_52 (And.intro rfl (rfl))
theorem oX11_count_53 : OKI 240 53 (.getfield 7, 56, [12, 0, 0], 0, 0, []) := And.intro dX11_count_53 (And.intro rfl (⟨(RX11, TX11, 69), "SpotTimersModel", rfl, by decide, tm_5 _ (List.mem_of_getElem? (i := 206) rfl) rfl, Or.inl rfl, Or.inr (Or.inr (And.intro rfl (Or.inl rfl)))⟩))
theorem oX11_count_56 : OKI 240 56 (.ireturn, 57, [0], 0, 0, []) := And.intro dX11_count_56 (Or.inl (And.intro rfl rfl))
theorem oX11_count_57 : OKI 240 57 (.aload_n 0, 58, [0], 0, 0, []) := And.intro dX11_count_57 (And.intro rfl (rfl))
theorem oX11_count_58 : OKI 240 58 (.getfield 13, 61, [12, 1, 0], 0, 0, []) := And.intro dX11_count_58 (And.intro rfl (⟨(RX11, TX11, 69), "SpotTimersModel", rfl, by decide, tm_5 _ (List.mem_of_getElem? (i := 207) rfl) rfl, Or.inl rfl, Or.inr (Or.inr (And.intro rfl (Or.inl rfl)))⟩))
theorem oX11_count_61 : OKI 240 61 (.ireturn, 62, [0], 0, 0, []) := And.intro dX11_count_61 (Or.inl (And.intro rfl rfl))
theorem oX11_count_62 : OKI 240 62 (.aload_n 0, 63, [0], 0, 0, []) := And.intro dX11_count_62 (And.intro rfl (rfl))
theorem oX11_count_63 : OKI 240 63 (.getfield 16, 66, [12, 2, 0], 0, 0, []) := And.intro dX11_count_63 (And.intro rfl (⟨(RX11, TX11, 69), "SpotTimersModel", rfl, by decide, tm_5 _ (List.mem_of_getElem? (i := 208) rfl) rfl, Or.inl rfl, Or.inr (Or.inr (And.intro rfl (Or.inl rfl)))⟩))
theorem oX11_count_66 : OKI 240 66 (.ireturn, 67, [0], 0, 0, []) := And.intro dX11_count_66 (Or.inl (And.intro rfl rfl))
theorem oX11_count_67 : OKI 240 67 (.aload_n 0, 68, [0], 0, 0, []) := And.intro dX11_count_67 (And.intro rfl (rfl))
theorem oX11_count_68 : OKI 240 68 (.getfield 35, 71, [12, 8, 0], 0, 0, []) := And.intro dX11_count_68 (And.intro rfl (⟨(RX11, TX11, 69), "SpotTimersModel", rfl, by decide, tm_5 _ (List.mem_of_getElem? (i := 214) rfl) rfl, Or.inl rfl, Or.inr (Or.inr (And.intro rfl (Or.inl rfl)))⟩))
theorem oX11_count_71 : OKI 240 71 (.ireturn, 72, [0], 0, 0, []) := And.intro dX11_count_71 (Or.inl (And.intro rfl rfl))
theorem oX11_count_72 : OKI 240 72 (.aload_n 0, 73, [0], 0, 0, []) := And.intro dX11_count_72 (And.intro rfl (rfl))
theorem oX11_count_73 : OKI 240 73 (.getfield 71, 76, [12, 20, 0], 0, 0, []) := And.intro dX11_count_73 (And.intro rfl (⟨(RX11, TX11, 69), "SpotTimersModel", rfl, by decide, tm_5 _ (List.mem_of_getElem? (i := 226) rfl) rfl, Or.inl rfl, Or.inr (Or.inr (And.intro rfl (Or.inl rfl)))⟩))
theorem oX11_count_76 : OKI 240 76 (.ireturn, 77, [0], 0, 0, []) := And.intro dX11_count_76 (Or.inl (And.intro rfl rfl))
theorem oX11_count_77 : OKI 240 77 (.aload_n 0, 78, [0], 0, 0, []) := And.intro dX11_count_77 (And.intro rfl (rfl))
theorem oX11_count_78 : OKI 240 78 (.getfield 86, 81, [12, 25, 0], 0, 0, []) := And.intro dX11_count_78 (And.intro rfl (⟨(RX11, TX11, 69), "SpotTimersModel", rfl, by decide, tm_5 _ (List.mem_of_getElem? (i := 231) rfl) rfl, Or.inl rfl, Or.inr (Or.inr (And.intro rfl (Or.inl rfl)))⟩))
theorem oX11_count_81 : OKI 240 81 (.ireturn, 82, [0], 0, 0, []) := And.intro dX11_count_81 (Or.inl (And.intro rfl rfl))
theorem oX11_count_82 : OKI 240 82 (.aload_n 0, 83, [0], 0, 0, []) := And.intro dX11_count_82 (And.intro rfl (rfl))
theorem oX11_count_83 : OKI 240 83 (.getfield 89, 86, [12, 26, 0], 0, 0, []) := And.intro dX11_count_83 (And.intro rfl (⟨(RX11, TX11, 69), "SpotTimersModel", rfl, by decide, tm_5 _ (List.mem_of_getElem? (i := 232) rfl) rfl, Or.inl rfl, Or.inr (Or.inr (And.intro rfl (Or.inl rfl)))⟩))
theorem oX11_count_86 : OKI 240 86 (.ireturn, 87, [0], 0, 0, []) := And.intro dX11_count_86 (Or.inl (And.intro rfl rfl))
theorem oX11_count_87 : OKI 240 87 (.aload_n 0, 88, [0], 0, 0, []) := And.intro dX11_count_87 (And.intro rfl (rfl))
theorem oX11_count_88 : OKI 240 88 (.getfield 191, 91, [12, 59, 0], 0, 0, []) := And.intro dX11_count_88 (And.intro rfl (⟨(RX11, TX11, 69), "SpotTimersModel", rfl, by decide, tm_6 _ (List.mem_of_getElem? (i := 25) rfl) rfl, Or.inl rfl, Or.inr (Or.inr (And.intro rfl (Or.inl rfl)))⟩))
theorem oX11_count_91 : OKI 240 91 (.ireturn, 92, [0], 0, 0, []) := And.intro dX11_count_91 (Or.inl (And.intro rfl rfl))
theorem oX11_count_92 : OKI 240 92 (.aload_n 0, 93, [0], 0, 0, []) := And.intro dX11_count_92 (And.intro rfl (rfl))
theorem oX11_count_93 : OKI 240 93 (.getfield 203, 96, [12, 63, 0], 0, 0, []) := And.intro dX11_count_93 (And.intro rfl (⟨(RX11, TX11, 69), "SpotTimersModel", rfl, by decide, tm_6 _ (List.mem_of_getElem? (i := 29) rfl) rfl, Or.inl rfl, Or.inr (Or.inr (And.intro rfl (Or.inl rfl)))⟩))
theorem oX11_count_96 : OKI 240 96 (.ireturn, 97, [0], 0, 0, []) := And.intro dX11_count_96 (Or.inl (And.intro rfl rfl))
theorem oX11_count_97 : OKI 240 97 (.bipush (-2), 99, [], (-2), 0, []) := And.intro dX11_count_97 (And.intro rfl (by decide +kernel))
theorem oX11_count_99 : OKI 240 99 (.ireturn, 100, [0], 0, 0, []) := And.intro dX11_count_99 (Or.inl (And.intro rfl rfl))
def pfX11_count (pc : Nat) : Option XE := (bif Nat.blt pc 73 then (bif Nat.blt pc 61 then (bif Nat.blt pc 53 then (bif Nat.blt pc 1 then (bif Nat.beq pc 0 then some (.iload_n 1, 1, [1], 0, 0, []) else none) else (bif Nat.blt pc 52 then (bif Nat.beq pc 1 then some (.tableswitch 96 0 8 #[51, 56, 61, 66, 71, 76, 81, 86, 91], 52, [97], 0, 0, [(0, 52), (1, 57), (2, 62), (3, 67), (4, 72), (5, 77), (6, 82), (7, 87), (8, 92)]) else none) else (bif Nat.beq pc 52 then some (.aload_n 0, 53, [0], 0, 0, []) else none))) else (bif Nat.blt pc 57 then (bif Nat.blt pc 56 then (bif Nat.beq pc 53 then some (.getfield 7, 56, [12, 0, 0], 0, 0, []) else none) else (bif Nat.beq pc 56 then some (.ireturn, 57, [0], 0, 0, []) else none)) else (bif Nat.blt pc 58 then (bif Nat.beq pc 57 then some (.aload_n 0, 58, [0], 0, 0, []) else none) else (bif Nat.beq pc 58 then some (.getfield 13, 61, [12, 1, 0], 0, 0, []) else none)))) else (bif Nat.blt pc 67 then (bif Nat.blt pc 63 then (bif Nat.blt pc 62 then (bif Nat.beq pc 61 then some (.ireturn, 62, [0], 0, 0, []) else none) else (bif Nat.beq pc 62 then some (.aload_n 0, 63, [0], 0, 0, []) else none)) else (bif Nat.blt pc 66 then (bif Nat.beq pc 63 then some (.getfield 16, 66, [12, 2, 0], 0, 0, []) else none) else (bif Nat.beq pc 66 then some (.ireturn, 67, [0], 0, 0, []) else none))) else (bif Nat.blt pc 71 then (bif Nat.blt pc 68 then (bif Nat.beq pc 67 then some (.aload_n 0, 68, [0], 0, 0, []) else none) else (bif Nat.beq pc 68 then some (.getfield 35, 71, [12, 8, 0], 0, 0, []) else none)) else (bif Nat.blt pc 72 then (bif Nat.beq pc 71 then some (.ireturn, 72, [0], 0, 0, []) else none) else (bif Nat.beq pc 72 then some (.aload_n 0, 73, [0], 0, 0, []) else none))))) else (bif Nat.blt pc 87 then (bif Nat.blt pc 81 then (bif Nat.blt pc 77 then (bif Nat.blt pc 76 then (bif Nat.beq pc 73 then some (.getfield 71, 76, [12, 20, 0], 0, 0, []) else none) else (bif Nat.beq pc 76 then some (.ireturn, 77, [0], 0, 0, []) else none)) else (bif Nat.blt pc 78 then (bif Nat.beq pc 77 then some (.aload_n 0, 78, [0], 0, 0, []) else none) else (bif Nat.beq pc 78 then some (.getfield 86, 81, [12, 25, 0], 0, 0, []) else none))) else (bif Nat.blt pc 83 then (bif Nat.blt pc 82 then (bif Nat.beq pc 81 then some (.ireturn, 82, [0], 0, 0, []) else none) else (bif Nat.beq pc 82 then some (.aload_n 0, 83, [0], 0, 0, []) else none)) else (bif Nat.blt pc 86 then (bif Nat.beq pc 83 then some (.getfield 89, 86, [12, 26, 0], 0, 0, []) else none) else (bif Nat.beq pc 86 then some (.ireturn, 87, [0], 0, 0, []) else none)))) else (bif Nat.blt pc 93 then (bif Nat.blt pc 91 then (bif Nat.blt pc 88 then (bif Nat.beq pc 87 then some (.aload_n 0, 88, [0], 0, 0, []) else none) else (bif Nat.beq pc 88 then some (.getfield 191, 91, [12, 59, 0], 0, 0, []) else none)) else (bif Nat.blt pc 92 then (bif Nat.beq pc 91 then some (.ireturn, 92, [0], 0, 0, []) else none) else (bif Nat.beq pc 92 then some (.aload_n 0, 93, [0], 0, 0, []) else none))) else (bif Nat.blt pc 97 then (bif Nat.blt pc 96 then (bif Nat.beq pc 93 then some (.getfield 203, 96, [12, 63, 0], 0, 0, []) else none) else (bif Nat.beq pc 96 then some (.ireturn, 97, [0], 0, 0, []) else none)) else (bif Nat.blt pc 99 then (bif Nat.beq pc 97 then some (.bipush (-2), 99, [], (-2), 0, []) else none) else (bif Nat.beq pc 99 then some (.ireturn, 100, [0], 0, 0, []) else none))))))
theorem okX11_count : ∀ pc Y, pfX11_count pc = some Y → OKI m_X11_count pc Y := fun pc Y => ((bt_node (bt_node (bt_node (bt_node (bt_leaf (P := OKI m_X11_count) oX11_count_0) (bt_node (bt_leaf (P := OKI m_X11_count) oX11_count_1) (bt_leaf (P := OKI m_X11_count) oX11_count_52))) (bt_node (bt_node (bt_leaf (P := OKI m_X11_count) oX11_count_53) (bt_leaf (P := OKI m_X11_count) oX11_count_56)) (bt_node (bt_leaf (P := OKI m_X11_count) oX11_count_57) (bt_leaf (P := OKI m_X11_count) oX11_count_58)))) (bt_node (bt_node (bt_node (bt_leaf (P := OKI m_X11_count) oX11_count_61) (bt_leaf (P := OKI m_X11_count) oX11_count_62)) (bt_node (bt_leaf (P := OKI m_X11_count) oX11_count_63) (bt_leaf (P := OKI m_X11_count) oX11_count_66))) (bt_node (bt_node (bt_leaf (P := OKI m_X11_count) oX11_count_67) (bt_leaf (P := OKI m_X11_count) oX11_count_68)) (bt_node (bt_leaf (P := OKI m_X11_count) oX11_count_71) (bt_leaf (P := OKI m_X11_count) oX11_count_72))))) (bt_node (bt_node (bt_node (bt_node (bt_leaf (P := OKI m_X11_count) oX11_count_73) (bt_leaf (P := OKI m_X11_count) oX11_count_76)) (bt_node (bt_leaf (P := OKI m_X11_count) oX11_count_77) (bt_leaf (P := OKI m_X11_count) oX11_count_78))) (bt_node (bt_node (bt_leaf (P := OKI m_X11_count) oX11_count_81) (bt_leaf (P := OKI m_X11_count) oX11_count_82)) (bt_node (bt_leaf (P := OKI m_X11_count) oX11_count_83) (bt_leaf (P := OKI m_X11_count) oX11_count_86)))) (bt_node (bt_node (bt_node (bt_leaf (P := OKI m_X11_count) oX11_count_87) (bt_leaf (P := OKI m_X11_count) oX11_count_88)) (bt_node (bt_leaf (P := OKI m_X11_count) oX11_count_91) (bt_leaf (P := OKI m_X11_count) oX11_count_92))) (bt_node (bt_node (bt_leaf (P := OKI m_X11_count) oX11_count_93) (bt_leaf (P := OKI m_X11_count) oX11_count_96)) (bt_node (bt_leaf (P := OKI m_X11_count) oX11_count_97) (bt_leaf (P := OKI m_X11_count) oX11_count_99)))))) : pfX11_count pc = some Y → OKI m_X11_count pc Y)
def stpX11_count (pc : Nat) : Option (List Bool) := (bif Nat.blt pc 77 then (bif Nat.blt pc 62 then (bif Nat.blt pc 57 then (bif Nat.beq pc 52 then some [true, false] else none) else (bif Nat.beq pc 57 then some [true, false] else none)) else (bif Nat.blt pc 67 then (bif Nat.beq pc 62 then some [true, false] else none) else (bif Nat.blt pc 72 then (bif Nat.beq pc 67 then some [true, false] else none) else (bif Nat.beq pc 72 then some [true, false] else none)))) else (bif Nat.blt pc 87 then (bif Nat.blt pc 82 then (bif Nat.beq pc 77 then some [true, false] else none) else (bif Nat.beq pc 82 then some [true, false] else none)) else (bif Nat.blt pc 92 then (bif Nat.beq pc 87 then some [true, false] else none) else (bif Nat.blt pc 97 then (bif Nat.beq pc 92 then some [true, false] else none) else (bif Nat.beq pc 97 then some [false, false] else none)))))
def bX11_count_0 (d rc rs : Nat) (a1 : Int32) (σ : XH) (Q : XV → XH → Prop) : Prop :=
  ((a1 = 0 → Ex d rc rs m_X11_count 52 [vR (some (12, 0)), vU] [] σ Q) ∧ (¬ a1 = 0 → ((a1 = 1 → Ex d rc rs m_X11_count 57 [vR (some (12, 0)), vU] [] σ Q) ∧ (¬ a1 = 1 → ((a1 = 2 → Ex d rc rs m_X11_count 62 [vR (some (12, 0)), vU] [] σ Q) ∧ (¬ a1 = 2 → ((a1 = 3 → Ex d rc rs m_X11_count 67 [vR (some (12, 0)), vU] [] σ Q) ∧ (¬ a1 = 3 → ((a1 = 4 → Ex d rc rs m_X11_count 72 [vR (some (12, 0)), vU] [] σ Q) ∧ (¬ a1 = 4 → ((a1 = 5 → Ex d rc rs m_X11_count 77 [vR (some (12, 0)), vU] [] σ Q) ∧ (¬ a1 = 5 → ((a1 = 6 → Ex d rc rs m_X11_count 82 [vR (some (12, 0)), vU] [] σ Q) ∧ (¬ a1 = 6 → ((a1 = 7 → Ex d rc rs m_X11_count 87 [vR (some (12, 0)), vU] [] σ Q) ∧ (¬ a1 = 7 → ((a1 = 8 → Ex d rc rs m_X11_count 92 [vR (some (12, 0)), vU] [] σ Q) ∧ (¬ a1 = 8 → Ex d rc rs m_X11_count 97 [vU, vU] [] σ Q))))))))))))))))))
theorem sX11_count_0 {d rc rs : Nat} {a1 : Int32} {σ : XH} {Q : XV → XH → Prop} (h : bX11_count_0 d rc rs a1 σ Q) : Ex d rc rs m_X11_count 0 [vR (some (12, 0)), vI a1] [] σ Q :=
  xtree_sound (stop := stpX11_count) okX11_count 4 _ _ _ _ _ _ h
def bX11_count_52 (d rc rs : Nat)  (σ : XH) (Q : XV → XH → Prop) : Prop :=
  (Q (vI (hi σ 12 0 0)) σ)
theorem sX11_count_52 {d rc rs : Nat}  {σ : XH} {Q : XV → XH → Prop} (h : bX11_count_52 d rc rs  σ Q) : Ex d rc rs m_X11_count 52 [vR (some (12, 0)), vU] [] σ Q :=
  xtree_sound (stop := stpX11_count) okX11_count 5 _ _ _ _ _ _ h
def bX11_count_57 (d rc rs : Nat)  (σ : XH) (Q : XV → XH → Prop) : Prop :=
  (Q (vI (hi σ 12 0 1)) σ)
theorem sX11_count_57 {d rc rs : Nat}  {σ : XH} {Q : XV → XH → Prop} (h : bX11_count_57 d rc rs  σ Q) : Ex d rc rs m_X11_count 57 [vR (some (12, 0)), vU] [] σ Q :=
  xtree_sound (stop := stpX11_count) okX11_count 5 _ _ _ _ _ _ h
def bX11_count_62 (d rc rs : Nat)  (σ : XH) (Q : XV → XH → Prop) : Prop :=
  (Q (vI (hi σ 12 0 2)) σ)
theorem sX11_count_62 {d rc rs : Nat}  {σ : XH} {Q : XV → XH → Prop} (h : bX11_count_62 d rc rs  σ Q) : Ex d rc rs m_X11_count 62 [vR (some (12, 0)), vU] [] σ Q :=
  xtree_sound (stop := stpX11_count) okX11_count 5 _ _ _ _ _ _ h
def bX11_count_67 (d rc rs : Nat)  (σ : XH) (Q : XV → XH → Prop) : Prop :=
  (Q (vI (hi σ 12 0 8)) σ)
theorem sX11_count_67 {d rc rs : Nat}  {σ : XH} {Q : XV → XH → Prop} (h : bX11_count_67 d rc rs  σ Q) : Ex d rc rs m_X11_count 67 [vR (some (12, 0)), vU] [] σ Q :=
  xtree_sound (stop := stpX11_count) okX11_count 5 _ _ _ _ _ _ h
def bX11_count_72 (d rc rs : Nat)  (σ : XH) (Q : XV → XH → Prop) : Prop :=
  (Q (vI (hi σ 12 0 20)) σ)
theorem sX11_count_72 {d rc rs : Nat}  {σ : XH} {Q : XV → XH → Prop} (h : bX11_count_72 d rc rs  σ Q) : Ex d rc rs m_X11_count 72 [vR (some (12, 0)), vU] [] σ Q :=
  xtree_sound (stop := stpX11_count) okX11_count 5 _ _ _ _ _ _ h
def bX11_count_77 (d rc rs : Nat)  (σ : XH) (Q : XV → XH → Prop) : Prop :=
  (Q (vI (hi σ 12 0 25)) σ)
theorem sX11_count_77 {d rc rs : Nat}  {σ : XH} {Q : XV → XH → Prop} (h : bX11_count_77 d rc rs  σ Q) : Ex d rc rs m_X11_count 77 [vR (some (12, 0)), vU] [] σ Q :=
  xtree_sound (stop := stpX11_count) okX11_count 5 _ _ _ _ _ _ h
def bX11_count_82 (d rc rs : Nat)  (σ : XH) (Q : XV → XH → Prop) : Prop :=
  (Q (vI (hi σ 12 0 26)) σ)
theorem sX11_count_82 {d rc rs : Nat}  {σ : XH} {Q : XV → XH → Prop} (h : bX11_count_82 d rc rs  σ Q) : Ex d rc rs m_X11_count 82 [vR (some (12, 0)), vU] [] σ Q :=
  xtree_sound (stop := stpX11_count) okX11_count 5 _ _ _ _ _ _ h
def bX11_count_87 (d rc rs : Nat)  (σ : XH) (Q : XV → XH → Prop) : Prop :=
  (Q (vI (hi σ 12 0 59)) σ)
theorem sX11_count_87 {d rc rs : Nat}  {σ : XH} {Q : XV → XH → Prop} (h : bX11_count_87 d rc rs  σ Q) : Ex d rc rs m_X11_count 87 [vR (some (12, 0)), vU] [] σ Q :=
  xtree_sound (stop := stpX11_count) okX11_count 5 _ _ _ _ _ _ h
def bX11_count_92 (d rc rs : Nat)  (σ : XH) (Q : XV → XH → Prop) : Prop :=
  (Q (vI (hi σ 12 0 63)) σ)
theorem sX11_count_92 {d rc rs : Nat}  {σ : XH} {Q : XV → XH → Prop} (h : bX11_count_92 d rc rs  σ Q) : Ex d rc rs m_X11_count 92 [vR (some (12, 0)), vU] [] σ Q :=
  xtree_sound (stop := stpX11_count) okX11_count 5 _ _ _ _ _ _ h
def bX11_count_97 (d rc rs : Nat)  (σ : XH) (Q : XV → XH → Prop) : Prop :=
  Q (vI (-2)) σ
theorem sX11_count_97 {d rc rs : Nat}  {σ : XH} {Q : XV → XH → Prop} (h : bX11_count_97 d rc rs  σ Q) : Ex d rc rs m_X11_count 97 [vU, vU] [] σ Q :=
  xtree_sound (stop := stpX11_count) okX11_count 4 _ _ _ _ _ _ h
/-! SpotTimersModel.isTape(I)Z -/
theorem dX11_isTape_0 : decode cX11_isTape 0 = .ok (.aload_n 0, 1) := by decide +kernel
theorem dX11_isTape_1 : decode cX11_isTape 1 = .ok (.iload_n 1, 1) := by decide +kernel
theorem dX11_isTape_2 : decode cX11_isTape 2 = .ok (.iconst 0, 1) := by decide +kernel
theorem dX11_isTape_3 : decode cX11_isTape 3 = .ok (.iconst 5, 1) := by decide +kernel
theorem dX11_isTape_4 : decode cX11_isTape 4 = .ok (.invokevirtual 222, 3) := by decide +kernel
theorem dX11_isTape_7 : decode cX11_isTape 7 = .ok (.ireturn, 1) := by decide +kernel
theorem oX11_isTape_0 : OKI 241 0 (.aload_n 0, 1, [0], 0, 0, []) := And.intro dX11_isTape_0 (And.intro rfl (rfl))
theorem oX11_isTape_1 : OKI 241 1 (.iload_n 1, 2, [1], 0, 0, []) := And.intro dX11_isTape_1 (And.intro rfl (rfl))
theorem oX11_isTape_2 : OKI 241 2 (.iconst 0, 3, [], 0, 0, []) := And.intro dX11_isTape_2 (And.intro rfl (by decide +kernel))
theorem oX11_isTape_3 : OKI 241 3 (.iconst 5, 4, [], 5, 0, []) := And.intro dX11_isTape_3 (And.intro rfl (by decide +kernel))
theorem oX11_isTape_4 : OKI 241 4 (.invokevirtual 222, 7, [141, 4, 13, 0, 0, 1], 0, 0, []) := And.intro dX11_isTape_4 (And.intro rfl (And.intro (by decide) (And.intro (by decide) (And.intro mo_X11_in (And.intro (tm_6 _ (List.mem_of_getElem? (i := 179) rfl) rfl) (And.intro (tm_6 _ (List.mem_of_getElem? (i := 181) rfl) rfl) (And.intro (pm_3 _ (List.mem_of_getElem? (i := 8) rfl)) (Or.inl ⟨(RX11, TX11, 69), rfl, rfl⟩))))))))
theorem oX11_isTape_7 : OKI 241 7 (.ireturn, 8, [3], 0, 0, []) := And.intro dX11_isTape_7 (Or.inr (Or.inl (And.intro rfl rfl)))
def pfX11_isTape (pc : Nat) : Option XE := (bif Nat.blt pc 3 then (bif Nat.blt pc 1 then (bif Nat.beq pc 0 then some (.aload_n 0, 1, [0], 0, 0, []) else none) else (bif Nat.blt pc 2 then (bif Nat.beq pc 1 then some (.iload_n 1, 2, [1], 0, 0, []) else none) else (bif Nat.beq pc 2 then some (.iconst 0, 3, [], 0, 0, []) else none))) else (bif Nat.blt pc 4 then (bif Nat.beq pc 3 then some (.iconst 5, 4, [], 5, 0, []) else none) else (bif Nat.blt pc 7 then (bif Nat.beq pc 4 then some (.invokevirtual 222, 7, [141, 4, 13, 0, 0, 1], 0, 0, []) else none) else (bif Nat.beq pc 7 then some (.ireturn, 8, [3], 0, 0, []) else none))))
theorem okX11_isTape : ∀ pc Y, pfX11_isTape pc = some Y → OKI m_X11_isTape pc Y := fun pc Y => ((bt_node (bt_node (bt_leaf (P := OKI m_X11_isTape) oX11_isTape_0) (bt_node (bt_leaf (P := OKI m_X11_isTape) oX11_isTape_1) (bt_leaf (P := OKI m_X11_isTape) oX11_isTape_2))) (bt_node (bt_leaf (P := OKI m_X11_isTape) oX11_isTape_3) (bt_node (bt_leaf (P := OKI m_X11_isTape) oX11_isTape_4) (bt_leaf (P := OKI m_X11_isTape) oX11_isTape_7)))) : pfX11_isTape pc = some Y → OKI m_X11_isTape pc Y)
def stpX11_isTape (_ : Nat) : Option (List Bool) := none
def bX11_isTape_0 (d rc rs : Nat) (a1 : Int32) (σ : XH) (Q : XV → XH → Prop) : Prop :=
  ((1 ≤ d ∧ Ec (d - 1) 0 0 m_X11_in [vR (some (12, 0)), vI a1, vI 0, vI 5] σ (kI fun x2 h1 => ((x2 = 0 ∨ x2 = 1) ∧ Q (vI x2) h1))))
theorem sX11_isTape_0 {d rc rs : Nat} {a1 : Int32} {σ : XH} {Q : XV → XH → Prop} (h : bX11_isTape_0 d rc rs a1 σ Q) : Ex d rc rs m_X11_isTape 0 [vR (some (12, 0)), vI a1] [] σ Q :=
  xtree_sound (stop := stpX11_isTape) okX11_isTape 8 _ _ _ _ _ _ h
/-! SpotTimersModel.tape(III)I -/
theorem dX11_tape_0 : decode cX11_tape 0 = .ok (.aload_n 0, 1) := by decide +kernel
theorem dX11_tape_1 : decode cX11_tape 1 = .ok (.iload_n 1, 1) := by decide +kernel
theorem dX11_tape_2 : decode cX11_tape 2 = .ok (.invokevirtual 295, 3) := by decide +kernel
theorem dX11_tape_5 : decode cX11_tape 5 = .ok (.ifCond .ne 5, 3) := by decide +kernel
theorem dX11_tape_8 : decode cX11_tape 8 = .ok (.iconst (-1), 1) := by decide +kernel
theorem dX11_tape_9 : decode cX11_tape 9 = .ok (.ireturn, 1) := by decide +kernel
theorem dX11_tape_10 : decode cX11_tape 10 = .ok (.aload_n 0, 1) := by decide +kernel
theorem dX11_tape_11 : decode cX11_tape 11 = .ok (.iload_n 2, 1) := by decide +kernel
theorem dX11_tape_12 : decode cX11_tape 12 = .ok (.iconst (-1), 1) := by decide +kernel
theorem dX11_tape_13 : decode cX11_tape 13 = .ok (.iconst 3, 1) := by decide +kernel
theorem dX11_tape_14 : decode cX11_tape 14 = .ok (.invokevirtual 222, 3) := by decide +kernel
theorem dX11_tape_17 : decode cX11_tape 17 = .ok (.ifCond .eq 13, 3) := by decide +kernel
theorem dX11_tape_20 : decode cX11_tape 20 = .ok (.iload_n 2, 1) := by decide +kernel
theorem dX11_tape_21 : decode cX11_tape 21 = .ok (.ifCond .lt 12, 3) := by decide +kernel
theorem dX11_tape_24 : decode cX11_tape 24 = .ok (.iload_n 3, 1) := by decide +kernel
theorem dX11_tape_25 : decode cX11_tape 25 = .ok (.bipush 60, 2) := by decide +kernel
theorem dX11_tape_27 : decode cX11_tape 27 = .ok (.if_icmp .le 6, 3) := by decide +kernel
theorem dX11_tape_30 : decode cX11_tape 30 = .ok (.bipush (-2), 2) := by decide +kernel
theorem dX11_tape_32 : decode cX11_tape 32 = .ok (.ireturn, 1) := by decide +kernel
theorem dX11_tape_33 : decode cX11_tape 33 = .ok (.iload_n 2, 1) := by decide +kernel
theorem dX11_tape_34 : decode cX11_tape 34 = .ok (.ifCond .lt 10, 3) := by decide +kernel
theorem dX11_tape_37 : decode cX11_tape 37 = .ok (.iload_n 3, 1) := by decide +kernel
theorem dX11_tape_38 : decode cX11_tape 38 = .ok (.ifCond .ge 6, 3) := by decide +kernel
theorem dX11_tape_41 : decode cX11_tape 41 = .ok (.bipush (-14), 2) := by decide +kernel
theorem dX11_tape_43 : decode cX11_tape 43 = .ok (.ireturn, 1) := by decide +kernel
theorem dX11_tape_44 : decode cX11_tape 44 = .ok (.aload_n 0, 1) := by decide +kernel
theorem dX11_tape_45 : decode cX11_tape 45 = .ok (.getfield 209, 3) := by decide +kernel
theorem dX11_tape_48 : decode cX11_tape 48 = .ok (.iload_n 1, 1) := by decide +kernel
theorem dX11_tape_49 : decode cX11_tape 49 = .ok (.iload_n 2, 1) := by decide +kernel
theorem dX11_tape_50 : decode cX11_tape 50 = .ok (.iastore, 1) := by decide +kernel
theorem dX11_tape_51 : decode cX11_tape 51 = .ok (.aload_n 0, 1) := by decide +kernel
theorem dX11_tape_52 : decode cX11_tape 52 = .ok (.getfield 212, 3) := by decide +kernel
theorem dX11_tape_55 : decode cX11_tape 55 = .ok (.iload_n 1, 1) := by decide +kernel
theorem dX11_tape_56 : decode cX11_tape 56 = .ok (.iload_n 2, 1) := by decide +kernel
theorem dX11_tape_57 : decode cX11_tape 57 = .ok (.ifCond .ge 7, 3) := by decide +kernel
theorem dX11_tape_60 : decode cX11_tape 60 = .ok (.iconst 0, 1) := by decide +kernel
theorem dX11_tape_61 : decode cX11_tape 61 = .ok (.goto 4, 3) := by decide +kernel
theorem dX11_tape_64 : decode cX11_tape 64 = .ok (.iload_n 3, 1) := by decide +kernel
theorem dX11_tape_65 : decode cX11_tape 65 = .ok (.iastore, 1) := by decide +kernel
theorem dX11_tape_66 : decode cX11_tape 66 = .ok (.iconst 0, 1) := by decide +kernel
theorem dX11_tape_67 : decode cX11_tape 67 = .ok (.istore 4, 2) := by decide +kernel
theorem dX11_tape_69 : decode cX11_tape 69 = .ok (.iload 4, 2) := by decide +kernel
theorem dX11_tape_71 : decode cX11_tape 71 = .ok (.bipush 60, 2) := by decide +kernel
theorem dX11_tape_73 : decode cX11_tape 73 = .ok (.if_icmp .ge 22, 3) := by decide +kernel
theorem dX11_tape_76 : decode cX11_tape 76 = .ok (.aload_n 0, 1) := by decide +kernel
theorem dX11_tape_77 : decode cX11_tape 77 = .ok (.getfield 215, 3) := by decide +kernel
theorem dX11_tape_80 : decode cX11_tape 80 = .ok (.bipush 60, 2) := by decide +kernel
theorem dX11_tape_82 : decode cX11_tape 82 = .ok (.iload_n 1, 1) := by decide +kernel
theorem dX11_tape_83 : decode cX11_tape 83 = .ok (.imul, 1) := by decide +kernel
theorem dX11_tape_84 : decode cX11_tape 84 = .ok (.iload 4, 2) := by decide +kernel
theorem dX11_tape_86 : decode cX11_tape 86 = .ok (.iadd, 1) := by decide +kernel
theorem dX11_tape_87 : decode cX11_tape 87 = .ok (.iconst 0, 1) := by decide +kernel
theorem dX11_tape_88 : decode cX11_tape 88 = .ok (.iastore, 1) := by decide +kernel
theorem dX11_tape_89 : decode cX11_tape 89 = .ok (.iinc 4 1, 3) := by decide +kernel
theorem dX11_tape_92 : decode cX11_tape 92 = .ok (.goto (-23), 3) := by decide +kernel
theorem dX11_tape_95 : decode cX11_tape 95 = .ok (.iconst 1, 1) := by decide +kernel
theorem dX11_tape_96 : decode cX11_tape 96 = .ok (.ireturn, 1) := by decide +kernel
theorem oX11_tape_0 : OKI 242 0 (.aload_n 0, 1, [0], 0, 0, []) := And.intro dX11_tape_0 (And.intro rfl (rfl))
theorem oX11_tape_1 : OKI 242 1 (.iload_n 1, 2, [1], 0, 0, []) := And.intro dX11_tape_1 (And.intro rfl (rfl))
theorem oX11_tape_2 : OKI 242 2 (.invokevirtual 295, 5, [241, 2, 13, 0, 0, 1], 0, 0, []) := And.intro dX11_tape_2 (And.intro rfl (And.intro (by decide) (And.intro (by decide) (And.intro mo_X11_isTape (And.intro (tm_7 _ (List.mem_of_getElem? (i := 74) rfl) rfl) (And.intro (tm_7 _ (List.mem_of_getElem? (i := 76) rfl) rfl) (And.intro (pm_4 _ (List.mem_of_getElem? (i := 11) rfl)) (Or.inl ⟨(RX11, TX11, 69), rfl, rfl⟩))))))))
theorem oX11_tape_5 : OKI 242 5 (.ifCond .ne 5, 8, [10], 0, 0, []) := And.intro dX11_tape_5 (And.intro rfl (by decide))
theorem oX11_tape_8 : OKI 242 8 (.iconst (-1), 9, [], (-1), 0, []) := And.intro dX11_tape_8 (And.intro rfl (by decide +kernel))
theorem oX11_tape_9 : OKI 242 9 (.ireturn, 10, [0], 0, 0, []) := And.intro dX11_tape_9 (Or.inl (And.intro rfl rfl))
theorem oX11_tape_10 : OKI 242 10 (.aload_n 0, 11, [0], 0, 0, []) := And.intro dX11_tape_10 (And.intro rfl (rfl))
theorem oX11_tape_11 : OKI 242 11 (.iload_n 2, 12, [2], 0, 0, []) := And.intro dX11_tape_11 (And.intro rfl (rfl))
theorem oX11_tape_12 : OKI 242 12 (.iconst (-1), 13, [], (-1), 0, []) := And.intro dX11_tape_12 (And.intro rfl (by decide +kernel))
theorem oX11_tape_13 : OKI 242 13 (.iconst 3, 14, [], 3, 0, []) := And.intro dX11_tape_13 (And.intro rfl (by decide +kernel))
theorem oX11_tape_14 : OKI 242 14 (.invokevirtual 222, 17, [141, 4, 13, 0, 0, 1], 0, 0, []) := And.intro dX11_tape_14 (And.intro rfl (And.intro (by decide) (And.intro (by decide) (And.intro mo_X11_in (And.intro (tm_6 _ (List.mem_of_getElem? (i := 179) rfl) rfl) (And.intro (tm_6 _ (List.mem_of_getElem? (i := 181) rfl) rfl) (And.intro (pm_3 _ (List.mem_of_getElem? (i := 8) rfl)) (Or.inl ⟨(RX11, TX11, 69), rfl, rfl⟩))))))))
theorem oX11_tape_17 : OKI 242 17 (.ifCond .eq 13, 20, [30], 0, 0, []) := And.intro dX11_tape_17 (And.intro rfl (by decide))
theorem oX11_tape_20 : OKI 242 20 (.iload_n 2, 21, [2], 0, 0, []) := And.intro dX11_tape_20 (And.intro rfl (rfl))
theorem oX11_tape_21 : OKI 242 21 (.ifCond .lt 12, 24, [33], 0, 0, []) := And.intro dX11_tape_21 (And.intro rfl (by decide))
theorem oX11_tape_24 : OKI 242 24 (.iload_n 3, 25, [3], 0, 0, []) := And.intro dX11_tape_24 (And.intro rfl (rfl))
theorem oX11_tape_25 : OKI 242 25 (.bipush 60, 27, [], 60, 0, []) := And.intro dX11_tape_25 (And.intro rfl (by decide +kernel))
theorem oX11_tape_27 : OKI 242 27 (.if_icmp .le 6, 30, [33], 0, 0, []) := And.intro dX11_tape_27 (And.intro rfl (by decide))
theorem oX11_tape_30 : OKI 242 30 (.bipush (-2), 32, [], (-2), 0, []) := And.intro dX11_tape_30 (And.intro rfl (by decide +kernel))
theorem oX11_tape_32 : OKI 242 32 (.ireturn, 33, [0], 0, 0, []) := And.intro dX11_tape_32 (Or.inl (And.intro rfl rfl))
theorem oX11_tape_33 : OKI 242 33 (.iload_n 2, 34, [2], 0, 0, []) := And.intro dX11_tape_33 (And.intro rfl (rfl))
theorem oX11_tape_34 : OKI 242 34 (.ifCond .lt 10, 37, [44], 0, 0, []) := And.intro dX11_tape_34 (And.intro rfl (by decide))
theorem oX11_tape_37 : OKI 242 37 (.iload_n 3, 38, [3], 0, 0, []) := And.intro dX11_tape_37 (And.intro rfl (rfl))
theorem oX11_tape_38 : OKI 242 38 (.ifCond .ge 6, 41, [44], 0, 0, []) := And.intro dX11_tape_38 (And.intro rfl (by decide))
theorem oX11_tape_41 : OKI 242 41 (.bipush (-14), 43, [], (-14), 0, []) := And.intro dX11_tape_41 (And.intro rfl (by decide +kernel))
theorem oX11_tape_43 : OKI 242 43 (.ireturn, 44, [0], 0, 0, []) := And.intro dX11_tape_43 (Or.inl (And.intro rfl rfl))
theorem oX11_tape_44 : OKI 242 44 (.aload_n 0, 45, [0], 0, 0, []) := And.intro dX11_tape_44 (And.intro rfl (rfl))
theorem oX11_tape_45 : OKI 242 45 (.getfield 209, 48, [12, 65, 2, 151, 0], 0, 0, []) := And.intro dX11_tape_45 (And.intro rfl (⟨(RX11, TX11, 69), "SpotTimersModel", rfl, by decide, tm_6 _ (List.mem_of_getElem? (i := 31) rfl) rfl, Or.inl rfl, rfl, rfl⟩))
theorem oX11_tape_48 : OKI 242 48 (.iload_n 1, 49, [1], 0, 0, []) := And.intro dX11_tape_48 (And.intro rfl (rfl))
theorem oX11_tape_49 : OKI 242 49 (.iload_n 2, 50, [2], 0, 0, []) := And.intro dX11_tape_49 (And.intro rfl (rfl))
theorem oX11_tape_50 : OKI 242 50 (.iastore, 51, [], 0, 0, []) := And.intro dX11_tape_50 rfl
theorem oX11_tape_51 : OKI 242 51 (.aload_n 0, 52, [0], 0, 0, []) := And.intro dX11_tape_51 (And.intro rfl (rfl))
theorem oX11_tape_52 : OKI 242 52 (.getfield 212, 55, [12, 66, 2, 152, 0], 0, 0, []) := And.intro dX11_tape_52 (And.intro rfl (⟨(RX11, TX11, 69), "SpotTimersModel", rfl, by decide, tm_6 _ (List.mem_of_getElem? (i := 32) rfl) rfl, Or.inl rfl, rfl, rfl⟩))
theorem oX11_tape_55 : OKI 242 55 (.iload_n 1, 56, [1], 0, 0, []) := And.intro dX11_tape_55 (And.intro rfl (rfl))
theorem oX11_tape_56 : OKI 242 56 (.iload_n 2, 57, [2], 0, 0, []) := And.intro dX11_tape_56 (And.intro rfl (rfl))
theorem oX11_tape_57 : OKI 242 57 (.ifCond .ge 7, 60, [64], 0, 0, []) := And.intro dX11_tape_57 (And.intro rfl (by decide))
theorem oX11_tape_60 : OKI 242 60 (.iconst 0, 61, [], 0, 0, []) := And.intro dX11_tape_60 (And.intro rfl (by decide +kernel))
theorem oX11_tape_61 : OKI 242 61 (.goto 4, 64, [65], 0, 0, []) := And.intro dX11_tape_61 (And.intro rfl (by decide))
theorem oX11_tape_64 : OKI 242 64 (.iload_n 3, 65, [3], 0, 0, []) := And.intro dX11_tape_64 (And.intro rfl (rfl))
theorem oX11_tape_65 : OKI 242 65 (.iastore, 66, [], 0, 0, []) := And.intro dX11_tape_65 rfl
theorem oX11_tape_66 : OKI 242 66 (.iconst 0, 67, [], 0, 0, []) := And.intro dX11_tape_66 (And.intro rfl (by decide +kernel))
theorem oX11_tape_67 : OKI 242 67 (.istore 4, 69, [4], 0, 0, []) := And.intro dX11_tape_67 (And.intro rfl (And.intro rfl (by decide)))
theorem oX11_tape_69 : OKI 242 69 (.iload 4, 71, [4], 0, 0, []) := And.intro dX11_tape_69 (And.intro rfl (rfl))
theorem oX11_tape_71 : OKI 242 71 (.bipush 60, 73, [], 60, 0, []) := And.intro dX11_tape_71 (And.intro rfl (by decide +kernel))
theorem oX11_tape_73 : OKI 242 73 (.if_icmp .ge 22, 76, [95], 0, 0, []) := And.intro dX11_tape_73 (And.intro rfl (by decide))
theorem oX11_tape_76 : OKI 242 76 (.aload_n 0, 77, [0], 0, 0, []) := And.intro dX11_tape_76 (And.intro rfl (rfl))
theorem oX11_tape_77 : OKI 242 77 (.getfield 215, 80, [12, 67, 2, 153, 0], 0, 0, []) := And.intro dX11_tape_77 (And.intro rfl (⟨(RX11, TX11, 69), "SpotTimersModel", rfl, by decide, tm_6 _ (List.mem_of_getElem? (i := 33) rfl) rfl, Or.inl rfl, rfl, rfl⟩))
theorem oX11_tape_80 : OKI 242 80 (.bipush 60, 82, [], 60, 0, []) := And.intro dX11_tape_80 (And.intro rfl (by decide +kernel))
theorem oX11_tape_82 : OKI 242 82 (.iload_n 1, 83, [1], 0, 0, []) := And.intro dX11_tape_82 (And.intro rfl (rfl))
theorem oX11_tape_83 : OKI 242 83 (.imul, 84, [], 0, 0, []) := And.intro dX11_tape_83 rfl
theorem oX11_tape_84 : OKI 242 84 (.iload 4, 86, [4], 0, 0, []) := And.intro dX11_tape_84 (And.intro rfl (rfl))
theorem oX11_tape_86 : OKI 242 86 (.iadd, 87, [], 0, 0, []) := And.intro dX11_tape_86 rfl
theorem oX11_tape_87 : OKI 242 87 (.iconst 0, 88, [], 0, 0, []) := And.intro dX11_tape_87 (And.intro rfl (by decide +kernel))
theorem oX11_tape_88 : OKI 242 88 (.iastore, 89, [], 0, 0, []) := And.intro dX11_tape_88 rfl
theorem oX11_tape_89 : OKI 242 89 (.iinc 4 1, 92, [4], 1, 0, []) := And.intro dX11_tape_89 (And.intro rfl (And.intro rfl (And.intro (by decide +kernel) (by decide))))
theorem oX11_tape_92 : OKI 242 92 (.goto (-23), 95, [69], 0, 0, []) := And.intro dX11_tape_92 (And.intro rfl (by decide))
theorem oX11_tape_95 : OKI 242 95 (.iconst 1, 96, [], 1, 0, []) := And.intro dX11_tape_95 (And.intro rfl (by decide +kernel))
theorem oX11_tape_96 : OKI 242 96 (.ireturn, 97, [0], 0, 0, []) := And.intro dX11_tape_96 (Or.inl (And.intro rfl rfl))
def pfX11_tape (pc : Nat) : Option XE := (bif Nat.blt pc 49 then (bif Nat.blt pc 24 then (bif Nat.blt pc 11 then (bif Nat.blt pc 5 then (bif Nat.blt pc 1 then (bif Nat.beq pc 0 then some (.aload_n 0, 1, [0], 0, 0, []) else none) else (bif Nat.blt pc 2 then (bif Nat.beq pc 1 then some (.iload_n 1, 2, [1], 0, 0, []) else none) else (bif Nat.beq pc 2 then some (.invokevirtual 295, 5, [241, 2, 13, 0, 0, 1], 0, 0, []) else none))) else (bif Nat.blt pc 9 then (bif Nat.blt pc 8 then (bif Nat.beq pc 5 then some (.ifCond .ne 5, 8, [10], 0, 0, []) else none) else (bif Nat.beq pc 8 then some (.iconst (-1), 9, [], (-1), 0, []) else none)) else (bif Nat.blt pc 10 then (bif Nat.beq pc 9 then some (.ireturn, 10, [0], 0, 0, []) else none) else (bif Nat.beq pc 10 then some (.aload_n 0, 11, [0], 0, 0, []) else none)))) else (bif Nat.blt pc 14 then (bif Nat.blt pc 12 then (bif Nat.beq pc 11 then some (.iload_n 2, 12, [2], 0, 0, []) else none) else (bif Nat.blt pc 13 then (bif Nat.beq pc 12 then some (.iconst (-1), 13, [], (-1), 0, []) else none) else (bif Nat.beq pc 13 then some (.iconst 3, 14, [], 3, 0, []) else none))) else (bif Nat.blt pc 20 then (bif Nat.blt pc 17 then (bif Nat.beq pc 14 then some (.invokevirtual 222, 17, [141, 4, 13, 0, 0, 1], 0, 0, []) else none) else (bif Nat.beq pc 17 then some (.ifCond .eq 13, 20, [30], 0, 0, []) else none)) else (bif Nat.blt pc 21 then (bif Nat.beq pc 20 then some (.iload_n 2, 21, [2], 0, 0, []) else none) else (bif Nat.beq pc 21 then some (.ifCond .lt 12, 24, [33], 0, 0, []) else none))))) else (bif Nat.blt pc 37 then (bif Nat.blt pc 30 then (bif Nat.blt pc 25 then (bif Nat.beq pc 24 then some (.iload_n 3, 25, [3], 0, 0, []) else none) else (bif Nat.blt pc 27 then (bif Nat.beq pc 25 then some (.bipush 60, 27, [], 60, 0, []) else none) else (bif Nat.beq pc 27 then some (.if_icmp .le 6, 30, [33], 0, 0, []) else none))) else (bif Nat.blt pc 33 then (bif Nat.blt pc 32 then (bif Nat.beq pc 30 then some (.bipush (-2), 32, [], (-2), 0, []) else none) else (bif Nat.beq pc 32 then some (.ireturn, 33, [0], 0, 0, []) else none)) else (bif Nat.blt pc 34 then (bif Nat.beq pc 33 then some (.iload_n 2, 34, [2], 0, 0, []) else none) else (bif Nat.beq pc 34 then some (.ifCond .lt 10, 37, [44], 0, 0, []) else none)))) else (bif Nat.blt pc 43 then (bif Nat.blt pc 38 then (bif Nat.beq pc 37 then some (.iload_n 3, 38, [3], 0, 0, []) else none) else (bif Nat.blt pc 41 then (bif Nat.beq pc 38 then some (.ifCond .ge 6, 41, [44], 0, 0, []) else none) else (bif Nat.beq pc 41 then some (.bipush (-14), 43, [], (-14), 0, []) else none))) else (bif Nat.blt pc 45 then (bif Nat.blt pc 44 then (bif Nat.beq pc 43 then some (.ireturn, 44, [0], 0, 0, []) else none) else (bif Nat.beq pc 44 then some (.aload_n 0, 45, [0], 0, 0, []) else none)) else (bif Nat.blt pc 48 then (bif Nat.beq pc 45 then some (.getfield 209, 48, [12, 65, 2, 151, 0], 0, 0, []) else none) else (bif Nat.beq pc 48 then some (.iload_n 1, 49, [1], 0, 0, []) else none)))))) else (bif Nat.blt pc 71 then (bif Nat.blt pc 60 then (bif Nat.blt pc 52 then (bif Nat.blt pc 50 then (bif Nat.beq pc 49 then some (.iload_n 2, 50, [2], 0, 0, []) else none) else (bif Nat.blt pc 51 then (bif Nat.beq pc 50 then some (.iastore, 51, [], 0, 0, []) else none) else (bif Nat.beq pc 51 then some (.aload_n 0, 52, [0], 0, 0, []) else none))) else (bif Nat.blt pc 56 then (bif Nat.blt pc 55 then (bif Nat.beq pc 52 then some (.getfield 212, 55, [12, 66, 2, 152, 0], 0, 0, []) else none) else (bif Nat.beq pc 55 then some (.iload_n 1, 56, [1], 0, 0, []) else none)) else (bif Nat.blt pc 57 then (bif Nat.beq pc 56 then some (.iload_n 2, 57, [2], 0, 0, []) else none) else (bif Nat.beq pc 57 then some (.ifCond .ge 7, 60, [64], 0, 0, []) else none)))) else (bif Nat.blt pc 65 then (bif Nat.blt pc 61 then (bif Nat.beq pc 60 then some (.iconst 0, 61, [], 0, 0, []) else none) else (bif Nat.blt pc 64 then (bif Nat.beq pc 61 then some (.goto 4, 64, [65], 0, 0, []) else none) else (bif Nat.beq pc 64 then some (.iload_n 3, 65, [3], 0, 0, []) else none))) else (bif Nat.blt pc 67 then (bif Nat.blt pc 66 then (bif Nat.beq pc 65 then some (.iastore, 66, [], 0, 0, []) else none) else (bif Nat.beq pc 66 then some (.iconst 0, 67, [], 0, 0, []) else none)) else (bif Nat.blt pc 69 then (bif Nat.beq pc 67 then some (.istore 4, 69, [4], 0, 0, []) else none) else (bif Nat.beq pc 69 then some (.iload 4, 71, [4], 0, 0, []) else none))))) else (bif Nat.blt pc 84 then (bif Nat.blt pc 77 then (bif Nat.blt pc 73 then (bif Nat.beq pc 71 then some (.bipush 60, 73, [], 60, 0, []) else none) else (bif Nat.blt pc 76 then (bif Nat.beq pc 73 then some (.if_icmp .ge 22, 76, [95], 0, 0, []) else none) else (bif Nat.beq pc 76 then some (.aload_n 0, 77, [0], 0, 0, []) else none))) else (bif Nat.blt pc 82 then (bif Nat.blt pc 80 then (bif Nat.beq pc 77 then some (.getfield 215, 80, [12, 67, 2, 153, 0], 0, 0, []) else none) else (bif Nat.beq pc 80 then some (.bipush 60, 82, [], 60, 0, []) else none)) else (bif Nat.blt pc 83 then (bif Nat.beq pc 82 then some (.iload_n 1, 83, [1], 0, 0, []) else none) else (bif Nat.beq pc 83 then some (.imul, 84, [], 0, 0, []) else none)))) else (bif Nat.blt pc 89 then (bif Nat.blt pc 87 then (bif Nat.blt pc 86 then (bif Nat.beq pc 84 then some (.iload 4, 86, [4], 0, 0, []) else none) else (bif Nat.beq pc 86 then some (.iadd, 87, [], 0, 0, []) else none)) else (bif Nat.blt pc 88 then (bif Nat.beq pc 87 then some (.iconst 0, 88, [], 0, 0, []) else none) else (bif Nat.beq pc 88 then some (.iastore, 89, [], 0, 0, []) else none))) else (bif Nat.blt pc 95 then (bif Nat.blt pc 92 then (bif Nat.beq pc 89 then some (.iinc 4 1, 92, [4], 1, 0, []) else none) else (bif Nat.beq pc 92 then some (.goto (-23), 95, [69], 0, 0, []) else none)) else (bif Nat.blt pc 96 then (bif Nat.beq pc 95 then some (.iconst 1, 96, [], 1, 0, []) else none) else (bif Nat.beq pc 96 then some (.ireturn, 97, [0], 0, 0, []) else none)))))))
theorem okX11_tape : ∀ pc Y, pfX11_tape pc = some Y → OKI m_X11_tape pc Y := fun pc Y => ((bt_node (bt_node (bt_node (bt_node (bt_node (bt_leaf (P := OKI m_X11_tape) oX11_tape_0) (bt_node (bt_leaf (P := OKI m_X11_tape) oX11_tape_1) (bt_leaf (P := OKI m_X11_tape) oX11_tape_2))) (bt_node (bt_node (bt_leaf (P := OKI m_X11_tape) oX11_tape_5) (bt_leaf (P := OKI m_X11_tape) oX11_tape_8)) (bt_node (bt_leaf (P := OKI m_X11_tape) oX11_tape_9) (bt_leaf (P := OKI m_X11_tape) oX11_tape_10)))) (bt_node (bt_node (bt_leaf (P := OKI m_X11_tape) oX11_tape_11) (bt_node (bt_leaf (P := OKI m_X11_tape) oX11_tape_12) (bt_leaf (P := OKI m_X11_tape) oX11_tape_13))) (bt_node (bt_node (bt_leaf (P := OKI m_X11_tape) oX11_tape_14) (bt_leaf (P := OKI m_X11_tape) oX11_tape_17)) (bt_node (bt_leaf (P := OKI m_X11_tape) oX11_tape_20) (bt_leaf (P := OKI m_X11_tape) oX11_tape_21))))) (bt_node (bt_node (bt_node (bt_leaf (P := OKI m_X11_tape) oX11_tape_24) (bt_node (bt_leaf (P := OKI m_X11_tape) oX11_tape_25) (bt_leaf (P := OKI m_X11_tape) oX11_tape_27))) (bt_node (bt_node (bt_leaf (P := OKI m_X11_tape) oX11_tape_30) (bt_leaf (P := OKI m_X11_tape) oX11_tape_32)) (bt_node (bt_leaf (P := OKI m_X11_tape) oX11_tape_33) (bt_leaf (P := OKI m_X11_tape) oX11_tape_34)))) (bt_node (bt_node (bt_leaf (P := OKI m_X11_tape) oX11_tape_37) (bt_node (bt_leaf (P := OKI m_X11_tape) oX11_tape_38) (bt_leaf (P := OKI m_X11_tape) oX11_tape_41))) (bt_node (bt_node (bt_leaf (P := OKI m_X11_tape) oX11_tape_43) (bt_leaf (P := OKI m_X11_tape) oX11_tape_44)) (bt_node (bt_leaf (P := OKI m_X11_tape) oX11_tape_45) (bt_leaf (P := OKI m_X11_tape) oX11_tape_48)))))) (bt_node (bt_node (bt_node (bt_node (bt_leaf (P := OKI m_X11_tape) oX11_tape_49) (bt_node (bt_leaf (P := OKI m_X11_tape) oX11_tape_50) (bt_leaf (P := OKI m_X11_tape) oX11_tape_51))) (bt_node (bt_node (bt_leaf (P := OKI m_X11_tape) oX11_tape_52) (bt_leaf (P := OKI m_X11_tape) oX11_tape_55)) (bt_node (bt_leaf (P := OKI m_X11_tape) oX11_tape_56) (bt_leaf (P := OKI m_X11_tape) oX11_tape_57)))) (bt_node (bt_node (bt_leaf (P := OKI m_X11_tape) oX11_tape_60) (bt_node (bt_leaf (P := OKI m_X11_tape) oX11_tape_61) (bt_leaf (P := OKI m_X11_tape) oX11_tape_64))) (bt_node (bt_node (bt_leaf (P := OKI m_X11_tape) oX11_tape_65) (bt_leaf (P := OKI m_X11_tape) oX11_tape_66)) (bt_node (bt_leaf (P := OKI m_X11_tape) oX11_tape_67) (bt_leaf (P := OKI m_X11_tape) oX11_tape_69))))) (bt_node (bt_node (bt_node (bt_leaf (P := OKI m_X11_tape) oX11_tape_71) (bt_node (bt_leaf (P := OKI m_X11_tape) oX11_tape_73) (bt_leaf (P := OKI m_X11_tape) oX11_tape_76))) (bt_node (bt_node (bt_leaf (P := OKI m_X11_tape) oX11_tape_77) (bt_leaf (P := OKI m_X11_tape) oX11_tape_80)) (bt_node (bt_leaf (P := OKI m_X11_tape) oX11_tape_82) (bt_leaf (P := OKI m_X11_tape) oX11_tape_83)))) (bt_node (bt_node (bt_node (bt_leaf (P := OKI m_X11_tape) oX11_tape_84) (bt_leaf (P := OKI m_X11_tape) oX11_tape_86)) (bt_node (bt_leaf (P := OKI m_X11_tape) oX11_tape_87) (bt_leaf (P := OKI m_X11_tape) oX11_tape_88))) (bt_node (bt_node (bt_leaf (P := OKI m_X11_tape) oX11_tape_89) (bt_leaf (P := OKI m_X11_tape) oX11_tape_92)) (bt_node (bt_leaf (P := OKI m_X11_tape) oX11_tape_95) (bt_leaf (P := OKI m_X11_tape) oX11_tape_96))))))) : pfX11_tape pc = some Y → OKI m_X11_tape pc Y)
def stpX11_tape (pc : Nat) : Option (List Bool) := (bif Nat.blt pc 44 then (bif Nat.blt pc 33 then (bif Nat.beq pc 30 then some [false, false, false, false, false] else none) else (bif Nat.beq pc 33 then some [true, true, true, true, false] else none)) else (bif Nat.blt pc 65 then (bif Nat.beq pc 44 then some [true, true, true, true, false] else none) else (bif Nat.blt pc 69 then (bif Nat.beq pc 65 then some [true, true, false, false, false] else none) else (bif Nat.beq pc 69 then some [true, true, false, false, true] else none))))
def bX11_tape_0 (d rc rs : Nat) (a1 : Int32) (a2 : Int32) (a3 : Int32) (σ : XH) (Q : XV → XH → Prop) : Prop :=
  ((1 ≤ d ∧ Ec (d - 1) 0 0 m_X11_isTape [vR (some (12, 0)), vI a1] σ (kI fun x2 h1 => ((x2 = 0 → Q (vI (-1)) h1) ∧ (¬ x2 = 0 → ((1 ≤ d ∧ Ec (d - 1) 0 0 m_X11_in [vR (some (12, 0)), vI a2, vI (-1), vI 3] h1 (kI fun x4 h3 => ((x4 = 0 → Ex d rc rs m_X11_tape 30 [vU, vU, vU, vU, vU] [] h3 Q) ∧ (¬ x4 = 0 → ((a2 < 0 → Ex d rc rs m_X11_tape 33 [vR (some (12, 0)), vI a1, vI a2, vI a3, vU] [] h3 Q) ∧ (¬ a2 < 0 → ((60 < a3 → Ex d rc rs m_X11_tape 30 [vU, vU, vU, vU, vU] [] h3 Q) ∧ (¬ 60 < a3 → Ex d rc rs m_X11_tape 33 [vR (some (12, 0)), vI a1, vI a2, vI a3, vU] [] h3 Q))))))))))))))
theorem sX11_tape_0 {d rc rs : Nat} {a1 : Int32} {a2 : Int32} {a3 : Int32} {σ : XH} {Q : XV → XH → Prop} (h : bX11_tape_0 d rc rs a1 a2 a3 σ Q) : Ex d rc rs m_X11_tape 0 [vR (some (12, 0)), vI a1, vI a2, vI a3, vU] [] σ Q :=
  xtree_sound (stop := stpX11_tape) okX11_tape 17 _ _ _ _ _ _ h
def bX11_tape_30 (d rc rs : Nat)  (σ : XH) (Q : XV → XH → Prop) : Prop :=
  Q (vI (-2)) σ
theorem sX11_tape_30 {d rc rs : Nat}  {σ : XH} {Q : XV → XH → Prop} (h : bX11_tape_30 d rc rs  σ Q) : Ex d rc rs m_X11_tape 30 [vU, vU, vU, vU, vU] [] σ Q :=
  xtree_sound (stop := stpX11_tape) okX11_tape 4 _ _ _ _ _ _ h
def bX11_tape_33 (d rc rs : Nat) (l1 : Int32) (l2 : Int32) (l3 : Int32) (σ : XH) (Q : XV → XH → Prop) : Prop :=
  ((l2 < 0 → Ex d rc rs m_X11_tape 44 [vR (some (12, 0)), vI l1, vI l2, vI l3, vU] [] σ Q) ∧ (¬ l2 < 0 → ((l3 < 0 → Q (vI (-14)) σ) ∧ (¬ l3 < 0 → Ex d rc rs m_X11_tape 44 [vR (some (12, 0)), vI l1, vI l2, vI l3, vU] [] σ Q))))
theorem sX11_tape_33 {d rc rs : Nat} {l1 : Int32} {l2 : Int32} {l3 : Int32} {σ : XH} {Q : XV → XH → Prop} (h : bX11_tape_33 d rc rs l1 l2 l3 σ Q) : Ex d rc rs m_X11_tape 33 [vR (some (12, 0)), vI l1, vI l2, vI l3, vU] [] σ Q :=
  xtree_sound (stop := stpX11_tape) okX11_tape 8 _ _ _ _ _ _ h
def bX11_tape_44 (d rc rs : Nat) (l1 : Int32) (l2 : Int32) (l3 : Int32) (σ : XH) (Q : XV → XH → Prop) : Prop :=
  ((hr σ 12 0 65 = some (151, 0) ∧ ((vp_in l1 (hn σ 151 0) ∧ (∀ h1, h1 = wI σ 151 0 l1.toNatClampNeg l2 → ((hr h1 12 0 66 = some (152, 0) ∧ ((l2 < 0 → Ex d rc rs m_X11_tape 65 [vR (some (12, 0)), vI l1, vU, vU, vU] [vI 0, vI l1, vR (some (152, 0))] h1 Q) ∧ (¬ l2 < 0 → Ex d rc rs m_X11_tape 65 [vR (some (12, 0)), vI l1, vU, vU, vU] [vI l3, vI l1, vR (some (152, 0))] h1 Q)))))))))
theorem sX11_tape_44 {d rc rs : Nat} {l1 : Int32} {l2 : Int32} {l3 : Int32} {σ : XH} {Q : XV → XH → Prop} (h : bX11_tape_44 d rc rs l1 l2 l3 σ Q) : Ex d rc rs m_X11_tape 44 [vR (some (12, 0)), vI l1, vI l2, vI l3, vU] [] σ Q :=
  xtree_sound (stop := stpX11_tape) okX11_tape 14 _ _ _ _ _ _ h
def bX11_tape_65 (d rc rs : Nat) (l1 : Int32) (q0 : Int32) (q1 : Int32) (σ : XH) (Q : XV → XH → Prop) : Prop :=
  ((vp_in q1 (hn σ 152 0) ∧ (∀ h1, h1 = wI σ 152 0 q1.toNatClampNeg q0 → Ex d rc rs m_X11_tape 69 [vR (some (12, 0)), vI l1, vU, vU, vI 0] [] h1 Q)))
theorem sX11_tape_65 {d rc rs : Nat} {l1 : Int32} {q0 : Int32} {q1 : Int32} {σ : XH} {Q : XV → XH → Prop} (h : bX11_tape_65 d rc rs l1 q0 q1 σ Q) : Ex d rc rs m_X11_tape 65 [vR (some (12, 0)), vI l1, vU, vU, vU] [vI q0, vI q1, vR (some (152, 0))] σ Q :=
  xtree_sound (stop := stpX11_tape) okX11_tape 5 _ _ _ _ _ _ h
def bX11_tape_69 (d rc rs : Nat) (l1 : Int32) (l4 : Int32) (σ : XH) (Q : XV → XH → Prop) : Prop :=
  ((l4 < 60 → ((hr σ 12 0 67 = some (153, 0) ∧ ((vp_in ((60 * l1) + l4) (hn σ 153 0) ∧ (∀ h1, h1 = wI σ 153 0 ((60 * l1) + l4).toNatClampNeg 0 → Ex d rc rs m_X11_tape 69 [vR (some (12, 0)), vI l1, vU, vU, vI (l4 + 1)] [] h1 Q)))))) ∧ (¬ l4 < 60 → Q (vI 1) σ))
theorem sX11_tape_69 {d rc rs : Nat} {l1 : Int32} {l4 : Int32} {σ : XH} {Q : XV → XH → Prop} (h : bX11_tape_69 d rc rs l1 l4 σ Q) : Ex d rc rs m_X11_tape 69 [vR (some (12, 0)), vI l1, vU, vU, vI l4] [] σ Q :=
  xtree_sound (stop := stpX11_tape) okX11_tape 16 _ _ _ _ _ _ h
/-! SpotTimersModel.item(III)I -/
theorem dX11_item_0 : decode cX11_item 0 = .ok (.aload_n 0, 1) := by decide +kernel
theorem dX11_item_1 : decode cX11_item 1 = .ok (.iload_n 1, 1) := by decide +kernel
theorem dX11_item_2 : decode cX11_item 2 = .ok (.invokevirtual 295, 3) := by decide +kernel
theorem dX11_item_5 : decode cX11_item 5 = .ok (.ifCond .ne 5, 3) := by decide +kernel
theorem dX11_item_8 : decode cX11_item 8 = .ok (.iconst (-1), 1) := by decide +kernel
theorem dX11_item_9 : decode cX11_item 9 = .ok (.ireturn, 1) := by decide +kernel
theorem dX11_item_10 : decode cX11_item 10 = .ok (.aload_n 0, 1) := by decide +kernel
theorem dX11_item_11 : decode cX11_item 11 = .ok (.getfield 209, 3) := by decide +kernel
theorem dX11_item_14 : decode cX11_item 14 = .ok (.iload_n 1, 1) := by decide +kernel
theorem dX11_item_15 : decode cX11_item 15 = .ok (.iaload, 1) := by decide +kernel
theorem dX11_item_16 : decode cX11_item 16 = .ok (.ifCond .ge 6, 3) := by decide +kernel
theorem dX11_item_19 : decode cX11_item 19 = .ok (.bipush (-11), 2) := by decide +kernel
theorem dX11_item_21 : decode cX11_item 21 = .ok (.ireturn, 1) := by decide +kernel
theorem dX11_item_22 : decode cX11_item 22 = .ok (.aload_n 0, 1) := by decide +kernel
theorem dX11_item_23 : decode cX11_item 23 = .ok (.iload_n 2, 1) := by decide +kernel
theorem dX11_item_24 : decode cX11_item 24 = .ok (.iconst 0, 1) := by decide +kernel
theorem dX11_item_25 : decode cX11_item 25 = .ok (.aload_n 0, 1) := by decide +kernel
theorem dX11_item_26 : decode cX11_item 26 = .ok (.getfield 212, 3) := by decide +kernel
theorem dX11_item_29 : decode cX11_item 29 = .ok (.iload_n 1, 1) := by decide +kernel
theorem dX11_item_30 : decode cX11_item 30 = .ok (.iaload, 1) := by decide +kernel
theorem dX11_item_31 : decode cX11_item 31 = .ok (.iconst 1, 1) := by decide +kernel
theorem dX11_item_32 : decode cX11_item 32 = .ok (.isub, 1) := by decide +kernel
theorem dX11_item_33 : decode cX11_item 33 = .ok (.invokevirtual 222, 3) := by decide +kernel
theorem dX11_item_36 : decode cX11_item 36 = .ok (.ifCond .ne 6, 3) := by decide +kernel
theorem dX11_item_39 : decode cX11_item 39 = .ok (.bipush (-13), 2) := by decide +kernel
theorem dX11_item_41 : decode cX11_item 41 = .ok (.ireturn, 1) := by decide +kernel
theorem dX11_item_42 : decode cX11_item 42 = .ok (.aload_n 0, 1) := by decide +kernel
theorem dX11_item_43 : decode cX11_item 43 = .ok (.getfield 209, 3) := by decide +kernel
theorem dX11_item_46 : decode cX11_item 46 = .ok (.iload_n 1, 1) := by decide +kernel
theorem dX11_item_47 : decode cX11_item 47 = .ok (.iaload, 1) := by decide +kernel
theorem dX11_item_48 : decode cX11_item 48 = .ok (.iconst 3, 1) := by decide +kernel
theorem dX11_item_49 : decode cX11_item 49 = .ok (.if_icmp .ne 20, 3) := by decide +kernel
theorem dX11_item_52 : decode cX11_item 52 = .ok (.aload_n 0, 1) := by decide +kernel
theorem dX11_item_53 : decode cX11_item 53 = .ok (.iload_n 3, 1) := by decide +kernel
theorem dX11_item_54 : decode cX11_item 54 = .ok (.ldc_w 463, 3) := by decide +kernel
theorem dX11_item_57 : decode cX11_item 57 = .ok (.ldc_w 464, 3) := by decide +kernel
theorem dX11_item_60 : decode cX11_item 60 = .ok (.invokevirtual 222, 3) := by decide +kernel
theorem dX11_item_63 : decode cX11_item 63 = .ok (.ifCond .ne 6, 3) := by decide +kernel
theorem dX11_item_66 : decode cX11_item 66 = .ok (.bipush (-2), 2) := by decide +kernel
theorem dX11_item_68 : decode cX11_item 68 = .ok (.ireturn, 1) := by decide +kernel
theorem dX11_item_69 : decode cX11_item 69 = .ok (.aload_n 0, 1) := by decide +kernel
theorem dX11_item_70 : decode cX11_item 70 = .ok (.getfield 215, 3) := by decide +kernel
theorem dX11_item_73 : decode cX11_item 73 = .ok (.bipush 60, 2) := by decide +kernel
theorem dX11_item_75 : decode cX11_item 75 = .ok (.iload_n 1, 1) := by decide +kernel
theorem dX11_item_76 : decode cX11_item 76 = .ok (.imul, 1) := by decide +kernel
theorem dX11_item_77 : decode cX11_item 77 = .ok (.iload_n 2, 1) := by decide +kernel
theorem dX11_item_78 : decode cX11_item 78 = .ok (.iadd, 1) := by decide +kernel
theorem dX11_item_79 : decode cX11_item 79 = .ok (.aload_n 0, 1) := by decide +kernel
theorem dX11_item_80 : decode cX11_item 80 = .ok (.getfield 209, 3) := by decide +kernel
theorem dX11_item_83 : decode cX11_item 83 = .ok (.iload_n 1, 1) := by decide +kernel
theorem dX11_item_84 : decode cX11_item 84 = .ok (.iaload, 1) := by decide +kernel
theorem dX11_item_85 : decode cX11_item 85 = .ok (.ifCond .ne 8, 3) := by decide +kernel
theorem dX11_item_88 : decode cX11_item 88 = .ok (.iload_n 3, 1) := by decide +kernel
theorem dX11_item_89 : decode cX11_item 89 = .ok (.i2b, 1) := by decide +kernel
theorem dX11_item_90 : decode cX11_item 90 = .ok (.goto 19, 3) := by decide +kernel
theorem dX11_item_93 : decode cX11_item 93 = .ok (.aload_n 0, 1) := by decide +kernel
theorem dX11_item_94 : decode cX11_item 94 = .ok (.getfield 209, 3) := by decide +kernel
theorem dX11_item_97 : decode cX11_item 97 = .ok (.iload_n 1, 1) := by decide +kernel
theorem dX11_item_98 : decode cX11_item 98 = .ok (.iaload, 1) := by decide +kernel
theorem dX11_item_99 : decode cX11_item 99 = .ok (.iconst 1, 1) := by decide +kernel
theorem dX11_item_100 : decode cX11_item 100 = .ok (.if_icmp .ne 8, 3) := by decide +kernel
theorem dX11_item_103 : decode cX11_item 103 = .ok (.iload_n 3, 1) := by decide +kernel
theorem dX11_item_104 : decode cX11_item 104 = .ok (.i2s, 1) := by decide +kernel
theorem dX11_item_105 : decode cX11_item 105 = .ok (.goto 4, 3) := by decide +kernel
theorem dX11_item_108 : decode cX11_item 108 = .ok (.iload_n 3, 1) := by decide +kernel
theorem dX11_item_109 : decode cX11_item 109 = .ok (.iastore, 1) := by decide +kernel
theorem dX11_item_110 : decode cX11_item 110 = .ok (.iconst 1, 1) := by decide +kernel
theorem dX11_item_111 : decode cX11_item 111 = .ok (.ireturn, 1) := by decide +kernel
theorem oX11_item_0 : OKI 243 0 (.aload_n 0, 1, [0], 0, 0, []) := And.intro dX11_item_0 (And.intro rfl (rfl))
theorem oX11_item_1 : OKI 243 1 (.iload_n 1, 2, [1], 0, 0, []) := And.intro dX11_item_1 (And.intro rfl (rfl))
theorem oX11_item_2 : OKI 243 2 (.invokevirtual 295, 5, [241, 2, 13, 0, 0, 1], 0, 0, []) := And.intro dX11_item_2 (And.intro rfl (And.intro (by decide) (And.intro (by decide) (And.intro mo_X11_isTape (And.intro (tm_7 _ (List.mem_of_getElem? (i := 74) rfl) rfl) (And.intro (tm_7 _ (List.mem_of_getElem? (i := 76) rfl) rfl) (And.intro (pm_4 _ (List.mem_of_getElem? (i := 11) rfl)) (Or.inl ⟨(RX11, TX11, 69), rfl, rfl⟩))))))))
theorem oX11_item_5 : OKI 243 5 (.ifCond .ne 5, 8, [10], 0, 0, []) := And.intro dX11_item_5 (And.intro rfl (by decide))
theorem oX11_item_8 : OKI 243 8 (.iconst (-1), 9, [], (-1), 0, []) := And.intro dX11_item_8 (And.intro rfl (by decide +kernel))
theorem oX11_item_9 : OKI 243 9 (.ireturn, 10, [0], 0, 0, []) := And.intro dX11_item_9 (Or.inl (And.intro rfl rfl))
theorem oX11_item_10 : OKI 243 10 (.aload_n 0, 11, [0], 0, 0, []) := And.intro dX11_item_10 (And.intro rfl (rfl))
theorem oX11_item_11 : OKI 243 11 (.getfield 209, 14, [12, 65, 2, 151, 0], 0, 0, []) := And.intro dX11_item_11 (And.intro rfl (⟨(RX11, TX11, 69), "SpotTimersModel", rfl, by decide, tm_6 _ (List.mem_of_getElem? (i := 31) rfl) rfl, Or.inl rfl, rfl, rfl⟩))
theorem oX11_item_14 : OKI 243 14 (.iload_n 1, 15, [1], 0, 0, []) := And.intro dX11_item_14 (And.intro rfl (rfl))
theorem oX11_item_15 : OKI 243 15 (.iaload, 16, [], 0, 0, []) := And.intro dX11_item_15 rfl
theorem oX11_item_16 : OKI 243 16 (.ifCond .ge 6, 19, [22], 0, 0, []) := And.intro dX11_item_16 (And.intro rfl (by decide))
theorem oX11_item_19 : OKI 243 19 (.bipush (-11), 21, [], (-11), 0, []) := And.intro dX11_item_19 (And.intro rfl (by decide +kernel))
theorem oX11_item_21 : OKI 243 21 (.ireturn, 22, [0], 0, 0, []) := And.intro dX11_item_21 (Or.inl (And.intro rfl rfl))
theorem oX11_item_22 : OKI 243 22 (.aload_n 0, 23, [0], 0, 0, []) := And.intro dX11_item_22 (And.intro rfl (rfl))
theorem oX11_item_23 : OKI 243 23 (.iload_n 2, 24, [2], 0, 0, []) := And.intro dX11_item_23 (And.intro rfl (rfl))
theorem oX11_item_24 : OKI 243 24 (.iconst 0, 25, [], 0, 0, []) := And.intro dX11_item_24 (And.intro rfl (by decide +kernel))
theorem oX11_item_25 : OKI 243 25 (.aload_n 0, 26, [0], 0, 0, []) := And.intro dX11_item_25 (And.intro rfl (rfl))
theorem oX11_item_26 : OKI 243 26 (.getfield 212, 29, [12, 66, 2, 152, 0], 0, 0, []) := And.intro dX11_item_26 (And.intro rfl (⟨(RX11, TX11, 69), "SpotTimersModel", rfl, by decide, tm_6 _ (List.mem_of_getElem? (i := 32) rfl) rfl, Or.inl rfl, rfl, rfl⟩))
theorem oX11_item_29 : OKI 243 29 (.iload_n 1, 30, [1], 0, 0, []) := And.intro dX11_item_29 (And.intro rfl (rfl))
theorem oX11_item_30 : OKI 243 30 (.iaload, 31, [], 0, 0, []) := And.intro dX11_item_30 rfl
theorem oX11_item_31 : OKI 243 31 (.iconst 1, 32, [], 1, 0, []) := And.intro dX11_item_31 (And.intro rfl (by decide +kernel))
theorem oX11_item_32 : OKI 243 32 (.isub, 33, [], 0, 0, []) := And.intro dX11_item_32 rfl
theorem oX11_item_33 : OKI 243 33 (.invokevirtual 222, 36, [141, 4, 13, 0, 0, 1], 0, 0, []) := And.intro dX11_item_33 (And.intro rfl (And.intro (by decide) (And.intro (by decide) (And.intro mo_X11_in (And.intro (tm_6 _ (List.mem_of_getElem? (i := 179) rfl) rfl) (And.intro (tm_6 _ (List.mem_of_getElem? (i := 181) rfl) rfl) (And.intro (pm_3 _ (List.mem_of_getElem? (i := 8) rfl)) (Or.inl ⟨(RX11, TX11, 69), rfl, rfl⟩))))))))
theorem oX11_item_36 : OKI 243 36 (.ifCond .ne 6, 39, [42], 0, 0, []) := And.intro dX11_item_36 (And.intro rfl (by decide))
theorem oX11_item_39 : OKI 243 39 (.bipush (-13), 41, [], (-13), 0, []) := And.intro dX11_item_39 (And.intro rfl (by decide +kernel))
theorem oX11_item_41 : OKI 243 41 (.ireturn, 42, [0], 0, 0, []) := And.intro dX11_item_41 (Or.inl (And.intro rfl rfl))
theorem oX11_item_42 : OKI 243 42 (.aload_n 0, 43, [0], 0, 0, []) := And.intro dX11_item_42 (And.intro rfl (rfl))
theorem oX11_item_43 : OKI 243 43 (.getfield 209, 46, [12, 65, 2, 151, 0], 0, 0, []) := And.intro dX11_item_43 (And.intro rfl (⟨(RX11, TX11, 69), "SpotTimersModel", rfl, by decide, tm_6 _ (List.mem_of_getElem? (i := 31) rfl) rfl, Or.inl rfl, rfl, rfl⟩))
theorem oX11_item_46 : OKI 243 46 (.iload_n 1, 47, [1], 0, 0, []) := And.intro dX11_item_46 (And.intro rfl (rfl))
theorem oX11_item_47 : OKI 243 47 (.iaload, 48, [], 0, 0, []) := And.intro dX11_item_47 rfl
theorem oX11_item_48 : OKI 243 48 (.iconst 3, 49, [], 3, 0, []) := And.intro dX11_item_48 (And.intro rfl (by decide +kernel))
theorem oX11_item_49 : OKI 243 49 (.if_icmp .ne 20, 52, [69], 0, 0, []) := And.intro dX11_item_49 (And.intro rfl (by decide))
theorem oX11_item_52 : OKI 243 52 (.aload_n 0, 53, [0], 0, 0, []) := And.intro dX11_item_52 (And.intro rfl (rfl))
theorem oX11_item_53 : OKI 243 53 (.iload_n 3, 54, [3], 0, 0, []) := And.intro dX11_item_53 (And.intro rfl (rfl))
theorem oX11_item_54 : OKI 243 54 (.ldc_w 463, 57, [], (-8000000), 0, []) := And.intro dX11_item_54 (And.intro rfl (tm_8 _ (List.mem_of_getElem? (i := 129) rfl) rfl))
theorem oX11_item_57 : OKI 243 57 (.ldc_w 464, 60, [], 8000000, 0, []) := And.intro dX11_item_57 (And.intro rfl (tm_8 _ (List.mem_of_getElem? (i := 130) rfl) rfl))
theorem oX11_item_60 : OKI 243 60 (.invokevirtual 222, 63, [141, 4, 13, 0, 0, 1], 0, 0, []) := And.intro dX11_item_60 (And.intro rfl (And.intro (by decide) (And.intro (by decide) (And.intro mo_X11_in (And.intro (tm_6 _ (List.mem_of_getElem? (i := 179) rfl) rfl) (And.intro (tm_6 _ (List.mem_of_getElem? (i := 181) rfl) rfl) (And.intro (pm_3 _ (List.mem_of_getElem? (i := 8) rfl)) (Or.inl ⟨(RX11, TX11, 69), rfl, rfl⟩))))))))
theorem oX11_item_63 : OKI 243 63 (.ifCond .ne 6, 66, [69], 0, 0, []) := And.intro dX11_item_63 (And.intro rfl (by decide))
theorem oX11_item_66 : OKI 243 66 (.bipush (-2), 68, [], (-2), 0, []) := And.intro dX11_item_66 (And.intro rfl (by decide +kernel))
theorem oX11_item_68 : OKI 243 68 (.ireturn, 69, [0], 0, 0, []) := And.intro dX11_item_68 (Or.inl (And.intro rfl rfl))
theorem oX11_item_69 : OKI 243 69 (.aload_n 0, 70, [0], 0, 0, []) := And.intro dX11_item_69 (And.intro rfl (rfl))
theorem oX11_item_70 : OKI 243 70 (.getfield 215, 73, [12, 67, 2, 153, 0], 0, 0, []) := And.intro dX11_item_70 (And.intro rfl (⟨(RX11, TX11, 69), "SpotTimersModel", rfl, by decide, tm_6 _ (List.mem_of_getElem? (i := 33) rfl) rfl, Or.inl rfl, rfl, rfl⟩))
theorem oX11_item_73 : OKI 243 73 (.bipush 60, 75, [], 60, 0, []) := And.intro dX11_item_73 (And.intro rfl (by decide +kernel))
theorem oX11_item_75 : OKI 243 75 (.iload_n 1, 76, [1], 0, 0, []) := And.intro dX11_item_75 (And.intro rfl (rfl))
theorem oX11_item_76 : OKI 243 76 (.imul, 77, [], 0, 0, []) := And.intro dX11_item_76 rfl
theorem oX11_item_77 : OKI 243 77 (.iload_n 2, 78, [2], 0, 0, []) := And.intro dX11_item_77 (And.intro rfl (rfl))
theorem oX11_item_78 : OKI 243 78 (.iadd, 79, [], 0, 0, []) := And.intro dX11_item_78 rfl
theorem oX11_item_79 : OKI 243 79 (.aload_n 0, 80, [0], 0, 0, []) := And.intro dX11_item_79 (And.intro rfl (rfl))
theorem oX11_item_80 : OKI 243 80 (.getfield 209, 83, [12, 65, 2, 151, 0], 0, 0, []) := And.intro dX11_item_80 (And.intro rfl (⟨(RX11, TX11, 69), "SpotTimersModel", rfl, by decide, tm_6 _ (List.mem_of_getElem? (i := 31) rfl) rfl, Or.inl rfl, rfl, rfl⟩))
theorem oX11_item_83 : OKI 243 83 (.iload_n 1, 84, [1], 0, 0, []) := And.intro dX11_item_83 (And.intro rfl (rfl))
theorem oX11_item_84 : OKI 243 84 (.iaload, 85, [], 0, 0, []) := And.intro dX11_item_84 rfl
theorem oX11_item_85 : OKI 243 85 (.ifCond .ne 8, 88, [93], 0, 0, []) := And.intro dX11_item_85 (And.intro rfl (by decide))
theorem oX11_item_88 : OKI 243 88 (.iload_n 3, 89, [3], 0, 0, []) := And.intro dX11_item_88 (And.intro rfl (rfl))
theorem oX11_item_89 : OKI 243 89 (.i2b, 90, [], 0, 0, []) := And.intro dX11_item_89 rfl
theorem oX11_item_90 : OKI 243 90 (.goto 19, 93, [109], 0, 0, []) := And.intro dX11_item_90 (And.intro rfl (by decide))
theorem oX11_item_93 : OKI 243 93 (.aload_n 0, 94, [0], 0, 0, []) := And.intro dX11_item_93 (And.intro rfl (rfl))
theorem oX11_item_94 : OKI 243 94 (.getfield 209, 97, [12, 65, 2, 151, 0], 0, 0, []) := And.intro dX11_item_94 (And.intro rfl (⟨(RX11, TX11, 69), "SpotTimersModel", rfl, by decide, tm_6 _ (List.mem_of_getElem? (i := 31) rfl) rfl, Or.inl rfl, rfl, rfl⟩))
theorem oX11_item_97 : OKI 243 97 (.iload_n 1, 98, [1], 0, 0, []) := And.intro dX11_item_97 (And.intro rfl (rfl))
theorem oX11_item_98 : OKI 243 98 (.iaload, 99, [], 0, 0, []) := And.intro dX11_item_98 rfl
theorem oX11_item_99 : OKI 243 99 (.iconst 1, 100, [], 1, 0, []) := And.intro dX11_item_99 (And.intro rfl (by decide +kernel))
theorem oX11_item_100 : OKI 243 100 (.if_icmp .ne 8, 103, [108], 0, 0, []) := And.intro dX11_item_100 (And.intro rfl (by decide))
theorem oX11_item_103 : OKI 243 103 (.iload_n 3, 104, [3], 0, 0, []) := And.intro dX11_item_103 (And.intro rfl (rfl))
theorem oX11_item_104 : OKI 243 104 (.i2s, 105, [], 0, 0, []) := And.intro dX11_item_104 rfl
theorem oX11_item_105 : OKI 243 105 (.goto 4, 108, [109], 0, 0, []) := And.intro dX11_item_105 (And.intro rfl (by decide))
theorem oX11_item_108 : OKI 243 108 (.iload_n 3, 109, [3], 0, 0, []) := And.intro dX11_item_108 (And.intro rfl (rfl))
theorem oX11_item_109 : OKI 243 109 (.iastore, 110, [], 0, 0, []) := And.intro dX11_item_109 rfl
theorem oX11_item_110 : OKI 243 110 (.iconst 1, 111, [], 1, 0, []) := And.intro dX11_item_110 (And.intro rfl (by decide +kernel))
theorem oX11_item_111 : OKI 243 111 (.ireturn, 112, [0], 0, 0, []) := And.intro dX11_item_111 (Or.inl (And.intro rfl rfl))
def pfX11_item (pc : Nat) : Option XE := (bif Nat.blt pc 54 then (bif Nat.blt pc 26 then (bif Nat.blt pc 14 then (bif Nat.blt pc 8 then (bif Nat.blt pc 2 then (bif Nat.blt pc 1 then (bif Nat.beq pc 0 then some (.aload_n 0, 1, [0], 0, 0, []) else none) else (bif Nat.beq pc 1 then some (.iload_n 1, 2, [1], 0, 0, []) else none)) else (bif Nat.blt pc 5 then (bif Nat.beq pc 2 then some (.invokevirtual 295, 5, [241, 2, 13, 0, 0, 1], 0, 0, []) else none) else (bif Nat.beq pc 5 then some (.ifCond .ne 5, 8, [10], 0, 0, []) else none))) else (bif Nat.blt pc 10 then (bif Nat.blt pc 9 then (bif Nat.beq pc 8 then some (.iconst (-1), 9, [], (-1), 0, []) else none) else (bif Nat.beq pc 9 then some (.ireturn, 10, [0], 0, 0, []) else none)) else (bif Nat.blt pc 11 then (bif Nat.beq pc 10 then some (.aload_n 0, 11, [0], 0, 0, []) else none) else (bif Nat.beq pc 11 then some (.getfield 209, 14, [12, 65, 2, 151, 0], 0, 0, []) else none)))) else (bif Nat.blt pc 21 then (bif Nat.blt pc 16 then (bif Nat.blt pc 15 then (bif Nat.beq pc 14 then some (.iload_n 1, 15, [1], 0, 0, []) else none) else (bif Nat.beq pc 15 then some (.iaload, 16, [], 0, 0, []) else none)) else (bif Nat.blt pc 19 then (bif Nat.beq pc 16 then some (.ifCond .ge 6, 19, [22], 0, 0, []) else none) else (bif Nat.beq pc 19 then some (.bipush (-11), 21, [], (-11), 0, []) else none))) else (bif Nat.blt pc 23 then (bif Nat.blt pc 22 then (bif Nat.beq pc 21 then some (.ireturn, 22, [0], 0, 0, []) else none) else (bif Nat.beq pc 22 then some (.aload_n 0, 23, [0], 0, 0, []) else none)) else (bif Nat.blt pc 24 then (bif Nat.beq pc 23 then some (.iload_n 2, 24, [2], 0, 0, []) else none) else (bif Nat.blt pc 25 then (bif Nat.beq pc 24 then some (.iconst 0, 25, [], 0, 0, []) else none) else (bif Nat.beq pc 25 then some (.aload_n 0, 26, [0], 0, 0, []) else none)))))) else (bif Nat.blt pc 41 then (bif Nat.blt pc 32 then (bif Nat.blt pc 30 then (bif Nat.blt pc 29 then (bif Nat.beq pc 26 then some (.getfield 212, 29, [12, 66, 2, 152, 0], 0, 0, []) else none) else (bif Nat.beq pc 29 then some (.iload_n 1, 30, [1], 0, 0, []) else none)) else (bif Nat.blt pc 31 then (bif Nat.beq pc 30 then some (.iaload, 31, [], 0, 0, []) else none) else (bif Nat.beq pc 31 then some (.iconst 1, 32, [], 1, 0, []) else none))) else (bif Nat.blt pc 36 then (bif Nat.blt pc 33 then (bif Nat.beq pc 32 then some (.isub, 33, [], 0, 0, []) else none) else (bif Nat.beq pc 33 then some (.invokevirtual 222, 36, [141, 4, 13, 0, 0, 1], 0, 0, []) else none)) else (bif Nat.blt pc 39 then (bif Nat.beq pc 36 then some (.ifCond .ne 6, 39, [42], 0, 0, []) else none) else (bif Nat.beq pc 39 then some (.bipush (-13), 41, [], (-13), 0, []) else none)))) else (bif Nat.blt pc 47 then (bif Nat.blt pc 43 then (bif Nat.blt pc 42 then (bif Nat.beq pc 41 then some (.ireturn, 42, [0], 0, 0, []) else none) else (bif Nat.beq pc 42 then some (.aload_n 0, 43, [0], 0, 0, []) else none)) else (bif Nat.blt pc 46 then (bif Nat.beq pc 43 then some (.getfield 209, 46, [12, 65, 2, 151, 0], 0, 0, []) else none) else (bif Nat.beq pc 46 then some (.iload_n 1, 47, [1], 0, 0, []) else none))) else (bif Nat.blt pc 49 then (bif Nat.blt pc 48 then (bif Nat.beq pc 47 then some (.iaload, 48, [], 0, 0, []) else none) else (bif Nat.beq pc 48 then some (.iconst 3, 49, [], 3, 0, []) else none)) else (bif Nat.blt pc 52 then (bif Nat.beq pc 49 then some (.if_icmp .ne 20, 52, [69], 0, 0, []) else none) else (bif Nat.blt pc 53 then (bif Nat.beq pc 52 then some (.aload_n 0, 53, [0], 0, 0, []) else none) else (bif Nat.beq pc 53 then some (.iload_n 3, 54, [3], 0, 0, []) else none))))))) else (bif Nat.blt pc 85 then (bif Nat.blt pc 73 then (bif Nat.blt pc 66 then (bif Nat.blt pc 60 then (bif Nat.blt pc 57 then (bif Nat.beq pc 54 then some (.ldc_w 463, 57, [], (-8000000), 0, []) else none) else (bif Nat.beq pc 57 then some (.ldc_w 464, 60, [], 8000000, 0, []) else none)) else (bif Nat.blt pc 63 then (bif Nat.beq pc 60 then some (.invokevirtual 222, 63, [141, 4, 13, 0, 0, 1], 0, 0, []) else none) else (bif Nat.beq pc 63 then some (.ifCond .ne 6, 66, [69], 0, 0, []) else none))) else (bif Nat.blt pc 69 then (bif Nat.blt pc 68 then (bif Nat.beq pc 66 then some (.bipush (-2), 68, [], (-2), 0, []) else none) else (bif Nat.beq pc 68 then some (.ireturn, 69, [0], 0, 0, []) else none)) else (bif Nat.blt pc 70 then (bif Nat.beq pc 69 then some (.aload_n 0, 70, [0], 0, 0, []) else none) else (bif Nat.beq pc 70 then some (.getfield 215, 73, [12, 67, 2, 153, 0], 0, 0, []) else none)))) else (bif Nat.blt pc 78 then (bif Nat.blt pc 76 then (bif Nat.blt pc 75 then (bif Nat.beq pc 73 then some (.bipush 60, 75, [], 60, 0, []) else none) else (bif Nat.beq pc 75 then some (.iload_n 1, 76, [1], 0, 0, []) else none)) else (bif Nat.blt pc 77 then (bif Nat.beq pc 76 then some (.imul, 77, [], 0, 0, []) else none) else (bif Nat.beq pc 77 then some (.iload_n 2, 78, [2], 0, 0, []) else none))) else (bif Nat.blt pc 80 then (bif Nat.blt pc 79 then (bif Nat.beq pc 78 then some (.iadd, 79, [], 0, 0, []) else none) else (bif Nat.beq pc 79 then some (.aload_n 0, 80, [0], 0, 0, []) else none)) else (bif Nat.blt pc 83 then (bif Nat.beq pc 80 then some (.getfield 209, 83, [12, 65, 2, 151, 0], 0, 0, []) else none) else (bif Nat.blt pc 84 then (bif Nat.beq pc 83 then some (.iload_n 1, 84, [1], 0, 0, []) else none) else (bif Nat.beq pc 84 then some (.iaload, 85, [], 0, 0, []) else none)))))) else (bif Nat.blt pc 99 then (bif Nat.blt pc 93 then (bif Nat.blt pc 89 then (bif Nat.blt pc 88 then (bif Nat.beq pc 85 then some (.ifCond .ne 8, 88, [93], 0, 0, []) else none) else (bif Nat.beq pc 88 then some (.iload_n 3, 89, [3], 0, 0, []) else none)) else (bif Nat.blt pc 90 then (bif Nat.beq pc 89 then some (.i2b, 90, [], 0, 0, []) else none) else (bif Nat.beq pc 90 then some (.goto 19, 93, [109], 0, 0, []) else none))) else (bif Nat.blt pc 97 then (bif Nat.blt pc 94 then (bif Nat.beq pc 93 then some (.aload_n 0, 94, [0], 0, 0, []) else none) else (bif Nat.beq pc 94 then some (.getfield 209, 97, [12, 65, 2, 151, 0], 0, 0, []) else none)) else (bif Nat.blt pc 98 then (bif Nat.beq pc 97 then some (.iload_n 1, 98, [1], 0, 0, []) else none) else (bif Nat.beq pc 98 then some (.iaload, 99, [], 0, 0, []) else none)))) else (bif Nat.blt pc 105 then (bif Nat.blt pc 103 then (bif Nat.blt pc 100 then (bif Nat.beq pc 99 then some (.iconst 1, 100, [], 1, 0, []) else none) else (bif Nat.beq pc 100 then some (.if_icmp .ne 8, 103, [108], 0, 0, []) else none)) else (bif Nat.blt pc 104 then (bif Nat.beq pc 103 then some (.iload_n 3, 104, [3], 0, 0, []) else none) else (bif Nat.beq pc 104 then some (.i2s, 105, [], 0, 0, []) else none))) else (bif Nat.blt pc 109 then (bif Nat.blt pc 108 then (bif Nat.beq pc 105 then some (.goto 4, 108, [109], 0, 0, []) else none) else (bif Nat.beq pc 108 then some (.iload_n 3, 109, [3], 0, 0, []) else none)) else (bif Nat.blt pc 110 then (bif Nat.beq pc 109 then some (.iastore, 110, [], 0, 0, []) else none) else (bif Nat.blt pc 111 then (bif Nat.beq pc 110 then some (.iconst 1, 111, [], 1, 0, []) else none) else (bif Nat.beq pc 111 then some (.ireturn, 112, [0], 0, 0, []) else none))))))))
theorem okX11_item : ∀ pc Y, pfX11_item pc = some Y → OKI m_X11_item pc Y := fun pc Y => ((bt_node (bt_node (bt_node (bt_node (bt_node (bt_node (bt_leaf (P := OKI m_X11_item) oX11_item_0) (bt_leaf (P := OKI m_X11_item) oX11_item_1)) (bt_node (bt_leaf (P := OKI m_X11_item) oX11_item_2) (bt_leaf (P := OKI m_X11_item) oX11_item_5))) (bt_node (bt_node (bt_leaf (P := OKI m_X11_item) oX11_item_8) (bt_leaf (P := OKI m_X11_item) oX11_item_9)) (bt_node (bt_leaf (P := OKI m_X11_item) oX11_item_10) (bt_leaf (P := OKI m_X11_item) oX11_item_11)))) (bt_node (bt_node (bt_node (bt_leaf (P := OKI m_X11_item) oX11_item_14) (bt_leaf (P := OKI m_X11_item) oX11_item_15)) (bt_node (bt_leaf (P := OKI m_X11_item) oX11_item_16) (bt_leaf (P := OKI m_X11_item) oX11_item_19))) (bt_node (bt_node (bt_leaf (P := OKI m_X11_item) oX11_item_21) (bt_leaf (P := OKI m_X11_item) oX11_item_22)) (bt_node (bt_leaf (P := OKI m_X11_item) oX11_item_23) (bt_node (bt_leaf (P := OKI m_X11_item) oX11_item_24) (bt_leaf (P := OKI m_X11_item) oX11_item_25)))))) (bt_node (bt_node (bt_node (bt_node (bt_leaf (P := OKI m_X11_item) oX11_item_26) (bt_leaf (P := OKI m_X11_item) oX11_item_29)) (bt_node (bt_leaf (P := OKI m_X11_item) oX11_item_30) (bt_leaf (P := OKI m_X11_item) oX11_item_31))) (bt_node (bt_node (bt_leaf (P := OKI m_X11_item) oX11_item_32) (bt_leaf (P := OKI m_X11_item) oX11_item_33)) (bt_node (bt_leaf (P := OKI m_X11_item) oX11_item_36) (bt_leaf (P := OKI m_X11_item) oX11_item_39)))) (bt_node (bt_node (bt_node (bt_leaf (P := OKI m_X11_item) oX11_item_41) (bt_leaf (P := OKI m_X11_item) oX11_item_42)) (bt_node (bt_leaf (P := OKI m_X11_item) oX11_item_43) (bt_leaf (P := OKI m_X11_item) oX11_item_46))) (bt_node (bt_node (bt_leaf (P := OKI m_X11_item) oX11_item_47) (bt_leaf (P := OKI m_X11_item) oX11_item_48)) (bt_node (bt_leaf (P := OKI m_X11_item) oX11_item_49) (bt_node (bt_leaf (P := OKI m_X11_item) oX11_item_52) (bt_leaf (P := OKI m_X11_item) oX11_item_53))))))) (bt_node (bt_node (bt_node (bt_node (bt_node (bt_leaf (P := OKI m_X11_item) oX11_item_54) (bt_leaf (P := OKI m_X11_item) oX11_item_57)) (bt_node (bt_leaf (P := OKI m_X11_item) oX11_item_60) (bt_leaf (P := OKI m_X11_item) oX11_item_63))) (bt_node (bt_node (bt_leaf (P := OKI m_X11_item) oX11_item_66) (bt_leaf (P := OKI m_X11_item) oX11_item_68)) (bt_node (bt_leaf (P := OKI m_X11_item) oX11_item_69) (bt_leaf (P := OKI m_X11_item) oX11_item_70)))) (bt_node (bt_node (bt_node (bt_leaf (P := OKI m_X11_item) oX11_item_73) (bt_leaf (P := OKI m_X11_item) oX11_item_75)) (bt_node (bt_leaf (P := OKI m_X11_item) oX11_item_76) (bt_leaf (P := OKI m_X11_item) oX11_item_77))) (bt_node (bt_node (bt_leaf (P := OKI m_X11_item) oX11_item_78) (bt_leaf (P := OKI m_X11_item) oX11_item_79)) (bt_node (bt_leaf (P := OKI m_X11_item) oX11_item_80) (bt_node (bt_leaf (P := OKI m_X11_item) oX11_item_83) (bt_leaf (P := OKI m_X11_item) oX11_item_84)))))) (bt_node (bt_node (bt_node (bt_node (bt_leaf (P := OKI m_X11_item) oX11_item_85) (bt_leaf (P := OKI m_X11_item) oX11_item_88)) (bt_node (bt_leaf (P := OKI m_X11_item) oX11_item_89) (bt_leaf (P := OKI m_X11_item) oX11_item_90))) (bt_node (bt_node (bt_leaf (P := OKI m_X11_item) oX11_item_93) (bt_leaf (P := OKI m_X11_item) oX11_item_94)) (bt_node (bt_leaf (P := OKI m_X11_item) oX11_item_97) (bt_leaf (P := OKI m_X11_item) oX11_item_98)))) (bt_node (bt_node (bt_node (bt_leaf (P := OKI m_X11_item) oX11_item_99) (bt_leaf (P := OKI m_X11_item) oX11_item_100)) (bt_node (bt_leaf (P := OKI m_X11_item) oX11_item_103) (bt_leaf (P := OKI m_X11_item) oX11_item_104))) (bt_node (bt_node (bt_leaf (P := OKI m_X11_item) oX11_item_105) (bt_leaf (P := OKI m_X11_item) oX11_item_108)) (bt_node (bt_leaf (P := OKI m_X11_item) oX11_item_109) (bt_node (bt_leaf (P := OKI m_X11_item) oX11_item_110) (bt_leaf (P := OKI m_X11_item) oX11_item_111)))))))) : pfX11_item pc = some Y → OKI m_X11_item pc Y)
def stpX11_item (pc : Nat) : Option (List Bool) := (bif Nat.blt pc 109 then (bif Nat.beq pc 69 then some [true, true, true, true] else none) else (bif Nat.beq pc 109 then some [false, false, false, false] else none))
def bX11_item_0 (d rc rs : Nat) (a1 : Int32) (a2 : Int32) (a3 : Int32) (σ : XH) (Q : XV → XH → Prop) : Prop :=
  ((1 ≤ d ∧ Ec (d - 1) 0 0 m_X11_isTape [vR (some (12, 0)), vI a1] σ (kI fun x2 h1 => ((x2 = 0 → Q (vI (-1)) h1) ∧ (¬ x2 = 0 → ((hr h1 12 0 65 = some (151, 0) ∧ ((vp_in a1 (hn h1 151 0) ∧ (((hi h1 151 0 a1.toNatClampNeg) < 0 → Q (vI (-11)) h1) ∧ (¬ (hi h1 151 0 a1.toNatClampNeg) < 0 → ((hr h1 12 0 66 = some (152, 0) ∧ ((vp_in a1 (hn h1 152 0) ∧ ((1 ≤ d ∧ Ec (d - 1) 0 0 m_X11_in [vR (some (12, 0)), vI a2, vI 0, vI ((hi h1 152 0 a1.toNatClampNeg) - 1)] h1 (kI fun x4 h3 => ((x4 = 0 → Q (vI (-13)) h3) ∧ (¬ x4 = 0 → ((hr h3 12 0 65 = some (151, 0) ∧ ((vp_in a1 (hn h3 151 0) ∧ (((hi h3 151 0 a1.toNatClampNeg) = 3 → ((1 ≤ d ∧ Ec (d - 1) 0 0 m_X11_in [vR (some (12, 0)), vI a3, vI (-8000000), vI 8000000] h3 (kI fun x6 h5 => ((x6 = 0 → Q (vI (-2)) h5) ∧ (¬ x6 = 0 → Ex d rc rs m_X11_item 69 [vR (some (12, 0)), vI a1, vI a2, vI a3] [] h5 Q)))))) ∧ (¬ (hi h3 151 0 a1.toNatClampNeg) = 3 → Ex d rc rs m_X11_item 69 [vR (some (12, 0)), vI a1, vI a2, vI a3] [] h3 Q))))))))))))))))))))))))))
theorem sX11_item_0 {d rc rs : Nat} {a1 : Int32} {a2 : Int32} {a3 : Int32} {σ : XH} {Q : XV → XH → Prop} (h : bX11_item_0 d rc rs a1 a2 a3 σ Q) : Ex d rc rs m_X11_item 0 [vR (some (12, 0)), vI a1, vI a2, vI a3] [] σ Q :=
  xtree_sound (stop := stpX11_item) okX11_item 36 _ _ _ _ _ _ h
def bX11_item_69 (d rc rs : Nat) (l1 : Int32) (l2 : Int32) (l3 : Int32) (σ : XH) (Q : XV → XH → Prop) : Prop :=
  ((hr σ 12 0 67 = some (153, 0) ∧ ((hr σ 12 0 65 = some (151, 0) ∧ ((vp_in l1 (hn σ 151 0) ∧ (((hi σ 151 0 l1.toNatClampNeg) = 0 → Ex d rc rs m_X11_item 109 [vU, vU, vU, vU] [vI l3.toInt8.toInt32, vI ((60 * l1) + l2), vR (some (153, 0))] σ Q) ∧ (¬ (hi σ 151 0 l1.toNatClampNeg) = 0 → ((hr σ 12 0 65 = some (151, 0) ∧ ((vp_in l1 (hn σ 151 0) ∧ (((hi σ 151 0 l1.toNatClampNeg) = 1 → Ex d rc rs m_X11_item 109 [vU, vU, vU, vU] [vI l3.toInt16.toInt32, vI ((60 * l1) + l2), vR (some (153, 0))] σ Q) ∧ (¬ (hi σ 151 0 l1.toNatClampNeg) = 1 → Ex d rc rs m_X11_item 109 [vU, vU, vU, vU] [vI l3, vI ((60 * l1) + l2), vR (some (153, 0))] σ Q))))))))))))))
theorem sX11_item_69 {d rc rs : Nat} {l1 : Int32} {l2 : Int32} {l3 : Int32} {σ : XH} {Q : XV → XH → Prop} (h : bX11_item_69 d rc rs l1 l2 l3 σ Q) : Ex d rc rs m_X11_item 69 [vR (some (12, 0)), vI l1, vI l2, vI l3] [] σ Q :=
  xtree_sound (stop := stpX11_item) okX11_item 23 _ _ _ _ _ _ h
def bX11_item_109 (d rc rs : Nat) (q0 : Int32) (q1 : Int32) (σ : XH) (Q : XV → XH → Prop) : Prop :=
  ((vp_in q1 (hn σ 153 0) ∧ (∀ h1, h1 = wI σ 153 0 q1.toNatClampNeg q0 → Q (vI 1) h1)))
theorem sX11_item_109 {d rc rs : Nat} {q0 : Int32} {q1 : Int32} {σ : XH} {Q : XV → XH → Prop} (h : bX11_item_109 d rc rs q0 q1 σ Q) : Ex d rc rs m_X11_item 109 [vU, vU, vU, vU] [vI q0, vI q1, vR (some (153, 0))] σ Q :=
  xtree_sound (stop := stpX11_item) okX11_item 5 _ _ _ _ _ _ h
/-! SpotTimersModel.blank(II)I -/
theorem dX11_blank_0 : decode cX11_blank 0 = .ok (.aload_n 0, 1) := by decide +kernel
theorem dX11_blank_1 : decode cX11_blank 1 = .ok (.iload_n 1, 1) := by decide +kernel
theorem dX11_blank_2 : decode cX11_blank 2 = .ok (.invokevirtual 295, 3) := by decide +kernel
theorem dX11_blank_5 : decode cX11_blank 5 = .ok (.ifCond .ne 5, 3) := by decide +kernel
theorem dX11_blank_8 : decode cX11_blank 8 = .ok (.iconst (-1), 1) := by decide +kernel
theorem dX11_blank_9 : decode cX11_blank 9 = .ok (.ireturn, 1) := by decide +kernel
theorem dX11_blank_10 : decode cX11_blank 10 = .ok (.aload_n 0, 1) := by decide +kernel
theorem dX11_blank_11 : decode cX11_blank 11 = .ok (.getfield 209, 3) := by decide +kernel
theorem dX11_blank_14 : decode cX11_blank 14 = .ok (.iload_n 1, 1) := by decide +kernel
theorem dX11_blank_15 : decode cX11_blank 15 = .ok (.iaload, 1) := by decide +kernel
theorem dX11_blank_16 : decode cX11_blank 16 = .ok (.ifCond .ge 6, 3) := by decide +kernel
theorem dX11_blank_19 : decode cX11_blank 19 = .ok (.bipush (-11), 2) := by decide +kernel
theorem dX11_blank_21 : decode cX11_blank 21 = .ok (.ireturn, 1) := by decide +kernel
theorem dX11_blank_22 : decode cX11_blank 22 = .ok (.aload_n 0, 1) := by decide +kernel
theorem dX11_blank_23 : decode cX11_blank 23 = .ok (.getfield 209, 3) := by decide +kernel
theorem dX11_blank_26 : decode cX11_blank 26 = .ok (.iload_n 1, 1) := by decide +kernel
theorem dX11_blank_27 : decode cX11_blank 27 = .ok (.iaload, 1) := by decide +kernel
theorem dX11_blank_28 : decode cX11_blank 28 = .ok (.iconst 3, 1) := by decide +kernel
theorem dX11_blank_29 : decode cX11_blank 29 = .ok (.if_icmp .eq 6, 3) := by decide +kernel
theorem dX11_blank_32 : decode cX11_blank 32 = .ok (.bipush (-12), 2) := by decide +kernel
theorem dX11_blank_34 : decode cX11_blank 34 = .ok (.ireturn, 1) := by decide +kernel
theorem dX11_blank_35 : decode cX11_blank 35 = .ok (.aload_n 0, 1) := by decide +kernel
theorem dX11_blank_36 : decode cX11_blank 36 = .ok (.iload_n 2, 1) := by decide +kernel
theorem dX11_blank_37 : decode cX11_blank 37 = .ok (.iconst 0, 1) := by decide +kernel
theorem dX11_blank_38 : decode cX11_blank 38 = .ok (.aload_n 0, 1) := by decide +kernel
theorem dX11_blank_39 : decode cX11_blank 39 = .ok (.getfield 212, 3) := by decide +kernel
theorem dX11_blank_42 : decode cX11_blank 42 = .ok (.iload_n 1, 1) := by decide +kernel
theorem dX11_blank_43 : decode cX11_blank 43 = .ok (.iaload, 1) := by decide +kernel
theorem dX11_blank_44 : decode cX11_blank 44 = .ok (.iconst 1, 1) := by decide +kernel
theorem dX11_blank_45 : decode cX11_blank 45 = .ok (.isub, 1) := by decide +kernel
theorem dX11_blank_46 : decode cX11_blank 46 = .ok (.invokevirtual 222, 3) := by decide +kernel
theorem dX11_blank_49 : decode cX11_blank 49 = .ok (.ifCond .ne 6, 3) := by decide +kernel
theorem dX11_blank_52 : decode cX11_blank 52 = .ok (.bipush (-13), 2) := by decide +kernel
theorem dX11_blank_54 : decode cX11_blank 54 = .ok (.ireturn, 1) := by decide +kernel
theorem dX11_blank_55 : decode cX11_blank 55 = .ok (.aload_n 0, 1) := by decide +kernel
theorem dX11_blank_56 : decode cX11_blank 56 = .ok (.getfield 215, 3) := by decide +kernel
theorem dX11_blank_59 : decode cX11_blank 59 = .ok (.bipush 60, 2) := by decide +kernel
theorem dX11_blank_61 : decode cX11_blank 61 = .ok (.iload_n 1, 1) := by decide +kernel
theorem dX11_blank_62 : decode cX11_blank 62 = .ok (.imul, 1) := by decide +kernel
theorem dX11_blank_63 : decode cX11_blank 63 = .ok (.iload_n 2, 1) := by decide +kernel
theorem dX11_blank_64 : decode cX11_blank 64 = .ok (.iadd, 1) := by decide +kernel
theorem dX11_blank_65 : decode cX11_blank 65 = .ok (.ldc_w 298, 3) := by decide +kernel
theorem dX11_blank_68 : decode cX11_blank 68 = .ok (.iastore, 1) := by decide +kernel
theorem dX11_blank_69 : decode cX11_blank 69 = .ok (.iconst 1, 1) := by decide +kernel
theorem dX11_blank_70 : decode cX11_blank 70 = .ok (.ireturn, 1) := by decide +kernel
theorem oX11_blank_0 : OKI 244 0 (.aload_n 0, 1, [0], 0, 0, []) := And.intro dX11_blank_0 (And.intro rfl (rfl))
theorem oX11_blank_1 : OKI 244 1 (.iload_n 1, 2, [1], 0, 0, []) := And.intro dX11_blank_1 (And.intro rfl (rfl))
theorem oX11_blank_2 : OKI 244 2 (.invokevirtual 295, 5, [241, 2, 13, 0, 0, 1], 0, 0, []) := And.intro dX11_blank_2 (And.intro rfl (And.intro (by decide) (And.intro (by decide) (And.intro mo_X11_isTape (And.intro (tm_7 _ (List.mem_of_getElem? (i := 74) rfl) rfl) (And.intro (tm_7 _ (List.mem_of_getElem? (i := 76) rfl) rfl) (And.intro (pm_4 _ (List.mem_of_getElem? (i := 11) rfl)) (Or.inl ⟨(RX11, TX11, 69), rfl, rfl⟩))))))))
theorem oX11_blank_5 : OKI 244 5 (.ifCond .ne 5, 8, [10], 0, 0, []) := And.intro dX11_blank_5 (And.intro rfl (by decide))
theorem oX11_blank_8 : OKI 244 8 (.iconst (-1), 9, [], (-1), 0, []) := And.intro dX11_blank_8 (And.intro rfl (by decide +kernel))
theorem oX11_blank_9 : OKI 244 9 (.ireturn, 10, [0], 0, 0, []) := And.intro dX11_blank_9 (Or.inl (And.intro rfl rfl))
theorem oX11_blank_10 : OKI 244 10 (.aload_n 0, 11, [0], 0, 0, []) := And.intro dX11_blank_10 (And.intro rfl (rfl))
theorem oX11_blank_11 : OKI 244 11 (.getfield 209, 14, [12, 65, 2, 151, 0], 0, 0, []) := And.intro dX11_blank_11 (And.intro rfl (⟨(RX11, TX11, 69), "SpotTimersModel", rfl, by decide, tm_6 _ (List.mem_of_getElem? (i := 31) rfl) rfl, Or.inl rfl, rfl, rfl⟩))
theorem oX11_blank_14 : OKI 244 14 (.iload_n 1, 15, [1], 0, 0, []) := And.intro dX11_blank_14 (And.intro rfl (rfl))
theorem oX11_blank_15 : OKI 244 15 (.iaload, 16, [], 0, 0, []) := And.intro dX11_blank_15 rfl
theorem oX11_blank_16 : OKI 244 16 (.ifCond .ge 6, 19, [22], 0, 0, []) := And.intro dX11_blank_16 (And.intro rfl (by decide))
theorem oX11_blank_19 : OKI 244 19 (.bipush (-11), 21, [], (-11), 0, []) := And.intro dX11_blank_19 (And.intro rfl (by decide +kernel))
theorem oX11_blank_21 : OKI 244 21 (.ireturn, 22, [0], 0, 0, []) := And.intro dX11_blank_21 (Or.inl (And.intro rfl rfl))
theorem oX11_blank_22 : OKI 244 22 (.aload_n 0, 23, [0], 0, 0, []) := And.intro dX11_blank_22 (And.intro rfl (rfl))
theorem oX11_blank_23 : OKI 244 23 (.getfield 209, 26, [12, 65, 2, 151, 0], 0, 0, []) := And.intro dX11_blank_23 (And.intro rfl (⟨(RX11, TX11, 69), "SpotTimersModel", rfl, by decide, tm_6 _ (List.mem_of_getElem? (i := 31) rfl) rfl, Or.inl rfl, rfl, rfl⟩))
theorem oX11_blank_26 : OKI 244 26 (.iload_n 1, 27, [1], 0, 0, []) := And.intro dX11_blank_26 (And.intro rfl (rfl))
theorem oX11_blank_27 : OKI 244 27 (.iaload, 28, [], 0, 0, []) := And.intro dX11_blank_27 rfl
theorem oX11_blank_28 : OKI 244 28 (.iconst 3, 29, [], 3, 0, []) := And.intro dX11_blank_28 (And.intro rfl (by decide +kernel))
theorem oX11_blank_29 : OKI 244 29 (.if_icmp .eq 6, 32, [35], 0, 0, []) := And.intro dX11_blank_29 (And.intro rfl (by decide))
theorem oX11_blank_32 : OKI 244 32 (.bipush (-12), 34, [], (-12), 0, []) := And.intro dX11_blank_32 (And.intro rfl (by decide +kernel))
theorem oX11_blank_34 : OKI 244 34 (.ireturn, 35, [0], 0, 0, []) := And.intro dX11_blank_34 (Or.inl (And.intro rfl rfl))
theorem oX11_blank_35 : OKI 244 35 (.aload_n 0, 36, [0], 0, 0, []) := And.intro dX11_blank_35 (And.intro rfl (rfl))
theorem oX11_blank_36 : OKI 244 36 (.iload_n 2, 37, [2], 0, 0, []) := And.intro dX11_blank_36 (And.intro rfl (rfl))
theorem oX11_blank_37 : OKI 244 37 (.iconst 0, 38, [], 0, 0, []) := And.intro dX11_blank_37 (And.intro rfl (by decide +kernel))
theorem oX11_blank_38 : OKI 244 38 (.aload_n 0, 39, [0], 0, 0, []) := And.intro dX11_blank_38 (And.intro rfl (rfl))
theorem oX11_blank_39 : OKI 244 39 (.getfield 212, 42, [12, 66, 2, 152, 0], 0, 0, []) := And.intro dX11_blank_39 (And.intro rfl (⟨(RX11, TX11, 69), "SpotTimersModel", rfl, by decide, tm_6 _ (List.mem_of_getElem? (i := 32) rfl) rfl, Or.inl rfl, rfl, rfl⟩))
theorem oX11_blank_42 : OKI 244 42 (.iload_n 1, 43, [1], 0, 0, []) := And.intro dX11_blank_42 (And.intro rfl (rfl))
theorem oX11_blank_43 : OKI 244 43 (.iaload, 44, [], 0, 0, []) := And.intro dX11_blank_43 rfl
theorem oX11_blank_44 : OKI 244 44 (.iconst 1, 45, [], 1, 0, []) := And.intro dX11_blank_44 (And.intro rfl (by decide +kernel))
theorem oX11_blank_45 : OKI 244 45 (.isub, 46, [], 0, 0, []) := And.intro dX11_blank_45 rfl
theorem oX11_blank_46 : OKI 244 46 (.invokevirtual 222, 49, [141, 4, 13, 0, 0, 1], 0, 0, []) := And.intro dX11_blank_46 (And.intro rfl (And.intro (by decide) (And.intro (by decide) (And.intro mo_X11_in (And.intro (tm_6 _ (List.mem_of_getElem? (i := 179) rfl) rfl) (And.intro (tm_6 _ (List.mem_of_getElem? (i := 181) rfl) rfl) (And.intro (pm_3 _ (List.mem_of_getElem? (i := 8) rfl)) (Or.inl ⟨(RX11, TX11, 69), rfl, rfl⟩))))))))
theorem oX11_blank_49 : OKI 244 49 (.ifCond .ne 6, 52, [55], 0, 0, []) := And.intro dX11_blank_49 (And.intro rfl (by decide))
theorem oX11_blank_52 : OKI 244 52 (.bipush (-13), 54, [], (-13), 0, []) := And.intro dX11_blank_52 (And.intro rfl (by decide +kernel))
theorem oX11_blank_54 : OKI 244 54 (.ireturn, 55, [0], 0, 0, []) := And.intro dX11_blank_54 (Or.inl (And.intro rfl rfl))
theorem oX11_blank_55 : OKI 244 55 (.aload_n 0, 56, [0], 0, 0, []) := And.intro dX11_blank_55 (And.intro rfl (rfl))
theorem oX11_blank_56 : OKI 244 56 (.getfield 215, 59, [12, 67, 2, 153, 0], 0, 0, []) := And.intro dX11_blank_56 (And.intro rfl (⟨(RX11, TX11, 69), "SpotTimersModel", rfl, by decide, tm_6 _ (List.mem_of_getElem? (i := 33) rfl) rfl, Or.inl rfl, rfl, rfl⟩))
theorem oX11_blank_59 : OKI 244 59 (.bipush 60, 61, [], 60, 0, []) := And.intro dX11_blank_59 (And.intro rfl (by decide +kernel))
theorem oX11_blank_61 : OKI 244 61 (.iload_n 1, 62, [1], 0, 0, []) := And.intro dX11_blank_61 (And.intro rfl (rfl))
theorem oX11_blank_62 : OKI 244 62 (.imul, 63, [], 0, 0, []) := And.intro dX11_blank_62 rfl
theorem oX11_blank_63 : OKI 244 63 (.iload_n 2, 64, [2], 0, 0, []) := And.intro dX11_blank_63 (And.intro rfl (rfl))
theorem oX11_blank_64 : OKI 244 64 (.iadd, 65, [], 0, 0, []) := And.intro dX11_blank_64 rfl
theorem oX11_blank_65 : OKI 244 65 (.ldc_w 298, 68, [], 999999999, 0, []) := And.intro dX11_blank_65 (And.intro rfl (tm_7 _ (List.mem_of_getElem? (i := 78) rfl) rfl))
theorem oX11_blank_68 : OKI 244 68 (.iastore, 69, [], 0, 0, []) := And.intro dX11_blank_68 rfl
theorem oX11_blank_69 : OKI 244 69 (.iconst 1, 70, [], 1, 0, []) := And.intro dX11_blank_69 (And.intro rfl (by decide +kernel))
theorem oX11_blank_70 : OKI 244 70 (.ireturn, 71, [0], 0, 0, []) := And.intro dX11_blank_70 (Or.inl (And.intro rfl rfl))
def pfX11_blank (pc : Nat) : Option XE := (bif Nat.blt pc 36 then (bif Nat.blt pc 19 then (bif Nat.blt pc 9 then (bif Nat.blt pc 2 then (bif Nat.blt pc 1 then (bif Nat.beq pc 0 then some (.aload_n 0, 1, [0], 0, 0, []) else none) else (bif Nat.beq pc 1 then some (.iload_n 1, 2, [1], 0, 0, []) else none)) else (bif Nat.blt pc 5 then (bif Nat.beq pc 2 then some (.invokevirtual 295, 5, [241, 2, 13, 0, 0, 1], 0, 0, []) else none) else (bif Nat.blt pc 8 then (bif Nat.beq pc 5 then some (.ifCond .ne 5, 8, [10], 0, 0, []) else none) else (bif Nat.beq pc 8 then some (.iconst (-1), 9, [], (-1), 0, []) else none)))) else (bif Nat.blt pc 14 then (bif Nat.blt pc 10 then (bif Nat.beq pc 9 then some (.ireturn, 10, [0], 0, 0, []) else none) else (bif Nat.blt pc 11 then (bif Nat.beq pc 10 then some (.aload_n 0, 11, [0], 0, 0, []) else none) else (bif Nat.beq pc 11 then some (.getfield 209, 14, [12, 65, 2, 151, 0], 0, 0, []) else none))) else (bif Nat.blt pc 15 then (bif Nat.beq pc 14 then some (.iload_n 1, 15, [1], 0, 0, []) else none) else (bif Nat.blt pc 16 then (bif Nat.beq pc 15 then some (.iaload, 16, [], 0, 0, []) else none) else (bif Nat.beq pc 16 then some (.ifCond .ge 6, 19, [22], 0, 0, []) else none))))) else (bif Nat.blt pc 27 then (bif Nat.blt pc 22 then (bif Nat.blt pc 21 then (bif Nat.beq pc 19 then some (.bipush (-11), 21, [], (-11), 0, []) else none) else (bif Nat.beq pc 21 then some (.ireturn, 22, [0], 0, 0, []) else none)) else (bif Nat.blt pc 23 then (bif Nat.beq pc 22 then some (.aload_n 0, 23, [0], 0, 0, []) else none) else (bif Nat.blt pc 26 then (bif Nat.beq pc 23 then some (.getfield 209, 26, [12, 65, 2, 151, 0], 0, 0, []) else none) else (bif Nat.beq pc 26 then some (.iload_n 1, 27, [1], 0, 0, []) else none)))) else (bif Nat.blt pc 32 then (bif Nat.blt pc 28 then (bif Nat.beq pc 27 then some (.iaload, 28, [], 0, 0, []) else none) else (bif Nat.blt pc 29 then (bif Nat.beq pc 28 then some (.iconst 3, 29, [], 3, 0, []) else none) else (bif Nat.beq pc 29 then some (.if_icmp .eq 6, 32, [35], 0, 0, []) else none))) else (bif Nat.blt pc 34 then (bif Nat.beq pc 32 then some (.bipush (-12), 34, [], (-12), 0, []) else none) else (bif Nat.blt pc 35 then (bif Nat.beq pc 34 then some (.ireturn, 35, [0], 0, 0, []) else none) else (bif Nat.beq pc 35 then some (.aload_n 0, 36, [0], 0, 0, []) else none)))))) else (bif Nat.blt pc 54 then (bif Nat.blt pc 43 then (bif Nat.blt pc 38 then (bif Nat.blt pc 37 then (bif Nat.beq pc 36 then some (.iload_n 2, 37, [2], 0, 0, []) else none) else (bif Nat.beq pc 37 then some (.iconst 0, 38, [], 0, 0, []) else none)) else (bif Nat.blt pc 39 then (bif Nat.beq pc 38 then some (.aload_n 0, 39, [0], 0, 0, []) else none) else (bif Nat.blt pc 42 then (bif Nat.beq pc 39 then some (.getfield 212, 42, [12, 66, 2, 152, 0], 0, 0, []) else none) else (bif Nat.beq pc 42 then some (.iload_n 1, 43, [1], 0, 0, []) else none)))) else (bif Nat.blt pc 46 then (bif Nat.blt pc 44 then (bif Nat.beq pc 43 then some (.iaload, 44, [], 0, 0, []) else none) else (bif Nat.blt pc 45 then (bif Nat.beq pc 44 then some (.iconst 1, 45, [], 1, 0, []) else none) else (bif Nat.beq pc 45 then some (.isub, 46, [], 0, 0, []) else none))) else (bif Nat.blt pc 49 then (bif Nat.beq pc 46 then some (.invokevirtual 222, 49, [141, 4, 13, 0, 0, 1], 0, 0, []) else none) else (bif Nat.blt pc 52 then (bif Nat.beq pc 49 then some (.ifCond .ne 6, 52, [55], 0, 0, []) else none) else (bif Nat.beq pc 52 then some (.bipush (-13), 54, [], (-13), 0, []) else none))))) else (bif Nat.blt pc 63 then (bif Nat.blt pc 59 then (bif Nat.blt pc 55 then (bif Nat.beq pc 54 then some (.ireturn, 55, [0], 0, 0, []) else none) else (bif Nat.blt pc 56 then (bif Nat.beq pc 55 then some (.aload_n 0, 56, [0], 0, 0, []) else none) else (bif Nat.beq pc 56 then some (.getfield 215, 59, [12, 67, 2, 153, 0], 0, 0, []) else none))) else (bif Nat.blt pc 61 then (bif Nat.beq pc 59 then some (.bipush 60, 61, [], 60, 0, []) else none) else (bif Nat.blt pc 62 then (bif Nat.beq pc 61 then some (.iload_n 1, 62, [1], 0, 0, []) else none) else (bif Nat.beq pc 62 then some (.imul, 63, [], 0, 0, []) else none)))) else (bif Nat.blt pc 68 then (bif Nat.blt pc 64 then (bif Nat.beq pc 63 then some (.iload_n 2, 64, [2], 0, 0, []) else none) else (bif Nat.blt pc 65 then (bif Nat.beq pc 64 then some (.iadd, 65, [], 0, 0, []) else none) else (bif Nat.beq pc 65 then some (.ldc_w 298, 68, [], 999999999, 0, []) else none))) else (bif Nat.blt pc 69 then (bif Nat.beq pc 68 then some (.iastore, 69, [], 0, 0, []) else none) else (bif Nat.blt pc 70 then (bif Nat.beq pc 69 then some (.iconst 1, 70, [], 1, 0, []) else none) else (bif Nat.beq pc 70 then some (.ireturn, 71, [0], 0, 0, []) else none)))))))
theorem okX11_blank : ∀ pc Y, pfX11_blank pc = some Y → OKI m_X11_blank pc Y := fun pc Y => ((bt_node (bt_node (bt_node (bt_node (bt_node (bt_leaf (P := OKI m_X11_blank) oX11_blank_0) (bt_leaf (P := OKI m_X11_blank) oX11_blank_1)) (bt_node (bt_leaf (P := OKI m_X11_blank) oX11_blank_2) (bt_node (bt_leaf (P := OKI m_X11_blank) oX11_blank_5) (bt_leaf (P := OKI m_X11_blank) oX11_blank_8)))) (bt_node (bt_node (bt_leaf (P := OKI m_X11_blank) oX11_blank_9) (bt_node (bt_leaf (P := OKI m_X11_blank) oX11_blank_10) (bt_leaf (P := OKI m_X11_blank) oX11_blank_11))) (bt_node (bt_leaf (P := OKI m_X11_blank) oX11_blank_14) (bt_node (bt_leaf (P := OKI m_X11_blank) oX11_blank_15) (bt_leaf (P := OKI m_X11_blank) oX11_blank_16))))) (bt_node (bt_node (bt_node (bt_leaf (P := OKI m_X11_blank) oX11_blank_19) (bt_leaf (P := OKI m_X11_blank) oX11_blank_21)) (bt_node (bt_leaf (P := OKI m_X11_blank) oX11_blank_22) (bt_node (bt_leaf (P := OKI m_X11_blank) oX11_blank_23) (bt_leaf (P := OKI m_X11_blank) oX11_blank_26)))) (bt_node (bt_node (bt_leaf (P := OKI m_X11_blank) oX11_blank_27) (bt_node (bt_leaf (P := OKI m_X11_blank) oX11_blank_28) (bt_leaf (P := OKI m_X11_blank) oX11_blank_29))) (bt_node (bt_leaf (P := OKI m_X11_blank) oX11_blank_32) (bt_node (bt_leaf (P := OKI m_X11_blank) oX11_blank_34) (bt_leaf (P := OKI m_X11_blank) oX11_blank_35)))))) (bt_node (bt_node (bt_node (bt_node (bt_leaf (P := OKI m_X11_blank) oX11_blank_36) (bt_leaf (P := OKI m_X11_blank) oX11_blank_37)) (bt_node (bt_leaf (P := OKI m_X11_blank) oX11_blank_38) (bt_node (bt_leaf (P := OKI m_X11_blank) oX11_blank_39) (bt_leaf (P := OKI m_X11_blank) oX11_blank_42)))) (bt_node (bt_node (bt_leaf (P := OKI m_X11_blank) oX11_blank_43) (bt_node (bt_leaf (P := OKI m_X11_blank) oX11_blank_44) (bt_leaf (P := OKI m_X11_blank) oX11_blank_45))) (bt_node (bt_leaf (P := OKI m_X11_blank) oX11_blank_46) (bt_node (bt_leaf (P := OKI m_X11_blank) oX11_blank_49) (bt_leaf (P := OKI m_X11_blank) oX11_blank_52))))) (bt_node (bt_node (bt_node (bt_leaf (P := OKI m_X11_blank) oX11_blank_54) (bt_node (bt_leaf (P := OKI m_X11_blank) oX11_blank_55) (bt_leaf (P := OKI m_X11_blank) oX11_blank_56))) (bt_node (bt_leaf (P := OKI m_X11_blank) oX11_blank_59) (bt_node (bt_leaf (P := OKI m_X11_blank) oX11_blank_61) (bt_leaf (P := OKI m_X11_blank) oX11_blank_62)))) (bt_node (bt_node (bt_leaf (P := OKI m_X11_blank) oX11_blank_63) (bt_node (bt_leaf (P := OKI m_X11_blank) oX11_blank_64) (bt_leaf (P := OKI m_X11_blank) oX11_blank_65))) (bt_node (bt_leaf (P := OKI m_X11_blank) oX11_blank_68) (bt_node (bt_leaf (P := OKI m_X11_blank) oX11_blank_69) (bt_leaf (P := OKI m_X11_blank) oX11_blank_70))))))) : pfX11_blank pc = some Y → OKI m_X11_blank pc Y)
def stpX11_blank (_ : Nat) : Option (List Bool) := none
def bX11_blank_0 (d rc rs : Nat) (a1 : Int32) (a2 : Int32) (σ : XH) (Q : XV → XH → Prop) : Prop :=
  ((1 ≤ d ∧ Ec (d - 1) 0 0 m_X11_isTape [vR (some (12, 0)), vI a1] σ (kI fun x2 h1 => ((x2 = 0 → Q (vI (-1)) h1) ∧ (¬ x2 = 0 → ((hr h1 12 0 65 = some (151, 0) ∧ ((vp_in a1 (hn h1 151 0) ∧ (((hi h1 151 0 a1.toNatClampNeg) < 0 → Q (vI (-11)) h1) ∧ (¬ (hi h1 151 0 a1.toNatClampNeg) < 0 → ((hr h1 12 0 65 = some (151, 0) ∧ ((vp_in a1 (hn h1 151 0) ∧ (((hi h1 151 0 a1.toNatClampNeg) = 3 → ((hr h1 12 0 66 = some (152, 0) ∧ ((vp_in a1 (hn h1 152 0) ∧ ((1 ≤ d ∧ Ec (d - 1) 0 0 m_X11_in [vR (some (12, 0)), vI a2, vI 0, vI ((hi h1 152 0 a1.toNatClampNeg) - 1)] h1 (kI fun x4 h3 => ((x4 = 0 → Q (vI (-13)) h3) ∧ (¬ x4 = 0 → ((hr h3 12 0 67 = some (153, 0) ∧ ((vp_in ((60 * a1) + a2) (hn h3 153 0) ∧ (∀ h5, h5 = wI h3 153 0 ((60 * a1) + a2).toNatClampNeg 999999999 → Q (vI 1) h5))))))))))))))) ∧ (¬ (hi h1 151 0 a1.toNatClampNeg) = 3 → Q (vI (-12)) h1)))))))))))))))))
theorem sX11_blank_0 {d rc rs : Nat} {a1 : Int32} {a2 : Int32} {σ : XH} {Q : XV → XH → Prop} (h : bX11_blank_0 d rc rs a1 a2 σ Q) : Ex d rc rs m_X11_blank 0 [vR (some (12, 0)), vI a1, vI a2] [] σ Q :=
  xtree_sound (stop := stpX11_blank) okX11_blank 39 _ _ _ _ _ _ h
/-! SpotTimersModel.read(II)I -/
theorem dX11_read_0 : decode cX11_read 0 = .ok (.aload_n 0, 1) := by decide +kernel
theorem dX11_read_1 : decode cX11_read 1 = .ok (.iload_n 1, 1) := by decide +kernel
theorem dX11_read_2 : decode cX11_read 2 = .ok (.invokevirtual 295, 3) := by decide +kernel
theorem dX11_read_5 : decode cX11_read 5 = .ok (.ifCond .eq 29, 3) := by decide +kernel
theorem dX11_read_8 : decode cX11_read 8 = .ok (.aload_n 0, 1) := by decide +kernel
theorem dX11_read_9 : decode cX11_read 9 = .ok (.getfield 209, 3) := by decide +kernel
theorem dX11_read_12 : decode cX11_read 12 = .ok (.iload_n 1, 1) := by decide +kernel
theorem dX11_read_13 : decode cX11_read 13 = .ok (.iaload, 1) := by decide +kernel
theorem dX11_read_14 : decode cX11_read 14 = .ok (.ifCond .lt 20, 3) := by decide +kernel
theorem dX11_read_17 : decode cX11_read 17 = .ok (.aload_n 0, 1) := by decide +kernel
theorem dX11_read_18 : decode cX11_read 18 = .ok (.iload_n 2, 1) := by decide +kernel
theorem dX11_read_19 : decode cX11_read 19 = .ok (.iconst 0, 1) := by decide +kernel
theorem dX11_read_20 : decode cX11_read 20 = .ok (.aload_n 0, 1) := by decide +kernel
theorem dX11_read_21 : decode cX11_read 21 = .ok (.getfield 212, 3) := by decide +kernel
theorem dX11_read_24 : decode cX11_read 24 = .ok (.iload_n 1, 1) := by decide +kernel
theorem dX11_read_25 : decode cX11_read 25 = .ok (.iaload, 1) := by decide +kernel
theorem dX11_read_26 : decode cX11_read 26 = .ok (.iconst 1, 1) := by decide +kernel
theorem dX11_read_27 : decode cX11_read 27 = .ok (.isub, 1) := by decide +kernel
theorem dX11_read_28 : decode cX11_read 28 = .ok (.invokevirtual 222, 3) := by decide +kernel
theorem dX11_read_31 : decode cX11_read 31 = .ok (.ifCond .ne 9, 3) := by decide +kernel
theorem dX11_read_34 : decode cX11_read 34 = .ok (.ldc_w 256, 3) := by decide +kernel
theorem dX11_read_37 : decode cX11_read 37 = .ok (.goto 14, 3) := by decide +kernel
theorem dX11_read_40 : decode cX11_read 40 = .ok (.aload_n 0, 1) := by decide +kernel
theorem dX11_read_41 : decode cX11_read 41 = .ok (.getfield 215, 3) := by decide +kernel
theorem dX11_read_44 : decode cX11_read 44 = .ok (.bipush 60, 2) := by decide +kernel
theorem dX11_read_46 : decode cX11_read 46 = .ok (.iload_n 1, 1) := by decide +kernel
theorem dX11_read_47 : decode cX11_read 47 = .ok (.imul, 1) := by decide +kernel
theorem dX11_read_48 : decode cX11_read 48 = .ok (.iload_n 2, 1) := by decide +kernel
theorem dX11_read_49 : decode cX11_read 49 = .ok (.iadd, 1) := by decide +kernel
theorem dX11_read_50 : decode cX11_read 50 = .ok (.iaload, 1) := by decide +kernel
theorem dX11_read_51 : decode cX11_read 51 = .ok (.ireturn, 1) := by decide +kernel
theorem oX11_read_0 : OKI 245 0 (.aload_n 0, 1, [0], 0, 0, []) := And.intro dX11_read_0 (And.intro rfl (rfl))
theorem oX11_read_1 : OKI 245 1 (.iload_n 1, 2, [1], 0, 0, []) := And.intro dX11_read_1 (And.intro rfl (rfl))
theorem oX11_read_2 : OKI 245 2 (.invokevirtual 295, 5, [241, 2, 13, 0, 0, 1], 0, 0, []) := And.intro dX11_read_2 (And.intro rfl (And.intro (by decide) (And.intro (by decide) (And.intro mo_X11_isTape (And.intro (tm_7 _ (List.mem_of_getElem? (i := 74) rfl) rfl) (And.intro (tm_7 _ (List.mem_of_getElem? (i := 76) rfl) rfl) (And.intro (pm_4 _ (List.mem_of_getElem? (i := 11) rfl)) (Or.inl ⟨(RX11, TX11, 69), rfl, rfl⟩))))))))
theorem oX11_read_5 : OKI 245 5 (.ifCond .eq 29, 8, [34], 0, 0, []) := And.intro dX11_read_5 (And.intro rfl (by decide))
theorem oX11_read_8 : OKI 245 8 (.aload_n 0, 9, [0], 0, 0, []) := And.intro dX11_read_8 (And.intro rfl (rfl))
theorem oX11_read_9 : OKI 245 9 (.getfield 209, 12, [12, 65, 2, 151, 0], 0, 0, []) := And.intro dX11_read_9 (And.intro rfl (⟨(RX11, TX11, 69), "SpotTimersModel", rfl, by decide, tm_6 _ (List.mem_of_getElem? (i := 31) rfl) rfl, Or.inl rfl, rfl, rfl⟩))
theorem oX11_read_12 : OKI 245 12 (.iload_n 1, 13, [1], 0, 0, []) := And.intro dX11_read_12 (And.intro rfl (rfl))
theorem oX11_read_13 : OKI 245 13 (.iaload, 14, [], 0, 0, []) := And.intro dX11_read_13 rfl
theorem oX11_read_14 : OKI 245 14 (.ifCond .lt 20, 17, [34], 0, 0, []) := And.intro dX11_read_14 (And.intro rfl (by decide))
theorem oX11_read_17 : OKI 245 17 (.aload_n 0, 18, [0], 0, 0, []) := And.intro dX11_read_17 (And.intro rfl (rfl))
theorem oX11_read_18 : OKI 245 18 (.iload_n 2, 19, [2], 0, 0, []) := And.intro dX11_read_18 (And.intro rfl (rfl))
theorem oX11_read_19 : OKI 245 19 (.iconst 0, 20, [], 0, 0, []) := And.intro dX11_read_19 (And.intro rfl (by decide +kernel))
theorem oX11_read_20 : OKI 245 20 (.aload_n 0, 21, [0], 0, 0, []) := And.intro dX11_read_20 (And.intro rfl (rfl))
theorem oX11_read_21 : OKI 245 21 (.getfield 212, 24, [12, 66, 2, 152, 0], 0, 0, []) := And.intro dX11_read_21 (And.intro rfl (⟨(RX11, TX11, 69), "SpotTimersModel", rfl, by decide, tm_6 _ (List.mem_of_getElem? (i := 32) rfl) rfl, Or.inl rfl, rfl, rfl⟩))
theorem oX11_read_24 : OKI 245 24 (.iload_n 1, 25, [1], 0, 0, []) := And.intro dX11_read_24 (And.intro rfl (rfl))
theorem oX11_read_25 : OKI 245 25 (.iaload, 26, [], 0, 0, []) := And.intro dX11_read_25 rfl
theorem oX11_read_26 : OKI 245 26 (.iconst 1, 27, [], 1, 0, []) := And.intro dX11_read_26 (And.intro rfl (by decide +kernel))
theorem oX11_read_27 : OKI 245 27 (.isub, 28, [], 0, 0, []) := And.intro dX11_read_27 rfl
theorem oX11_read_28 : OKI 245 28 (.invokevirtual 222, 31, [141, 4, 13, 0, 0, 1], 0, 0, []) := And.intro dX11_read_28 (And.intro rfl (And.intro (by decide) (And.intro (by decide) (And.intro mo_X11_in (And.intro (tm_6 _ (List.mem_of_getElem? (i := 179) rfl) rfl) (And.intro (tm_6 _ (List.mem_of_getElem? (i := 181) rfl) rfl) (And.intro (pm_3 _ (List.mem_of_getElem? (i := 8) rfl)) (Or.inl ⟨(RX11, TX11, 69), rfl, rfl⟩))))))))
theorem oX11_read_31 : OKI 245 31 (.ifCond .ne 9, 34, [40], 0, 0, []) := And.intro dX11_read_31 (And.intro rfl (by decide))
theorem oX11_read_34 : OKI 245 34 (.ldc_w 256, 37, [], (-1000000000), 0, []) := And.intro dX11_read_34 (And.intro rfl (tm_7 _ (List.mem_of_getElem? (i := 11) rfl) rfl))
theorem oX11_read_37 : OKI 245 37 (.goto 14, 40, [51], 0, 0, []) := And.intro dX11_read_37 (And.intro rfl (by decide))
theorem oX11_read_40 : OKI 245 40 (.aload_n 0, 41, [0], 0, 0, []) := And.intro dX11_read_40 (And.intro rfl (rfl))
theorem oX11_read_41 : OKI 245 41 (.getfield 215, 44, [12, 67, 2, 153, 0], 0, 0, []) := And.intro dX11_read_41 (And.intro rfl (⟨(RX11, TX11, 69), "SpotTimersModel", rfl, by decide, tm_6 _ (List.mem_of_getElem? (i := 33) rfl) rfl, Or.inl rfl, rfl, rfl⟩))
theorem oX11_read_44 : OKI 245 44 (.bipush 60, 46, [], 60, 0, []) := And.intro dX11_read_44 (And.intro rfl (by decide +kernel))
theorem oX11_read_46 : OKI 245 46 (.iload_n 1, 47, [1], 0, 0, []) := And.intro dX11_read_46 (And.intro rfl (rfl))
theorem oX11_read_47 : OKI 245 47 (.imul, 48, [], 0, 0, []) := And.intro dX11_read_47 rfl
theorem oX11_read_48 : OKI 245 48 (.iload_n 2, 49, [2], 0, 0, []) := And.intro dX11_read_48 (And.intro rfl (rfl))
theorem oX11_read_49 : OKI 245 49 (.iadd, 50, [], 0, 0, []) := And.intro dX11_read_49 rfl
theorem oX11_read_50 : OKI 245 50 (.iaload, 51, [], 0, 0, []) := And.intro dX11_read_50 rfl
theorem oX11_read_51 : OKI 245 51 (.ireturn, 52, [0], 0, 0, []) := And.intro dX11_read_51 (Or.inl (And.intro rfl rfl))
def pfX11_read (pc : Nat) : Option XE := (bif Nat.blt pc 25 then (bif Nat.blt pc 13 then (bif Nat.blt pc 5 then (bif Nat.blt pc 1 then (bif Nat.beq pc 0 then some (.aload_n 0, 1, [0], 0, 0, []) else none) else (bif Nat.blt pc 2 then (bif Nat.beq pc 1 then some (.iload_n 1, 2, [1], 0, 0, []) else none) else (bif Nat.beq pc 2 then some (.invokevirtual 295, 5, [241, 2, 13, 0, 0, 1], 0, 0, []) else none))) else (bif Nat.blt pc 9 then (bif Nat.blt pc 8 then (bif Nat.beq pc 5 then some (.ifCond .eq 29, 8, [34], 0, 0, []) else none) else (bif Nat.beq pc 8 then some (.aload_n 0, 9, [0], 0, 0, []) else none)) else (bif Nat.blt pc 12 then (bif Nat.beq pc 9 then some (.getfield 209, 12, [12, 65, 2, 151, 0], 0, 0, []) else none) else (bif Nat.beq pc 12 then some (.iload_n 1, 13, [1], 0, 0, []) else none)))) else (bif Nat.blt pc 19 then (bif Nat.blt pc 17 then (bif Nat.blt pc 14 then (bif Nat.beq pc 13 then some (.iaload, 14, [], 0, 0, []) else none) else (bif Nat.beq pc 14 then some (.ifCond .lt 20, 17, [34], 0, 0, []) else none)) else (bif Nat.blt pc 18 then (bif Nat.beq pc 17 then some (.aload_n 0, 18, [0], 0, 0, []) else none) else (bif Nat.beq pc 18 then some (.iload_n 2, 19, [2], 0, 0, []) else none))) else (bif Nat.blt pc 21 then (bif Nat.blt pc 20 then (bif Nat.beq pc 19 then some (.iconst 0, 20, [], 0, 0, []) else none) else (bif Nat.beq pc 20 then some (.aload_n 0, 21, [0], 0, 0, []) else none)) else (bif Nat.blt pc 24 then (bif Nat.beq pc 21 then some (.getfield 212, 24, [12, 66, 2, 152, 0], 0, 0, []) else none) else (bif Nat.beq pc 24 then some (.iload_n 1, 25, [1], 0, 0, []) else none))))) else (bif Nat.blt pc 41 then (bif Nat.blt pc 31 then (bif Nat.blt pc 27 then (bif Nat.blt pc 26 then (bif Nat.beq pc 25 then some (.iaload, 26, [], 0, 0, []) else none) else (bif Nat.beq pc 26 then some (.iconst 1, 27, [], 1, 0, []) else none)) else (bif Nat.blt pc 28 then (bif Nat.beq pc 27 then some (.isub, 28, [], 0, 0, []) else none) else (bif Nat.beq pc 28 then some (.invokevirtual 222, 31, [141, 4, 13, 0, 0, 1], 0, 0, []) else none))) else (bif Nat.blt pc 37 then (bif Nat.blt pc 34 then (bif Nat.beq pc 31 then some (.ifCond .ne 9, 34, [40], 0, 0, []) else none) else (bif Nat.beq pc 34 then some (.ldc_w 256, 37, [], (-1000000000), 0, []) else none)) else (bif Nat.blt pc 40 then (bif Nat.beq pc 37 then some (.goto 14, 40, [51], 0, 0, []) else none) else (bif Nat.beq pc 40 then some (.aload_n 0, 41, [0], 0, 0, []) else none)))) else (bif Nat.blt pc 48 then (bif Nat.blt pc 46 then (bif Nat.blt pc 44 then (bif Nat.beq pc 41 then some (.getfield 215, 44, [12, 67, 2, 153, 0], 0, 0, []) else none) else (bif Nat.beq pc 44 then some (.bipush 60, 46, [], 60, 0, []) else none)) else (bif Nat.blt pc 47 then (bif Nat.beq pc 46 then some (.iload_n 1, 47, [1], 0, 0, []) else none) else (bif Nat.beq pc 47 then some (.imul, 48, [], 0, 0, []) else none))) else (bif Nat.blt pc 50 then (bif Nat.blt pc 49 then (bif Nat.beq pc 48 then some (.iload_n 2, 49, [2], 0, 0, []) else none) else (bif Nat.beq pc 49 then some (.iadd, 50, [], 0, 0, []) else none)) else (bif Nat.blt pc 51 then (bif Nat.beq pc 50 then some (.iaload, 51, [], 0, 0, []) else none) else (bif Nat.beq pc 51 then some (.ireturn, 52, [0], 0, 0, []) else none))))))
theorem okX11_read : ∀ pc Y, pfX11_read pc = some Y → OKI m_X11_read pc Y := fun pc Y => ((bt_node (bt_node (bt_node (bt_node (bt_leaf (P := OKI m_X11_read) oX11_read_0) (bt_node (bt_leaf (P := OKI m_X11_read) oX11_read_1) (bt_leaf (P := OKI m_X11_read) oX11_read_2))) (bt_node (bt_node (bt_leaf (P := OKI m_X11_read) oX11_read_5) (bt_leaf (P := OKI m_X11_read) oX11_read_8)) (bt_node (bt_leaf (P := OKI m_X11_read) oX11_read_9) (bt_leaf (P := OKI m_X11_read) oX11_read_12)))) (bt_node (bt_node (bt_node (bt_leaf (P := OKI m_X11_read) oX11_read_13) (bt_leaf (P := OKI m_X11_read) oX11_read_14)) (bt_node (bt_leaf (P := OKI m_X11_read) oX11_read_17) (bt_leaf (P := OKI m_X11_read) oX11_read_18))) (bt_node (bt_node (bt_leaf (P := OKI m_X11_read) oX11_read_19) (bt_leaf (P := OKI m_X11_read) oX11_read_20)) (bt_node (bt_leaf (P := OKI m_X11_read) oX11_read_21) (bt_leaf (P := OKI m_X11_read) oX11_read_24))))) (bt_node (bt_node (bt_node (bt_node (bt_leaf (P := OKI m_X11_read) oX11_read_25) (bt_leaf (P := OKI m_X11_read) oX11_read_26)) (bt_node (bt_leaf (P := OKI m_X11_read) oX11_read_27) (bt_leaf (P := OKI m_X11_read) oX11_read_28))) (bt_node (bt_node (bt_leaf (P := OKI m_X11_read) oX11_read_31) (bt_leaf (P := OKI m_X11_read) oX11_read_34)) (bt_node (bt_leaf (P := OKI m_X11_read) oX11_read_37) (bt_leaf (P := OKI m_X11_read) oX11_read_40)))) (bt_node (bt_node (bt_node (bt_leaf (P := OKI m_X11_read) oX11_read_41) (bt_leaf (P := OKI m_X11_read) oX11_read_44)) (bt_node (bt_leaf (P := OKI m_X11_read) oX11_read_46) (bt_leaf (P := OKI m_X11_read) oX11_read_47))) (bt_node (bt_node (bt_leaf (P := OKI m_X11_read) oX11_read_48) (bt_leaf (P := OKI m_X11_read) oX11_read_49)) (bt_node (bt_leaf (P := OKI m_X11_read) oX11_read_50) (bt_leaf (P := OKI m_X11_read) oX11_read_51)))))) : pfX11_read pc = some Y → OKI m_X11_read pc Y)
def stpX11_read (pc : Nat) : Option (List Bool) := (bif Nat.blt pc 51 then (bif Nat.beq pc 34 then some [false, false, false] else none) else (bif Nat.beq pc 51 then some [false, false, false] else none))
def bX11_read_0 (d rc rs : Nat) (a1 : Int32) (a2 : Int32) (σ : XH) (Q : XV → XH → Prop) : Prop :=
  ((1 ≤ d ∧ Ec (d - 1) 0 0 m_X11_isTape [vR (some (12, 0)), vI a1] σ (kI fun x2 h1 => ((x2 = 0 → Ex d rc rs m_X11_read 34 [vU, vU, vU] [] h1 Q) ∧ (¬ x2 = 0 → ((hr h1 12 0 65 = some (151, 0) ∧ ((vp_in a1 (hn h1 151 0) ∧ (((hi h1 151 0 a1.toNatClampNeg) < 0 → Ex d rc rs m_X11_read 34 [vU, vU, vU] [] h1 Q) ∧ (¬ (hi h1 151 0 a1.toNatClampNeg) < 0 → ((hr h1 12 0 66 = some (152, 0) ∧ ((vp_in a1 (hn h1 152 0) ∧ ((1 ≤ d ∧ Ec (d - 1) 0 0 m_X11_in [vR (some (12, 0)), vI a2, vI 0, vI ((hi h1 152 0 a1.toNatClampNeg) - 1)] h1 (kI fun x4 h3 => ((x4 = 0 → Ex d rc rs m_X11_read 34 [vU, vU, vU] [] h3 Q) ∧ (¬ x4 = 0 → ((hr h3 12 0 67 = some (153, 0) ∧ ((vp_in ((60 * a1) + a2) (hn h3 153 0) ∧ Ex d rc rs m_X11_read 51 [vU, vU, vU] [vI (hi h3 153 0 ((60 * a1) + a2).toNatClampNeg)] h3 Q))))))))))))))))))))))))
theorem sX11_read_0 {d rc rs : Nat} {a1 : Int32} {a2 : Int32} {σ : XH} {Q : XV → XH → Prop} (h : bX11_read_0 d rc rs a1 a2 σ Q) : Ex d rc rs m_X11_read 0 [vR (some (12, 0)), vI a1, vI a2] [] σ Q :=
  xtree_sound (stop := stpX11_read) okX11_read 30 _ _ _ _ _ _ h
def bX11_read_34 (d rc rs : Nat)  (σ : XH) (Q : XV → XH → Prop) : Prop :=
  Ex d rc rs m_X11_read 51 [vU, vU, vU] [vI (-1000000000)] σ Q
theorem sX11_read_34 {d rc rs : Nat}  {σ : XH} {Q : XV → XH → Prop} (h : bX11_read_34 d rc rs  σ Q) : Ex d rc rs m_X11_read 34 [vU, vU, vU] [] σ Q :=
  xtree_sound (stop := stpX11_read) okX11_read 4 _ _ _ _ _ _ h
def bX11_read_51 (d rc rs : Nat) (q0 : Int32) (σ : XH) (Q : XV → XH → Prop) : Prop :=
  Q (vI q0) σ
theorem sX11_read_51 {d rc rs : Nat} {q0 : Int32} {σ : XH} {Q : XV → XH → Prop} (h : bX11_read_51 d rc rs q0 σ Q) : Ex d rc rs m_X11_read 51 [vU, vU, vU] [vI q0] σ Q :=
  xtree_sound (stop := stpX11_read) okX11_read 3 _ _ _ _ _ _ h
