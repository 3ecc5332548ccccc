/-! ===== blocks: 32.bspot ===== -/
/-! SpotTimers.distance(III)I -/
theorem dX10_distance_0 : decode cX10_distance 0 = .ok (.iload_n 3, 1) := by decide +kernel
theorem dX10_distance_1 : decode cX10_distance 1 = .ok (.iconst 0, 1) := by decide +kernel
theorem dX10_distance_2 : decode cX10_distance 2 = .ok (.iconst 1, 1) := by decide +kernel
theorem dX10_distance_3 : decode cX10_distance 3 = .ok (.invokestatic 84, 3) := by decide +kernel
theorem dX10_distance_6 : decode cX10_distance 6 = .ok (.ifCond .eq 12, 3) := by decide +kernel
theorem dX10_distance_9 : decode cX10_distance 9 = .ok (.aload_n 0, 1) := by decide +kernel
theorem dX10_distance_10 : decode cX10_distance 10 = .ok (.iload_n 1, 1) := by decide +kernel
theorem dX10_distance_11 : decode cX10_distance 11 = .ok (.iload_n 2, 1) := by decide +kernel
theorem dX10_distance_12 : decode cX10_distance 12 = .ok (.invokevirtual 300, 3) := by decide +kernel
theorem dX10_distance_15 : decode cX10_distance 15 = .ok (.ifCond .ne 6, 3) := by decide +kernel
theorem dX10_distance_18 : decode cX10_distance 18 = .ok (.bipush (-5), 2) := by decide +kernel
theorem dX10_distance_20 : decode cX10_distance 20 = .ok (.ireturn, 1) := by decide +kernel
theorem dX10_distance_21 : decode cX10_distance 21 = .ok (.aload_n 0, 1) := by decide +kernel
theorem dX10_distance_22 : decode cX10_distance 22 = .ok (.getfield 62, 3) := by decide +kernel
theorem dX10_distance_25 : decode cX10_distance 25 = .ok (.invokevirtual 323, 3) := by decide +kernel
theorem dX10_distance_28 : decode cX10_distance 28 = .ok (.istore 4, 2) := by decide +kernel
theorem dX10_distance_30 : decode cX10_distance 30 = .ok (.iload_n 3, 1) := by decide +kernel
theorem dX10_distance_31 : decode cX10_distance 31 = .ok (.ifCond .ne 8, 3) := by decide +kernel
theorem dX10_distance_34 : decode cX10_distance 34 = .ok (.iload 4, 2) := by decide +kernel
theorem dX10_distance_36 : decode cX10_distance 36 = .ok (.goto 17, 3) := by decide +kernel
theorem dX10_distance_39 : decode cX10_distance 39 = .ok (.aload_n 0, 1) := by decide +kernel
theorem dX10_distance_40 : decode cX10_distance 40 = .ok (.getfield 62, 3) := by decide +kernel
theorem dX10_distance_43 : decode cX10_distance 43 = .ok (.iload 4, 2) := by decide +kernel
theorem dX10_distance_45 : decode cX10_distance 45 = .ok (.invokevirtual 326, 3) := by decide +kernel
theorem dX10_distance_48 : decode cX10_distance 48 = .ok (.ldc2_w 330, 3) := by decide +kernel
theorem dX10_distance_51 : decode cX10_distance 51 = .ok (.lrem, 1) := by decide +kernel
theorem dX10_distance_52 : decode cX10_distance 52 = .ok (.l2i, 1) := by decide +kernel
theorem dX10_distance_53 : decode cX10_distance 53 = .ok (.ireturn, 1) := by decide +kernel
theorem oX10_distance_0 : OKI 93 0 (.iload_n 3, 1, [3], 0, 0, []) := And.intro dX10_distance_0 (And.intro rfl (rfl))
theorem oX10_distance_1 : OKI 93 1 (.iconst 0, 2, [], 0, 0, []) := And.intro dX10_distance_1 (And.intro rfl (by decide +kernel))
theorem oX10_distance_2 : OKI 93 2 (.iconst 1, 3, [], 1, 0, []) := And.intro dX10_distance_2 (And.intro rfl (by decide +kernel))
theorem oX10_distance_3 : OKI 93 3 (.invokestatic 84, 6, [111, 3, 0, 0, 0, 1], 0, 0, []) := And.intro dX10_distance_3 (And.intro rfl (And.intro rfl (And.intro mo_X10_within (And.intro (Or.inl (tm_2 _ (List.mem_of_getElem? (i := 40) rfl) rfl)) (tm_2 _ (List.mem_of_getElem? (i := 41) rfl) rfl)))))
theorem oX10_distance_6 : OKI 93 6 (.ifCond .eq 12, 9, [18], 0, 0, []) := And.intro dX10_distance_6 (And.intro rfl (by decide))
theorem oX10_distance_9 : OKI 93 9 (.aload_n 0, 10, [0], 0, 0, []) := And.intro dX10_distance_9 (And.intro rfl (rfl))
theorem oX10_distance_10 : OKI 93 10 (.iload_n 1, 11, [1], 0, 0, []) := And.intro dX10_distance_10 (And.intro rfl (rfl))
theorem oX10_distance_11 : OKI 93 11 (.iload_n 2, 12, [2], 0, 0, []) := And.intro dX10_distance_11 (And.intro rfl (rfl))
theorem oX10_distance_12 : OKI 93 12 (.invokevirtual 300, 15, [134, 3, 12, 0, 0, 1], 0, 0, []) := And.intro dX10_distance_12 (And.intro rfl (And.intro (by decide) (And.intro (by decide) (And.intro mo_X10_gathersSum (And.intro (tm_4 _ (List.mem_of_getElem? (i := 209) rfl) rfl) (And.intro (tm_4 _ (List.mem_of_getElem? (i := 211) rfl) rfl) (And.intro (pm_2 _ (List.mem_of_getElem? (i := 14) rfl)) (Or.inl ⟨(RX10, TX10, 15), rfl, rfl⟩))))))))
theorem oX10_distance_15 : OKI 93 15 (.ifCond .ne 6, 18, [21], 0, 0, []) := And.intro dX10_distance_15 (And.intro rfl (by decide))
theorem oX10_distance_18 : OKI 93 18 (.bipush (-5), 20, [], (-5), 0, []) := And.intro dX10_distance_18 (And.intro rfl (by decide +kernel))
theorem oX10_distance_20 : OKI 93 20 (.ireturn, 21, [0], 0, 0, []) := And.intro dX10_distance_20 (Or.inl (And.intro rfl rfl))
theorem oX10_distance_21 : OKI 93 21 (.aload_n 0, 22, [0], 0, 0, []) := And.intro dX10_distance_21 (And.intro rfl (rfl))
theorem oX10_distance_22 : OKI 93 22 (.getfield 62, 25, [11, 10, 2, 9, 0], 0, 0, []) := And.intro dX10_distance_22 (And.intro rfl (⟨(RX10, TX10, 15), "SpotTimers", rfl, by decide, tm_2 _ (List.mem_of_getElem? (i := 0) rfl) rfl, Or.inl rfl, rfl, rfl⟩))
theorem oX10_distance_25 : OKI 93 25 (.invokevirtual 323, 28, [54, 1, 10, 0, 0, 1], 0, 0, []) := And.intro dX10_distance_25 (And.intro rfl (And.intro (by decide) (And.intro (by decide) (And.intro mo_X8_bestDistance (And.intro (tm_4 _ (List.mem_of_getElem? (i := 232) rfl) rfl) (And.intro (tm_4 _ (List.mem_of_getElem? (i := 233) rfl) rfl) (And.intro (tm_4 _ (List.mem_of_getElem? (i := 234) rfl) rfl) (Or.inl ⟨(RX8, TX8, 10), rfl, rfl⟩))))))))
theorem oX10_distance_28 : OKI 93 28 (.istore 4, 30, [4], 0, 0, []) := And.intro dX10_distance_28 (And.intro rfl (And.intro rfl (by decide)))
theorem oX10_distance_30 : OKI 93 30 (.iload_n 3, 31, [3], 0, 0, []) := And.intro dX10_distance_30 (And.intro rfl (rfl))
theorem oX10_distance_31 : OKI 93 31 (.ifCond .ne 8, 34, [39], 0, 0, []) := And.intro dX10_distance_31 (And.intro rfl (by decide))
theorem oX10_distance_34 : OKI 93 34 (.iload 4, 36, [4], 0, 0, []) := And.intro dX10_distance_34 (And.intro rfl (rfl))
theorem oX10_distance_36 : OKI 93 36 (.goto 17, 39, [53], 0, 0, []) := And.intro dX10_distance_36 (And.intro rfl (by decide))
theorem oX10_distance_39 : OKI 93 39 (.aload_n 0, 40, [0], 0, 0, []) := And.intro dX10_distance_39 (And.intro rfl (rfl))
theorem oX10_distance_40 : OKI 93 40 (.getfield 62, 43, [11, 10, 2, 9, 0], 0, 0, []) := And.intro dX10_distance_40 (And.intro rfl (⟨(RX10, TX10, 15), "SpotTimers", rfl, by decide, tm_2 _ (List.mem_of_getElem? (i := 0) rfl) rfl, Or.inl rfl, rfl, rfl⟩))
theorem oX10_distance_43 : OKI 93 43 (.iload 4, 45, [4], 0, 0, []) := And.intro dX10_distance_43 (And.intro rfl (rfl))
theorem oX10_distance_45 : OKI 93 45 (.invokevirtual 326, 48, [56, 2, 10, 0, 0, 2], 0, 0, []) := And.intro dX10_distance_45 (And.intro rfl (And.intro (by decide) (And.intro (by decide) (And.intro mo_X8_together (And.intro (tm_5 _ (List.mem_of_getElem? (i := 4) rfl) rfl) (And.intro (tm_5 _ (List.mem_of_getElem? (i := 5) rfl) rfl) (And.intro (tm_5 _ (List.mem_of_getElem? (i := 6) rfl) rfl) (Or.inl ⟨(RX8, TX8, 10), rfl, rfl⟩))))))))
theorem oX10_distance_48 : OKI 93 48 (.ldc2_w 330, 51, [], 0, 1000000007, []) := And.intro dX10_distance_48 (And.intro rfl (tm_5 _ (List.mem_of_getElem? (i := 14) rfl) rfl))
theorem oX10_distance_51 : OKI 93 51 (.lrem, 52, [], 0, 0, []) := And.intro dX10_distance_51 rfl
theorem oX10_distance_52 : OKI 93 52 (.l2i, 53, [], 0, 0, []) := And.intro dX10_distance_52 rfl
theorem oX10_distance_53 : OKI 93 53 (.ireturn, 54, [0], 0, 0, []) := And.intro dX10_distance_53 (Or.inl (And.intro rfl rfl))
def pfX10_distance (pc : Nat) : Option XE := (bif Nat.blt pc 25 then (bif Nat.blt pc 11 then (bif Nat.blt pc 3 then (bif Nat.blt pc 1 then (bif Nat.beq pc 0 then some (.iload_n 3, 1, [3], 0, 0, []) else none) else (bif Nat.blt pc 2 then (bif Nat.beq pc 1 then some (.iconst 0, 2, [], 0, 0, []) else none) else (bif Nat.beq pc 2 then some (.iconst 1, 3, [], 1, 0, []) else none))) else (bif Nat.blt pc 9 then (bif Nat.blt pc 6 then (bif Nat.beq pc 3 then some (.invokestatic 84, 6, [111, 3, 0, 0, 0, 1], 0, 0, []) else none) else (bif Nat.beq pc 6 then some (.ifCond .eq 12, 9, [18], 0, 0, []) else none)) else (bif Nat.blt pc 10 then (bif Nat.beq pc 9 then some (.aload_n 0, 10, [0], 0, 0, []) else none) else (bif Nat.beq pc 10 then some (.iload_n 1, 11, [1], 0, 0, []) else none)))) else (bif Nat.blt pc 18 then (bif Nat.blt pc 12 then (bif Nat.beq pc 11 then some (.iload_n 2, 12, [2], 0, 0, []) else none) else (bif Nat.blt pc 15 then (bif Nat.beq pc 12 then some (.invokevirtual 300, 15, [134, 3, 12, 0, 0, 1], 0, 0, []) else none) else (bif Nat.beq pc 15 then some (.ifCond .ne 6, 18, [21], 0, 0, []) else none))) else (bif Nat.blt pc 21 then (bif Nat.blt pc 20 then (bif Nat.beq pc 18 then some (.bipush (-5), 20, [], (-5), 0, []) else none) else (bif Nat.beq pc 20 then some (.ireturn, 21, [0], 0, 0, []) else none)) else (bif Nat.blt pc 22 then (bif Nat.beq pc 21 then some (.aload_n 0, 22, [0], 0, 0, []) else none) else (bif Nat.beq pc 22 then some (.getfield 62, 25, [11, 10, 2, 9, 0], 0, 0, []) else none))))) else (bif Nat.blt pc 40 then (bif Nat.blt pc 31 then (bif Nat.blt pc 28 then (bif Nat.beq pc 25 then some (.invokevirtual 323, 28, [54, 1, 10, 0, 0, 1], 0, 0, []) else none) else (bif Nat.blt pc 30 then (bif Nat.beq pc 28 then some (.istore 4, 30, [4], 0, 0, []) else none) else (bif Nat.beq pc 30 then some (.iload_n 3, 31, [3], 0, 0, []) else none))) else (bif Nat.blt pc 36 then (bif Nat.blt pc 34 then (bif Nat.beq pc 31 then some (.ifCond .ne 8, 34, [39], 0, 0, []) else none) else (bif Nat.beq pc 34 then some (.iload 4, 36, [4], 0, 0, []) else none)) else (bif Nat.blt pc 39 then (bif Nat.beq pc 36 then some (.goto 17, 39, [53], 0, 0, []) else none) else (bif Nat.beq pc 39 then some (.aload_n 0, 40, [0], 0, 0, []) else none)))) else (bif Nat.blt pc 48 then (bif Nat.blt pc 43 then (bif Nat.beq pc 40 then some (.getfield 62, 43, [11, 10, 2, 9, 0], 0, 0, []) else none) else (bif Nat.blt pc 45 then (bif Nat.beq pc 43 then some (.iload 4, 45, [4], 0, 0, []) else none) else (bif Nat.beq pc 45 then some (.invokevirtual 326, 48, [56, 2, 10, 0, 0, 2], 0, 0, []) else none))) else (bif Nat.blt pc 52 then (bif Nat.blt pc 51 then (bif Nat.beq pc 48 then some (.ldc2_w 330, 51, [], 0, 1000000007, []) else none) else (bif Nat.beq pc 51 then some (.lrem, 52, [], 0, 0, []) else none)) else (bif Nat.blt pc 53 then (bif Nat.beq pc 52 then some (.l2i, 53, [], 0, 0, []) else none) else (bif Nat.beq pc 53 then some (.ireturn, 54, [0], 0, 0, []) else none))))))
theorem okX10_distance : ∀ pc Y, pfX10_distance pc = some Y → OKI m_X10_distance pc Y := fun pc Y => ((bt_node (bt_node (bt_node (bt_node (bt_leaf (P := OKI m_X10_distance) oX10_distance_0) (bt_node (bt_leaf (P := OKI m_X10_distance) oX10_distance_1) (bt_leaf (P := OKI m_X10_distance) oX10_distance_2))) (bt_node (bt_node (bt_leaf (P := OKI m_X10_distance) oX10_distance_3) (bt_leaf (P := OKI m_X10_distance) oX10_distance_6)) (bt_node (bt_leaf (P := OKI m_X10_distance) oX10_distance_9) (bt_leaf (P := OKI m_X10_distance) oX10_distance_10)))) (bt_node (bt_node (bt_leaf (P := OKI m_X10_distance) oX10_distance_11) (bt_node (bt_leaf (P := OKI m_X10_distance) oX10_distance_12) (bt_leaf (P := OKI m_X10_distance) oX10_distance_15))) (bt_node (bt_node (bt_leaf (P := OKI m_X10_distance) oX10_distance_18) (bt_leaf (P := OKI m_X10_distance) oX10_distance_20)) (bt_node (bt_leaf (P := OKI m_X10_distance) oX10_distance_21) (bt_leaf (P := OKI m_X10_distance) oX10_distance_22))))) (bt_node (bt_node (bt_node (bt_leaf (P := OKI m_X10_distance) oX10_distance_25) (bt_node (bt_leaf (P := OKI m_X10_distance) oX10_distance_28) (bt_leaf (P := OKI m_X10_distance) oX10_distance_30))) (bt_node (bt_node (bt_leaf (P := OKI m_X10_distance) oX10_distance_31) (bt_leaf (P := OKI m_X10_distance) oX10_distance_34)) (bt_node (bt_leaf (P := OKI m_X10_distance) oX10_distance_36) (bt_leaf (P := OKI m_X10_distance) oX10_distance_39)))) (bt_node (bt_node (bt_leaf (P := OKI m_X10_distance) oX10_distance_40) (bt_node (bt_leaf (P := OKI m_X10_distance) oX10_distance_43) (bt_leaf (P := OKI m_X10_distance) oX10_distance_45))) (bt_node (bt_node (bt_leaf (P := OKI m_X10_distance) oX10_distance_48) (bt_leaf (P := OKI m_X10_distance) oX10_distance_51)) (bt_node (bt_leaf (P := OKI m_X10_distance) oX10_distance_52) (bt_leaf (P := OKI m_X10_distance) oX10_distance_53)))))) : pfX10_distance pc = some Y → OKI m_X10_distance pc Y)
def stpX10_distance (pc : Nat) : Option (List Bool) := (bif Nat.blt pc 53 then (bif Nat.beq pc 18 then some [false, false, false, false, false] else none) else (bif Nat.beq pc 53 then some [false, false, false, false, false] else none))
def bX10_distance_0 (d rc rs : Nat) (a1 : Int32) (a2 : Int32) (a3 : Int32) (σ : XH) (Q : XV → XH → Prop) : Prop :=
  (1 ≤ d ∧ Ec (d - 1) 0 0 m_X10_within [vI a3, vI 0, vI 1] σ (kI fun x2 h1 => ((x2 = 0 → Ex d rc rs m_X10_distance 18 [vU, vU, vU, vU, vU] [] h1 Q) ∧ (¬ x2 = 0 → ((1 ≤ d ∧ Ec (d - 1) 0 0 m_X10_gathersSum [vR (some (11, 0)), vI a1, vI a2] h1 (kI fun x4 h3 => ((x4 = 0 → Ex d rc rs m_X10_distance 18 [vU, vU, vU, vU, vU] [] h3 Q) ∧ (¬ x4 = 0 → ((hr h3 11 0 10 = some (9, 0) ∧ ((1 ≤ d ∧ Ec (d - 1) 0 0 m_X8_bestDistance [vR (some (9, 0))] h3 (kI fun x6 h5 => ((a3 = 0 → Ex d rc rs m_X10_distance 53 [vU, vU, vU, vU, vU] [vI x6] h5 Q) ∧ (¬ a3 = 0 → ((hr h5 11 0 10 = some (9, 0) ∧ ((1 ≤ d ∧ Ec (d - 1) 0 0 m_X8_together [vR (some (9, 0)), vI x6] h5 (kL fun x8 h7 => (¬ (1000000007 : Int64) = 0 ∧ Ex d rc rs m_X10_distance 53 [vU, vU, vU, vU, vU] [vI ((x8 - x8 / 1000000007 * 1000000007).toInt32)] h7 Q))))))))))))))))))))))
theorem sX10_distance_0 {d rc rs : Nat} {a1 : Int32} {a2 : Int32} {a3 : Int32} {σ : XH} {Q : XV → XH → Prop} (h : bX10_distance_0 d rc rs a1 a2 a3 σ Q) : Ex d rc rs m_X10_distance 0 [vR (some (11, 0)), vI a1, vI a2, vI a3, vU] [] σ Q :=
  xtree_sound (stop := stpX10_distance) okX10_distance 25 _ _ _ _ _ _ h
def bX10_distance_18 (d rc rs : Nat)  (σ : XH) (Q : XV → XH → Prop) : Prop :=
  Q (vI (-5)) σ
theorem sX10_distance_18 {d rc rs : Nat}  {σ : XH} {Q : XV → XH → Prop} (h : bX10_distance_18 d rc rs  σ Q) : Ex d rc rs m_X10_distance 18 [vU, vU, vU, vU, vU] [] σ Q :=
  xtree_sound (stop := stpX10_distance) okX10_distance 4 _ _ _ _ _ _ h
def bX10_distance_53 (d rc rs : Nat) (q0 : Int32) (σ : XH) (Q : XV → XH → Prop) : Prop :=
  Q (vI q0) σ
theorem sX10_distance_53 {d rc rs : Nat} {q0 : Int32} {σ : XH} {Q : XV → XH → Prop} (h : bX10_distance_53 d rc rs q0 σ Q) : Ex d rc rs m_X10_distance 53 [vU, vU, vU, vU, vU] [vI q0] σ Q :=
  xtree_sound (stop := stpX10_distance) okX10_distance 3 _ _ _ _ _ _ h
/-! SpotTimers.rest(IIII)I -/
theorem dX10_rest_0 : decode cX10_rest 0 = .ok (.iload 4, 2) := by decide +kernel
theorem dX10_rest_2 : decode cX10_rest 2 = .ok (.iconst 0, 1) := by decide +kernel
theorem dX10_rest_3 : decode cX10_rest 3 = .ok (.ldc 88, 2) := by decide +kernel
theorem dX10_rest_5 : decode cX10_rest 5 = .ok (.invokestatic 84, 3) := by decide +kernel
theorem dX10_rest_8 : decode cX10_rest 8 = .ok (.ifCond .ne 6, 3) := by decide +kernel
theorem dX10_rest_11 : decode cX10_rest 11 = .ok (.ldc 179, 2) := by decide +kernel
theorem dX10_rest_13 : decode cX10_rest 13 = .ok (.ireturn, 1) := by decide +kernel
theorem dX10_rest_14 : decode cX10_rest 14 = .ok (.aload_n 0, 1) := by decide +kernel
theorem dX10_rest_15 : decode cX10_rest 15 = .ok (.iload_n 1, 1) := by decide +kernel
theorem dX10_rest_16 : decode cX10_rest 16 = .ok (.iload_n 2, 1) := by decide +kernel
theorem dX10_rest_17 : decode cX10_rest 17 = .ok (.iload_n 3, 1) := by decide +kernel
theorem dX10_rest_18 : decode cX10_rest 18 = .ok (.invokevirtual 290, 3) := by decide +kernel
theorem dX10_rest_21 : decode cX10_rest 21 = .ok (.istore 5, 2) := by decide +kernel
theorem dX10_rest_23 : decode cX10_rest 23 = .ok (.iload 5, 2) := by decide +kernel
theorem dX10_rest_25 : decode cX10_rest 25 = .ok (.ifCond .ge 8, 3) := by decide +kernel
theorem dX10_rest_28 : decode cX10_rest 28 = .ok (.ldc 179, 2) := by decide +kernel
theorem dX10_rest_30 : decode cX10_rest 30 = .ok (.goto 14, 3) := by decide +kernel
theorem dX10_rest_33 : decode cX10_rest 33 = .ok (.aload_n 0, 1) := by decide +kernel
theorem dX10_rest_34 : decode cX10_rest 34 = .ok (.getfield 62, 3) := by decide +kernel
theorem dX10_rest_37 : decode cX10_rest 37 = .ok (.iload 5, 2) := by decide +kernel
theorem dX10_rest_39 : decode cX10_rest 39 = .ok (.iload 4, 2) := by decide +kernel
theorem dX10_rest_41 : decode cX10_rest 41 = .ok (.invokevirtual 332, 3) := by decide +kernel
theorem dX10_rest_44 : decode cX10_rest 44 = .ok (.ireturn, 1) := by decide +kernel
theorem oX10_rest_0 : OKI 94 0 (.iload 4, 2, [4], 0, 0, []) := And.intro dX10_rest_0 (And.intro rfl (rfl))
theorem oX10_rest_2 : OKI 94 2 (.iconst 0, 3, [], 0, 0, []) := And.intro dX10_rest_2 (And.intro rfl (by decide +kernel))
theorem oX10_rest_3 : OKI 94 3 (.ldc 88, 5, [], 99999, 0, []) := And.intro dX10_rest_3 (And.intro rfl (tm_2 _ (List.mem_of_getElem? (i := 47) rfl) rfl))
theorem oX10_rest_5 : OKI 94 5 (.invokestatic 84, 8, [111, 3, 0, 0, 0, 1], 0, 0, []) := And.intro dX10_rest_5 (And.intro rfl (And.intro rfl (And.intro mo_X10_within (And.intro (Or.inl (tm_2 _ (List.mem_of_getElem? (i := 40) rfl) rfl)) (tm_2 _ (List.mem_of_getElem? (i := 41) rfl) rfl)))))
theorem oX10_rest_8 : OKI 94 8 (.ifCond .ne 6, 11, [14], 0, 0, []) := And.intro dX10_rest_8 (And.intro rfl (by decide))
theorem oX10_rest_11 : OKI 94 11 (.ldc 179, 13, [], (-1000000000), 0, []) := And.intro dX10_rest_11 (And.intro rfl (tm_3 _ (List.mem_of_getElem? (i := 23) rfl) rfl))
theorem oX10_rest_13 : OKI 94 13 (.ireturn, 14, [0], 0, 0, []) := And.intro dX10_rest_13 (Or.inl (And.intro rfl rfl))
theorem oX10_rest_14 : OKI 94 14 (.aload_n 0, 15, [0], 0, 0, []) := And.intro dX10_rest_14 (And.intro rfl (rfl))
theorem oX10_rest_15 : OKI 94 15 (.iload_n 1, 16, [1], 0, 0, []) := And.intro dX10_rest_15 (And.intro rfl (rfl))
theorem oX10_rest_16 : OKI 94 16 (.iload_n 2, 17, [2], 0, 0, []) := And.intro dX10_rest_16 (And.intro rfl (rfl))
theorem oX10_rest_17 : OKI 94 17 (.iload_n 3, 18, [3], 0, 0, []) := And.intro dX10_rest_17 (And.intro rfl (rfl))
theorem oX10_rest_18 : OKI 94 18 (.invokevirtual 290, 21, [133, 4, 12, 0, 0, 1], 0, 0, []) := And.intro dX10_rest_18 (And.intro rfl (And.intro (by decide) (And.intro (by decide) (And.intro mo_X10_gatheredAt (And.intro (tm_4 _ (List.mem_of_getElem? (i := 193) rfl) rfl) (And.intro (tm_4 _ (List.mem_of_getElem? (i := 195) rfl) rfl) (And.intro (pm_2 _ (List.mem_of_getElem? (i := 13) rfl)) (Or.inl ⟨(RX10, TX10, 15), rfl, rfl⟩))))))))
theorem oX10_rest_21 : OKI 94 21 (.istore 5, 23, [5], 0, 0, []) := And.intro dX10_rest_21 (And.intro rfl (And.intro rfl (by decide)))
theorem oX10_rest_23 : OKI 94 23 (.iload 5, 25, [5], 0, 0, []) := And.intro dX10_rest_23 (And.intro rfl (rfl))
theorem oX10_rest_25 : OKI 94 25 (.ifCond .ge 8, 28, [33], 0, 0, []) := And.intro dX10_rest_25 (And.intro rfl (by decide))
theorem oX10_rest_28 : OKI 94 28 (.ldc 179, 30, [], (-1000000000), 0, []) := And.intro dX10_rest_28 (And.intro rfl (tm_3 _ (List.mem_of_getElem? (i := 23) rfl) rfl))
theorem oX10_rest_30 : OKI 94 30 (.goto 14, 33, [44], 0, 0, []) := And.intro dX10_rest_30 (And.intro rfl (by decide))
theorem oX10_rest_33 : OKI 94 33 (.aload_n 0, 34, [0], 0, 0, []) := And.intro dX10_rest_33 (And.intro rfl (rfl))
theorem oX10_rest_34 : OKI 94 34 (.getfield 62, 37, [11, 10, 2, 9, 0], 0, 0, []) := And.intro dX10_rest_34 (And.intro rfl (⟨(RX10, TX10, 15), "SpotTimers", rfl, by decide, tm_2 _ (List.mem_of_getElem? (i := 0) rfl) rfl, Or.inl rfl, rfl, rfl⟩))
theorem oX10_rest_37 : OKI 94 37 (.iload 5, 39, [5], 0, 0, []) := And.intro dX10_rest_37 (And.intro rfl (rfl))
theorem oX10_rest_39 : OKI 94 39 (.iload 4, 41, [4], 0, 0, []) := And.intro dX10_rest_39 (And.intro rfl (rfl))
theorem oX10_rest_41 : OKI 94 41 (.invokevirtual 332, 44, [55, 3, 10, 0, 0, 1], 0, 0, []) := And.intro dX10_rest_41 (And.intro rfl (And.intro (by decide) (And.intro (by decide) (And.intro mo_X8_restAt (And.intro (tm_5 _ (List.mem_of_getElem? (i := 19) rfl) rfl) (And.intro (tm_5 _ (List.mem_of_getElem? (i := 9) rfl) rfl) (And.intro (tm_5 _ (List.mem_of_getElem? (i := 10) rfl) rfl) (Or.inl ⟨(RX8, TX8, 10), rfl, rfl⟩))))))))
theorem oX10_rest_44 : OKI 94 44 (.ireturn, 45, [0], 0, 0, []) := And.intro dX10_rest_44 (Or.inl (And.intro rfl rfl))
def pfX10_rest (pc : Nat) : Option XE := (bif Nat.blt pc 18 then (bif Nat.blt pc 11 then (bif Nat.blt pc 3 then (bif Nat.blt pc 2 then (bif Nat.beq pc 0 then some (.iload 4, 2, [4], 0, 0, []) else none) else (bif Nat.beq pc 2 then some (.iconst 0, 3, [], 0, 0, []) else none)) else (bif Nat.blt pc 5 then (bif Nat.beq pc 3 then some (.ldc 88, 5, [], 99999, 0, []) else none) else (bif Nat.blt pc 8 then (bif Nat.beq pc 5 then some (.invokestatic 84, 8, [111, 3, 0, 0, 0, 1], 0, 0, []) else none) else (bif Nat.beq pc 8 then some (.ifCond .ne 6, 11, [14], 0, 0, []) else none)))) else (bif Nat.blt pc 15 then (bif Nat.blt pc 13 then (bif Nat.beq pc 11 then some (.ldc 179, 13, [], (-1000000000), 0, []) else none) else (bif Nat.blt pc 14 then (bif Nat.beq pc 13 then some (.ireturn, 14, [0], 0, 0, []) else none) else (bif Nat.beq pc 14 then some (.aload_n 0, 15, [0], 0, 0, []) else none))) else (bif Nat.blt pc 16 then (bif Nat.beq pc 15 then some (.iload_n 1, 16, [1], 0, 0, []) else none) else (bif Nat.blt pc 17 then (bif Nat.beq pc 16 then some (.iload_n 2, 17, [2], 0, 0, []) else none) else (bif Nat.beq pc 17 then some (.iload_n 3, 18, [3], 0, 0, []) else none))))) else (bif Nat.blt pc 33 then (bif Nat.blt pc 25 then (bif Nat.blt pc 21 then (bif Nat.beq pc 18 then some (.invokevirtual 290, 21, [133, 4, 12, 0, 0, 1], 0, 0, []) else none) else (bif Nat.blt pc 23 then (bif Nat.beq pc 21 then some (.istore 5, 23, [5], 0, 0, []) else none) else (bif Nat.beq pc 23 then some (.iload 5, 25, [5], 0, 0, []) else none))) else (bif Nat.blt pc 28 then (bif Nat.beq pc 25 then some (.ifCond .ge 8, 28, [33], 0, 0, []) else none) else (bif Nat.blt pc 30 then (bif Nat.beq pc 28 then some (.ldc 179, 30, [], (-1000000000), 0, []) else none) else (bif Nat.beq pc 30 then some (.goto 14, 33, [44], 0, 0, []) else none)))) else (bif Nat.blt pc 39 then (bif Nat.blt pc 34 then (bif Nat.beq pc 33 then some (.aload_n 0, 34, [0], 0, 0, []) else none) else (bif Nat.blt pc 37 then (bif Nat.beq pc 34 then some (.getfield 62, 37, [11, 10, 2, 9, 0], 0, 0, []) else none) else (bif Nat.beq pc 37 then some (.iload 5, 39, [5], 0, 0, []) else none))) else (bif Nat.blt pc 41 then (bif Nat.beq pc 39 then some (.iload 4, 41, [4], 0, 0, []) else none) else (bif Nat.blt pc 44 then (bif Nat.beq pc 41 then some (.invokevirtual 332, 44, [55, 3, 10, 0, 0, 1], 0, 0, []) else none) else (bif Nat.beq pc 44 then some (.ireturn, 45, [0], 0, 0, []) else none))))))
theorem okX10_rest : ∀ pc Y, pfX10_rest pc = some Y → OKI m_X10_rest pc Y := fun pc Y => ((bt_node (bt_node (bt_node (bt_node (bt_leaf (P := OKI m_X10_rest) oX10_rest_0) (bt_leaf (P := OKI m_X10_rest) oX10_rest_2)) (bt_node (bt_leaf (P := OKI m_X10_rest) oX10_rest_3) (bt_node (bt_leaf (P := OKI m_X10_rest) oX10_rest_5) (bt_leaf (P := OKI m_X10_rest) oX10_rest_8)))) (bt_node (bt_node (bt_leaf (P := OKI m_X10_rest) oX10_rest_11) (bt_node (bt_leaf (P := OKI m_X10_rest) oX10_rest_13) (bt_leaf (P := OKI m_X10_rest) oX10_rest_14))) (bt_node (bt_leaf (P := OKI m_X10_rest) oX10_rest_15) (bt_node (bt_leaf (P := OKI m_X10_rest) oX10_rest_16) (bt_leaf (P := OKI m_X10_rest) oX10_rest_17))))) (bt_node (bt_node (bt_node (bt_leaf (P := OKI m_X10_rest) oX10_rest_18) (bt_node (bt_leaf (P := OKI m_X10_rest) oX10_rest_21) (bt_leaf (P := OKI m_X10_rest) oX10_rest_23))) (bt_node (bt_leaf (P := OKI m_X10_rest) oX10_rest_25) (bt_node (bt_leaf (P := OKI m_X10_rest) oX10_rest_28) (bt_leaf (P := OKI m_X10_rest) oX10_rest_30)))) (bt_node (bt_node (bt_leaf (P := OKI m_X10_rest) oX10_rest_33) (bt_node (bt_leaf (P := OKI m_X10_rest) oX10_rest_34) (bt_leaf (P := OKI m_X10_rest) oX10_rest_37))) (bt_node (bt_leaf (P := OKI m_X10_rest) oX10_rest_39) (bt_node (bt_leaf (P := OKI m_X10_rest) oX10_rest_41) (bt_leaf (P := OKI m_X10_rest) oX10_rest_44)))))) : pfX10_rest pc = some Y → OKI m_X10_rest pc Y)
def stpX10_rest (pc : Nat) : Option (List Bool) := (bif Nat.beq pc 44 then some [false, false, false, false, false, false] else none)
def bX10_rest_0 (d rc rs : Nat) (a1 : Int32) (a2 : Int32) (a3 : Int32) (a4 : Int32) (σ : XH) (Q : XV → XH → Prop) : Prop :=
  (1 ≤ d ∧ Ec (d - 1) 0 0 m_X10_within [vI a4, vI 0, vI 99999] σ (kI fun x2 h1 => ((x2 = 0 → Q (vI (-1000000000)) h1) ∧ (¬ x2 = 0 → ((1 ≤ d ∧ Ec (d - 1) 0 0 m_X10_gatheredAt [vR (some (11, 0)), vI a1, vI a2, vI a3] h1 (kI fun x4 h3 => ((x4 < 0 → Ex d rc rs m_X10_rest 44 [vU, vU, vU, vU, vU, vU] [vI (-1000000000)] h3 Q) ∧ (¬ x4 < 0 → ((hr h3 11 0 10 = some (9, 0) ∧ ((1 ≤ d ∧ Ec (d - 1) 0 0 m_X8_restAt [vR (some (9, 0)), vI x4, vI a4] h3 (kI fun x6 h5 => Ex d rc rs m_X10_rest 44 [vU, vU, vU, vU, vU, vU] [vI x6] h5 Q))))))))))))))
theorem sX10_rest_0 {d rc rs : Nat} {a1 : Int32} {a2 : Int32} {a3 : Int32} {a4 : Int32} {σ : XH} {Q : XV → XH → Prop} (h : bX10_rest_0 d rc rs a1 a2 a3 a4 σ Q) : Ex d rc rs m_X10_rest 0 [vR (some (11, 0)), vI a1, vI a2, vI a3, vI a4, vU] [] σ Q :=
  xtree_sound (stop := stpX10_rest) okX10_rest 20 _ _ _ _ _ _ h
def bX10_rest_44 (d rc rs : Nat) (q0 : Int32) (σ : XH) (Q : XV → XH → Prop) : Prop :=
  Q (vI q0) σ
theorem sX10_rest_44 {d rc rs : Nat} {q0 : Int32} {σ : XH} {Q : XV → XH → Prop} (h : bX10_rest_44 d rc rs q0 σ Q) : Ex d rc rs m_X10_rest 44 [vU, vU, vU, vU, vU, vU] [vI q0] σ Q :=
  xtree_sound (stop := stpX10_rest) okX10_rest 3 _ _ _ _ _ _ h
/-! SpotTimers.blunders(II)I -/
theorem dX10_blunders_0 : decode cX10_blunders 0 = .ok (.iload_n 1, 1) := by decide +kernel
theorem dX10_blunders_1 : decode cX10_blunders 1 = .ok (.invokestatic 219, 3) := by decide +kernel
theorem dX10_blunders_4 : decode cX10_blunders 4 = .ok (.ifCond .ne 5, 3) := by decide +kernel
theorem dX10_blunders_7 : decode cX10_blunders 7 = .ok (.iconst (-1), 1) := by decide +kernel
theorem dX10_blunders_8 : decode cX10_blunders 8 = .ok (.ireturn, 1) := by decide +kernel
theorem dX10_blunders_9 : decode cX10_blunders 9 = .ok (.iload_n 2, 1) := by decide +kernel
theorem dX10_blunders_10 : decode cX10_blunders 10 = .ok (.invokestatic 226, 3) := by decide +kernel
theorem dX10_blunders_13 : decode cX10_blunders 13 = .ok (.ifCond .ne 6, 3) := by decide +kernel
theorem dX10_blunders_16 : decode cX10_blunders 16 = .ok (.bipush (-2), 2) := by decide +kernel
theorem dX10_blunders_18 : decode cX10_blunders 18 = .ok (.ireturn, 1) := by decide +kernel
theorem dX10_blunders_19 : decode cX10_blunders 19 = .ok (.aload_n 0, 1) := by decide +kernel
theorem dX10_blunders_20 : decode cX10_blunders 20 = .ok (.iload_n 1, 1) := by decide +kernel
theorem dX10_blunders_21 : decode cX10_blunders 21 = .ok (.iload_n 2, 1) := by decide +kernel
theorem dX10_blunders_22 : decode cX10_blunders 22 = .ok (.invokevirtual 283, 3) := by decide +kernel
theorem dX10_blunders_25 : decode cX10_blunders 25 = .ok (.aload_n 0, 1) := by decide +kernel
theorem dX10_blunders_26 : decode cX10_blunders 26 = .ok (.getfield 62, 3) := by decide +kernel
theorem dX10_blunders_29 : decode cX10_blunders 29 = .ok (.getfield 286, 3) := by decide +kernel
theorem dX10_blunders_32 : decode cX10_blunders 32 = .ok (.bipush 12, 2) := by decide +kernel
theorem dX10_blunders_34 : decode cX10_blunders 34 = .ok (.if_icmp .le 8, 3) := by decide +kernel
theorem dX10_blunders_37 : decode cX10_blunders 37 = .ok (.bipush (-3), 2) := by decide +kernel
theorem dX10_blunders_39 : decode cX10_blunders 39 = .ok (.goto 19, 3) := by decide +kernel
theorem dX10_blunders_42 : decode cX10_blunders 42 = .ok (.aload_n 0, 1) := by decide +kernel
theorem dX10_blunders_43 : decode cX10_blunders 43 = .ok (.getfield 62, 3) := by decide +kernel
theorem dX10_blunders_46 : decode cX10_blunders 46 = .ok (.aload_n 0, 1) := by decide +kernel
theorem dX10_blunders_47 : decode cX10_blunders 47 = .ok (.iload_n 1, 1) := by decide +kernel
theorem dX10_blunders_48 : decode cX10_blunders 48 = .ok (.iload_n 2, 1) := by decide +kernel
theorem dX10_blunders_49 : decode cX10_blunders 49 = .ok (.invokevirtual 257, 3) := by decide +kernel
theorem dX10_blunders_52 : decode cX10_blunders 52 = .ok (.getfield 267, 3) := by decide +kernel
theorem dX10_blunders_55 : decode cX10_blunders 55 = .ok (.invokevirtual 336, 3) := by decide +kernel
theorem dX10_blunders_58 : decode cX10_blunders 58 = .ok (.ireturn, 1) := by decide +kernel
theorem oX10_blunders_0 : OKI 95 0 (.iload_n 1, 1, [1], 0, 0, []) := And.intro dX10_blunders_0 (And.intro rfl (rfl))
theorem oX10_blunders_1 : OKI 95 1 (.invokestatic 219, 4, [115, 1, 0, 0, 0, 1], 0, 0, []) := And.intro dX10_blunders_1 (And.intro rfl (And.intro rfl (And.intro mo_X10_isHouse (And.intro (Or.inl (tm_3 _ (List.mem_of_getElem? (i := 185) rfl) rfl)) (tm_3 _ (List.mem_of_getElem? (i := 186) rfl) rfl)))))
theorem oX10_blunders_4 : OKI 95 4 (.ifCond .ne 5, 7, [9], 0, 0, []) := And.intro dX10_blunders_4 (And.intro rfl (by decide))
theorem oX10_blunders_7 : OKI 95 7 (.iconst (-1), 8, [], (-1), 0, []) := And.intro dX10_blunders_7 (And.intro rfl (by decide +kernel))
theorem oX10_blunders_8 : OKI 95 8 (.ireturn, 9, [0], 0, 0, []) := And.intro dX10_blunders_8 (Or.inl (And.intro rfl rfl))
theorem oX10_blunders_9 : OKI 95 9 (.iload_n 2, 10, [2], 0, 0, []) := And.intro dX10_blunders_9 (And.intro rfl (rfl))
theorem oX10_blunders_10 : OKI 95 10 (.invokestatic 226, 13, [113, 1, 0, 0, 0, 1], 0, 0, []) := And.intro dX10_blunders_10 (And.intro rfl (And.intro rfl (And.intro mo_X10_isDay (And.intro (Or.inl (tm_3 _ (List.mem_of_getElem? (i := 215) rfl) rfl)) (tm_3 _ (List.mem_of_getElem? (i := 216) rfl) rfl)))))
theorem oX10_blunders_13 : OKI 95 13 (.ifCond .ne 6, 16, [19], 0, 0, []) := And.intro dX10_blunders_13 (And.intro rfl (by decide))
theorem oX10_blunders_16 : OKI 95 16 (.bipush (-2), 18, [], (-2), 0, []) := And.intro dX10_blunders_16 (And.intro rfl (by decide +kernel))
theorem oX10_blunders_18 : OKI 95 18 (.ireturn, 19, [0], 0, 0, []) := And.intro dX10_blunders_18 (Or.inl (And.intro rfl rfl))
theorem oX10_blunders_19 : OKI 95 19 (.aload_n 0, 20, [0], 0, 0, []) := And.intro dX10_blunders_19 (And.intro rfl (rfl))
theorem oX10_blunders_20 : OKI 95 20 (.iload_n 1, 21, [1], 0, 0, []) := And.intro dX10_blunders_20 (And.intro rfl (rfl))
theorem oX10_blunders_21 : OKI 95 21 (.iload_n 2, 22, [2], 0, 0, []) := And.intro dX10_blunders_21 (And.intro rfl (rfl))
theorem oX10_blunders_22 : OKI 95 22 (.invokevirtual 283, 25, [130, 3, 12, 0, 0, 0], 0, 0, []) := And.intro dX10_blunders_22 (And.intro rfl (And.intro (by decide) (And.intro (by decide) (And.intro mo_X10_gather (And.intro (tm_4 _ (List.mem_of_getElem? (i := 148) rfl) rfl) (And.intro (tm_4 _ (List.mem_of_getElem? (i := 150) rfl) rfl) (And.intro (pm_2 _ (List.mem_of_getElem? (i := 10) rfl)) (Or.inl ⟨(RX10, TX10, 15), rfl, rfl⟩))))))))
theorem oX10_blunders_25 : OKI 95 25 (.aload_n 0, 26, [0], 0, 0, []) := And.intro dX10_blunders_25 (And.intro rfl (rfl))
theorem oX10_blunders_26 : OKI 95 26 (.getfield 62, 29, [11, 10, 2, 9, 0], 0, 0, []) := And.intro dX10_blunders_26 (And.intro rfl (⟨(RX10, TX10, 15), "SpotTimers", rfl, by decide, tm_2 _ (List.mem_of_getElem? (i := 0) rfl) rfl, Or.inl rfl, rfl, rfl⟩))
theorem oX10_blunders_29 : OKI 95 29 (.getfield 286, 32, [9, 7, 0], 0, 0, []) := And.intro dX10_blunders_29 (And.intro rfl (⟨(RX8, TX8, 10), "SpotTimers$Tally", rfl, by decide, tm_1 _ (List.mem_of_getElem? (i := 162) rfl) rfl, Or.inl rfl, Or.inr (Or.inr (And.intro rfl (Or.inl rfl)))⟩))
theorem oX10_blunders_32 : OKI 95 32 (.bipush 12, 34, [], 12, 0, []) := And.intro dX10_blunders_32 (And.intro rfl (by decide +kernel))
theorem oX10_blunders_34 : OKI 95 34 (.if_icmp .le 8, 37, [42], 0, 0, []) := And.intro dX10_blunders_34 (And.intro rfl (by decide))
theorem oX10_blunders_37 : OKI 95 37 (.bipush (-3), 39, [], (-3), 0, []) := And.intro dX10_blunders_37 (And.intro rfl (by decide +kernel))
theorem oX10_blunders_39 : OKI 95 39 (.goto 19, 42, [58], 0, 0, []) := And.intro dX10_blunders_39 (And.intro rfl (by decide))
theorem oX10_blunders_42 : OKI 95 42 (.aload_n 0, 43, [0], 0, 0, []) := And.intro dX10_blunders_42 (And.intro rfl (rfl))
theorem oX10_blunders_43 : OKI 95 43 (.getfield 62, 46, [11, 10, 2, 9, 0], 0, 0, []) := And.intro dX10_blunders_43 (And.intro rfl (⟨(RX10, TX10, 15), "SpotTimers", rfl, by decide, tm_2 _ (List.mem_of_getElem? (i := 0) rfl) rfl, Or.inl rfl, rfl, rfl⟩))
theorem oX10_blunders_46 : OKI 95 46 (.aload_n 0, 47, [0], 0, 0, []) := And.intro dX10_blunders_46 (And.intro rfl (rfl))
theorem oX10_blunders_47 : OKI 95 47 (.iload_n 1, 48, [1], 0, 0, []) := And.intro dX10_blunders_47 (And.intro rfl (rfl))
theorem oX10_blunders_48 : OKI 95 48 (.iload_n 2, 49, [2], 0, 0, []) := And.intro dX10_blunders_48 (And.intro rfl (rfl))
theorem oX10_blunders_49 : OKI 95 49 (.invokevirtual 257, 52, [129, 3, 12, 0, 0, 3], 0, 0, []) := And.intro dX10_blunders_49 (And.intro rfl (And.intro (by decide) (And.intro (by decide) (And.intro mo_X10_ruleIn (And.intro (tm_4 _ (List.mem_of_getElem? (i := 136) rfl) rfl) (And.intro (tm_4 _ (List.mem_of_getElem? (i := 138) rfl) rfl) (And.intro (pm_2 _ (List.mem_of_getElem? (i := 9) rfl)) (Or.inl ⟨(RX10, TX10, 15), rfl, rfl⟩))))))))
theorem oX10_blunders_52 : OKI 95 52 (.getfield 267, 55, [6, 9, 0], 0, 0, []) := And.intro dX10_blunders_52 (And.intro rfl (⟨(RX5, TX5, 13), "SpotTimers$Rule", rfl, by decide, tm_1 _ (List.mem_of_getElem? (i := 110) rfl) rfl, Or.inl rfl, Or.inr (Or.inr (And.intro rfl (Or.inl rfl)))⟩))
theorem oX10_blunders_55 : OKI 95 55 (.invokevirtual 336, 58, [58, 2, 10, 0, 0, 1], 0, 0, []) := And.intro dX10_blunders_55 (And.intro rfl (And.intro (by decide) (And.intro (by decide) (And.intro mo_X8_fewestLeftOut (And.intro (tm_5 _ (List.mem_of_getElem? (i := 24) rfl) rfl) (And.intro (tm_5 _ (List.mem_of_getElem? (i := 25) rfl) rfl) (And.intro (tm_5 _ (List.mem_of_getElem? (i := 26) rfl) rfl) (Or.inl ⟨(RX8, TX8, 10), rfl, rfl⟩))))))))
theorem oX10_blunders_58 : OKI 95 58 (.ireturn, 59, [0], 0, 0, []) := And.intro dX10_blunders_58 (Or.inl (And.intro rfl rfl))
def pfX10_blunders (pc : Nat) : Option XE := (bif Nat.blt pc 26 then (bif Nat.blt pc 13 then (bif Nat.blt pc 7 then (bif Nat.blt pc 1 then (bif Nat.beq pc 0 then some (.iload_n 1, 1, [1], 0, 0, []) else none) else (bif Nat.blt pc 4 then (bif Nat.beq pc 1 then some (.invokestatic 219, 4, [115, 1, 0, 0, 0, 1], 0, 0, []) else none) else (bif Nat.beq pc 4 then some (.ifCond .ne 5, 7, [9], 0, 0, []) else none))) else (bif Nat.blt pc 9 then (bif Nat.blt pc 8 then (bif Nat.beq pc 7 then some (.iconst (-1), 8, [], (-1), 0, []) else none) else (bif Nat.beq pc 8 then some (.ireturn, 9, [0], 0, 0, []) else none)) else (bif Nat.blt pc 10 then (bif Nat.beq pc 9 then some (.iload_n 2, 10, [2], 0, 0, []) else none) else (bif Nat.beq pc 10 then some (.invokestatic 226, 13, [113, 1, 0, 0, 0, 1], 0, 0, []) else none)))) else (bif Nat.blt pc 20 then (bif Nat.blt pc 18 then (bif Nat.blt pc 16 then (bif Nat.beq pc 13 then some (.ifCond .ne 6, 16, [19], 0, 0, []) else none) else (bif Nat.beq pc 16 then some (.bipush (-2), 18, [], (-2), 0, []) else none)) else (bif Nat.blt pc 19 then (bif Nat.beq pc 18 then some (.ireturn, 19, [0], 0, 0, []) else none) else (bif Nat.beq pc 19 then some (.aload_n 0, 20, [0], 0, 0, []) else none))) else (bif Nat.blt pc 22 then (bif Nat.blt pc 21 then (bif Nat.beq pc 20 then some (.iload_n 1, 21, [1], 0, 0, []) else none) else (bif Nat.beq pc 21 then some (.iload_n 2, 22, [2], 0, 0, []) else none)) else (bif Nat.blt pc 25 then (bif Nat.beq pc 22 then some (.invokevirtual 283, 25, [130, 3, 12, 0, 0, 0], 0, 0, []) else none) else (bif Nat.beq pc 25 then some (.aload_n 0, 26, [0], 0, 0, []) else none))))) else (bif Nat.blt pc 43 then (bif Nat.blt pc 34 then (bif Nat.blt pc 29 then (bif Nat.beq pc 26 then some (.getfield 62, 29, [11, 10, 2, 9, 0], 0, 0, []) else none) else (bif Nat.blt pc 32 then (bif Nat.beq pc 29 then some (.getfield 286, 32, [9, 7, 0], 0, 0, []) else none) else (bif Nat.beq pc 32 then some (.bipush 12, 34, [], 12, 0, []) else none))) else (bif Nat.blt pc 39 then (bif Nat.blt pc 37 then (bif Nat.beq pc 34 then some (.if_icmp .le 8, 37, [42], 0, 0, []) else none) else (bif Nat.beq pc 37 then some (.bipush (-3), 39, [], (-3), 0, []) else none)) else (bif Nat.blt pc 42 then (bif Nat.beq pc 39 then some (.goto 19, 42, [58], 0, 0, []) else none) else (bif Nat.beq pc 42 then some (.aload_n 0, 43, [0], 0, 0, []) else none)))) else (bif Nat.blt pc 49 then (bif Nat.blt pc 47 then (bif Nat.blt pc 46 then (bif Nat.beq pc 43 then some (.getfield 62, 46, [11, 10, 2, 9, 0], 0, 0, []) else none) else (bif Nat.beq pc 46 then some (.aload_n 0, 47, [0], 0, 0, []) else none)) else (bif Nat.blt pc 48 then (bif Nat.beq pc 47 then some (.iload_n 1, 48, [1], 0, 0, []) else none) else (bif Nat.beq pc 48 then some (.iload_n 2, 49, [2], 0, 0, []) else none))) else (bif Nat.blt pc 55 then (bif Nat.blt pc 52 then (bif Nat.beq pc 49 then some (.invokevirtual 257, 52, [129, 3, 12, 0, 0, 3], 0, 0, []) else none) else (bif Nat.beq pc 52 then some (.getfield 267, 55, [6, 9, 0], 0, 0, []) else none)) else (bif Nat.blt pc 58 then (bif Nat.beq pc 55 then some (.invokevirtual 336, 58, [58, 2, 10, 0, 0, 1], 0, 0, []) else none) else (bif Nat.beq pc 58 then some (.ireturn, 59, [0], 0, 0, []) else none))))))
theorem okX10_blunders : ∀ pc Y, pfX10_blunders pc = some Y → OKI m_X10_blunders pc Y := fun pc Y => ((bt_node (bt_node (bt_node (bt_node (bt_leaf (P := OKI m_X10_blunders) oX10_blunders_0) (bt_node (bt_leaf (P := OKI m_X10_blunders) oX10_blunders_1) (bt_leaf (P := OKI m_X10_blunders) oX10_blunders_4))) (bt_node (bt_node (bt_leaf (P := OKI m_X10_blunders) oX10_blunders_7) (bt_leaf (P := OKI m_X10_blunders) oX10_blunders_8)) (bt_node (bt_leaf (P := OKI m_X10_blunders) oX10_blunders_9) (bt_leaf (P := OKI m_X10_blunders) oX10_blunders_10)))) (bt_node (bt_node (bt_node (bt_leaf (P := OKI m_X10_blunders) oX10_blunders_13) (bt_leaf (P := OKI m_X10_blunders) oX10_blunders_16)) (bt_node (bt_leaf (P := OKI m_X10_blunders) oX10_blunders_18) (bt_leaf (P := OKI m_X10_blunders) oX10_blunders_19))) (bt_node (bt_node (bt_leaf (P := OKI m_X10_blunders) oX10_blunders_20) (bt_leaf (P := OKI m_X10_blunders) oX10_blunders_21)) (bt_node (bt_leaf (P := OKI m_X10_blunders) oX10_blunders_22) (bt_leaf (P := OKI m_X10_blunders) oX10_blunders_25))))) (bt_node (bt_node (bt_node (bt_leaf (P := OKI m_X10_blunders) oX10_blunders_26) (bt_node (bt_leaf (P := OKI m_X10_blunders) oX10_blunders_29) (bt_leaf (P := OKI m_X10_blunders) oX10_blunders_32))) (bt_node (bt_node (bt_leaf (P := OKI m_X10_blunders) oX10_blunders_34) (bt_leaf (P := OKI m_X10_blunders) oX10_blunders_37)) (bt_node (bt_leaf (P := OKI m_X10_blunders) oX10_blunders_39) (bt_leaf (P := OKI m_X10_blunders) oX10_blunders_42)))) (bt_node (bt_node (bt_node (bt_leaf (P := OKI m_X10_blunders) oX10_blunders_43) (bt_leaf (P := OKI m_X10_blunders) oX10_blunders_46)) (bt_node (bt_leaf (P := OKI m_X10_blunders) oX10_blunders_47) (bt_leaf (P := OKI m_X10_blunders) oX10_blunders_48))) (bt_node (bt_node (bt_leaf (P := OKI m_X10_blunders) oX10_blunders_49) (bt_leaf (P := OKI m_X10_blunders) oX10_blunders_52)) (bt_node (bt_leaf (P := OKI m_X10_blunders) oX10_blunders_55) (bt_leaf (P := OKI m_X10_blunders) oX10_blunders_58)))))) : pfX10_blunders pc = some Y → OKI m_X10_blunders pc Y)
def stpX10_blunders (pc : Nat) : Option (List Bool) := (bif Nat.beq pc 58 then some [false, false, false] else none)
def bX10_blunders_0 (d rc rs : Nat) (a1 : Int32) (a2 : Int32) (σ : XH) (Q : XV → XH → Prop) : Prop :=
  (1 ≤ d ∧ Ec (d - 1) 0 0 m_X10_isHouse [vI a1] σ (kI fun x2 h1 => ((x2 = 0 → Q (vI (-1)) h1) ∧ (¬ x2 = 0 → (1 ≤ d ∧ Ec (d - 1) 0 0 m_X10_isDay [vI a2] h1 (kI fun x4 h3 => ((x4 = 0 → Q (vI (-2)) h3) ∧ (¬ x4 = 0 → ((1 ≤ d ∧ Ec (d - 1) 0 0 m_X10_gather [vR (some (11, 0)), vI a1, vI a2] h3 (kU fun h5 => ((hr h5 11 0 10 = some (9, 0) ∧ (((12 < (hi h5 9 0 7) → Ex d rc rs m_X10_blunders 58 [vU, vU, vU] [vI (-3)] h5 Q) ∧ (¬ 12 < (hi h5 9 0 7) → ((hr h5 11 0 10 = some (9, 0) ∧ ((1 ≤ d ∧ Ec (d - 1) 0 0 m_X10_ruleIn [vR (some (11, 0)), vI a1, vI a2] h5 (kR fun x7 h6 => (drf x7 6 fun i8 => ((1 ≤ d ∧ Ec (d - 1) 0 0 m_X8_fewestLeftOut [vR (some (9, 0)), vI (hi h6 6 i8 9)] h6 (kI fun x10 h9 => Ex d rc rs m_X10_blunders 58 [vU, vU, vU] [vI x10] h9 Q)))))))))))))))))))))))))
theorem sX10_blunders_0 {d rc rs : Nat} {a1 : Int32} {a2 : Int32} {σ : XH} {Q : XV → XH → Prop} (h : bX10_blunders_0 d rc rs a1 a2 σ Q) : Ex d rc rs m_X10_blunders 0 [vR (some (11, 0)), vI a1, vI a2] [] σ Q :=
  xtree_sound (stop := stpX10_blunders) okX10_blunders 25 _ _ _ _ _ _ h
def bX10_blunders_58 (d rc rs : Nat) (q0 : Int32) (σ : XH) (Q : XV → XH → Prop) : Prop :=
  Q (vI q0) σ
theorem sX10_blunders_58 {d rc rs : Nat} {q0 : Int32} {σ : XH} {Q : XV → XH → Prop} (h : bX10_blunders_58 d rc rs q0 σ Q) : Ex d rc rs m_X10_blunders 58 [vU, vU, vU] [vI q0] σ Q :=
  xtree_sound (stop := stpX10_blunders) okX10_blunders 3 _ _ _ _ _ _ h
/-! SpotTimers.tooWell(III)I -/
theorem dX10_tooWell_0 : decode cX10_tooWell 0 = .ok (.iload_n 1, 1) := by decide +kernel
theorem dX10_tooWell_1 : decode cX10_tooWell 1 = .ok (.invokestatic 219, 3) := by decide +kernel
theorem dX10_tooWell_4 : decode cX10_tooWell 4 = .ok (.ifCond .ne 5, 3) := by decide +kernel
theorem dX10_tooWell_7 : decode cX10_tooWell 7 = .ok (.iconst (-1), 1) := by decide +kernel
theorem dX10_tooWell_8 : decode cX10_tooWell 8 = .ok (.ireturn, 1) := by decide +kernel
theorem dX10_tooWell_9 : decode cX10_tooWell 9 = .ok (.iload_n 2, 1) := by decide +kernel
theorem dX10_tooWell_10 : decode cX10_tooWell 10 = .ok (.invokestatic 226, 3) := by decide +kernel
theorem dX10_tooWell_13 : decode cX10_tooWell 13 = .ok (.ifCond .eq 13, 3) := by decide +kernel
theorem dX10_tooWell_16 : decode cX10_tooWell 16 = .ok (.iload_n 3, 1) := by decide +kernel
theorem dX10_tooWell_17 : decode cX10_tooWell 17 = .ok (.iconst 1, 1) := by decide +kernel
theorem dX10_tooWell_18 : decode cX10_tooWell 18 = .ok (.bipush 99, 2) := by decide +kernel
theorem dX10_tooWell_20 : decode cX10_tooWell 20 = .ok (.invokestatic 84, 3) := by decide +kernel
theorem dX10_tooWell_23 : decode cX10_tooWell 23 = .ok (.ifCond .ne 6, 3) := by decide +kernel
theorem dX10_tooWell_26 : decode cX10_tooWell 26 = .ok (.bipush (-2), 2) := by decide +kernel
theorem dX10_tooWell_28 : decode cX10_tooWell 28 = .ok (.ireturn, 1) := by decide +kernel
theorem dX10_tooWell_29 : decode cX10_tooWell 29 = .ok (.aload_n 0, 1) := by decide +kernel
theorem dX10_tooWell_30 : decode cX10_tooWell 30 = .ok (.iload_n 1, 1) := by decide +kernel
theorem dX10_tooWell_31 : decode cX10_tooWell 31 = .ok (.iload_n 2, 1) := by decide +kernel
theorem dX10_tooWell_32 : decode cX10_tooWell 32 = .ok (.invokevirtual 300, 3) := by decide +kernel
theorem dX10_tooWell_35 : decode cX10_tooWell 35 = .ok (.ifCond .eq 15, 3) := by decide +kernel
theorem dX10_tooWell_38 : decode cX10_tooWell 38 = .ok (.aload_n 0, 1) := by decide +kernel
theorem dX10_tooWell_39 : decode cX10_tooWell 39 = .ok (.getfield 62, 3) := by decide +kernel
theorem dX10_tooWell_42 : decode cX10_tooWell 42 = .ok (.getfield 286, 3) := by decide +kernel
theorem dX10_tooWell_45 : decode cX10_tooWell 45 = .ok (.bipush 8, 2) := by decide +kernel
theorem dX10_tooWell_47 : decode cX10_tooWell 47 = .ok (.if_icmp .le 6, 3) := by decide +kernel
theorem dX10_tooWell_50 : decode cX10_tooWell 50 = .ok (.bipush (-3), 2) := by decide +kernel
theorem dX10_tooWell_52 : decode cX10_tooWell 52 = .ok (.ireturn, 1) := by decide +kernel
theorem dX10_tooWell_53 : decode cX10_tooWell 53 = .ok (.aload_n 0, 1) := by decide +kernel
theorem dX10_tooWell_54 : decode cX10_tooWell 54 = .ok (.getfield 62, 3) := by decide +kernel
theorem dX10_tooWell_57 : decode cX10_tooWell 57 = .ok (.aload_n 0, 1) := by decide +kernel
theorem dX10_tooWell_58 : decode cX10_tooWell 58 = .ok (.getfield 62, 3) := by decide +kernel
theorem dX10_tooWell_61 : decode cX10_tooWell 61 = .ok (.aload_n 0, 1) := by decide +kernel
theorem dX10_tooWell_62 : decode cX10_tooWell 62 = .ok (.getfield 62, 3) := by decide +kernel
theorem dX10_tooWell_65 : decode cX10_tooWell 65 = .ok (.invokevirtual 323, 3) := by decide +kernel
theorem dX10_tooWell_68 : decode cX10_tooWell 68 = .ok (.invokevirtual 339, 3) := by decide +kernel
theorem dX10_tooWell_71 : decode cX10_tooWell 71 = .ok (.iload_n 3, 1) := by decide +kernel
theorem dX10_tooWell_72 : decode cX10_tooWell 72 = .ok (.invokevirtual 342, 3) := by decide +kernel
theorem dX10_tooWell_75 : decode cX10_tooWell 75 = .ok (.ireturn, 1) := by decide +kernel
theorem oX10_tooWell_0 : OKI 96 0 (.iload_n 1, 1, [1], 0, 0, []) := And.intro dX10_tooWell_0 (And.intro rfl (rfl))
theorem oX10_tooWell_1 : OKI 96 1 (.invokestatic 219, 4, [115, 1, 0, 0, 0, 1], 0, 0, []) := And.intro dX10_tooWell_1 (And.intro rfl (And.intro rfl (And.intro mo_X10_isHouse (And.intro (Or.inl (tm_3 _ (List.mem_of_getElem? (i := 185) rfl) rfl)) (tm_3 _ (List.mem_of_getElem? (i := 186) rfl) rfl)))))
theorem oX10_tooWell_4 : OKI 96 4 (.ifCond .ne 5, 7, [9], 0, 0, []) := And.intro dX10_tooWell_4 (And.intro rfl (by decide))
theorem oX10_tooWell_7 : OKI 96 7 (.iconst (-1), 8, [], (-1), 0, []) := And.intro dX10_tooWell_7 (And.intro rfl (by decide +kernel))
theorem oX10_tooWell_8 : OKI 96 8 (.ireturn, 9, [0], 0, 0, []) := And.intro dX10_tooWell_8 (Or.inl (And.intro rfl rfl))
theorem oX10_tooWell_9 : OKI 96 9 (.iload_n 2, 10, [2], 0, 0, []) := And.intro dX10_tooWell_9 (And.intro rfl (rfl))
theorem oX10_tooWell_10 : OKI 96 10 (.invokestatic 226, 13, [113, 1, 0, 0, 0, 1], 0, 0, []) := And.intro dX10_tooWell_10 (And.intro rfl (And.intro rfl (And.intro mo_X10_isDay (And.intro (Or.inl (tm_3 _ (List.mem_of_getElem? (i := 215) rfl) rfl)) (tm_3 _ (List.mem_of_getElem? (i := 216) rfl) rfl)))))
theorem oX10_tooWell_13 : OKI 96 13 (.ifCond .eq 13, 16, [26], 0, 0, []) := And.intro dX10_tooWell_13 (And.intro rfl (by decide))
theorem oX10_tooWell_16 : OKI 96 16 (.iload_n 3, 17, [3], 0, 0, []) := And.intro dX10_tooWell_16 (And.intro rfl (rfl))
theorem oX10_tooWell_17 : OKI 96 17 (.iconst 1, 18, [], 1, 0, []) := And.intro dX10_tooWell_17 (And.intro rfl (by decide +kernel))
theorem oX10_tooWell_18 : OKI 96 18 (.bipush 99, 20, [], 99, 0, []) := And.intro dX10_tooWell_18 (And.intro rfl (by decide +kernel))
theorem oX10_tooWell_20 : OKI 96 20 (.invokestatic 84, 23, [111, 3, 0, 0, 0, 1], 0, 0, []) := And.intro dX10_tooWell_20 (And.intro rfl (And.intro rfl (And.intro mo_X10_within (And.intro (Or.inl (tm_2 _ (List.mem_of_getElem? (i := 40) rfl) rfl)) (tm_2 _ (List.mem_of_getElem? (i := 41) rfl) rfl)))))
theorem oX10_tooWell_23 : OKI 96 23 (.ifCond .ne 6, 26, [29], 0, 0, []) := And.intro dX10_tooWell_23 (And.intro rfl (by decide))
theorem oX10_tooWell_26 : OKI 96 26 (.bipush (-2), 28, [], (-2), 0, []) := And.intro dX10_tooWell_26 (And.intro rfl (by decide +kernel))
theorem oX10_tooWell_28 : OKI 96 28 (.ireturn, 29, [0], 0, 0, []) := And.intro dX10_tooWell_28 (Or.inl (And.intro rfl rfl))
theorem oX10_tooWell_29 : OKI 96 29 (.aload_n 0, 30, [0], 0, 0, []) := And.intro dX10_tooWell_29 (And.intro rfl (rfl))
theorem oX10_tooWell_30 : OKI 96 30 (.iload_n 1, 31, [1], 0, 0, []) := And.intro dX10_tooWell_30 (And.intro rfl (rfl))
theorem oX10_tooWell_31 : OKI 96 31 (.iload_n 2, 32, [2], 0, 0, []) := And.intro dX10_tooWell_31 (And.intro rfl (rfl))
theorem oX10_tooWell_32 : OKI 96 32 (.invokevirtual 300, 35, [134, 3, 12, 0, 0, 1], 0, 0, []) := And.intro dX10_tooWell_32 (And.intro rfl (And.intro (by decide) (And.intro (by decide) (And.intro mo_X10_gathersSum (And.intro (tm_4 _ (List.mem_of_getElem? (i := 209) rfl) rfl) (And.intro (tm_4 _ (List.mem_of_getElem? (i := 211) rfl) rfl) (And.intro (pm_2 _ (List.mem_of_getElem? (i := 14) rfl)) (Or.inl ⟨(RX10, TX10, 15), rfl, rfl⟩))))))))
theorem oX10_tooWell_35 : OKI 96 35 (.ifCond .eq 15, 38, [50], 0, 0, []) := And.intro dX10_tooWell_35 (And.intro rfl (by decide))
theorem oX10_tooWell_38 : OKI 96 38 (.aload_n 0, 39, [0], 0, 0, []) := And.intro dX10_tooWell_38 (And.intro rfl (rfl))
theorem oX10_tooWell_39 : OKI 96 39 (.getfield 62, 42, [11, 10, 2, 9, 0], 0, 0, []) := And.intro dX10_tooWell_39 (And.intro rfl (⟨(RX10, TX10, 15), "SpotTimers", rfl, by decide, tm_2 _ (List.mem_of_getElem? (i := 0) rfl) rfl, Or.inl rfl, rfl, rfl⟩))
theorem oX10_tooWell_42 : OKI 96 42 (.getfield 286, 45, [9, 7, 0], 0, 0, []) := And.intro dX10_tooWell_42 (And.intro rfl (⟨(RX8, TX8, 10), "SpotTimers$Tally", rfl, by decide, tm_1 _ (List.mem_of_getElem? (i := 162) rfl) rfl, Or.inl rfl, Or.inr (Or.inr (And.intro rfl (Or.inl rfl)))⟩))
theorem oX10_tooWell_45 : OKI 96 45 (.bipush 8, 47, [], 8, 0, []) := And.intro dX10_tooWell_45 (And.intro rfl (by decide +kernel))
theorem oX10_tooWell_47 : OKI 96 47 (.if_icmp .le 6, 50, [53], 0, 0, []) := And.intro dX10_tooWell_47 (And.intro rfl (by decide))
theorem oX10_tooWell_50 : OKI 96 50 (.bipush (-3), 52, [], (-3), 0, []) := And.intro dX10_tooWell_50 (And.intro rfl (by decide +kernel))
theorem oX10_tooWell_52 : OKI 96 52 (.ireturn, 53, [0], 0, 0, []) := And.intro dX10_tooWell_52 (Or.inl (And.intro rfl rfl))
theorem oX10_tooWell_53 : OKI 96 53 (.aload_n 0, 54, [0], 0, 0, []) := And.intro dX10_tooWell_53 (And.intro rfl (rfl))
theorem oX10_tooWell_54 : OKI 96 54 (.getfield 62, 57, [11, 10, 2, 9, 0], 0, 0, []) := And.intro dX10_tooWell_54 (And.intro rfl (⟨(RX10, TX10, 15), "SpotTimers", rfl, by decide, tm_2 _ (List.mem_of_getElem? (i := 0) rfl) rfl, Or.inl rfl, rfl, rfl⟩))
theorem oX10_tooWell_57 : OKI 96 57 (.aload_n 0, 58, [0], 0, 0, []) := And.intro dX10_tooWell_57 (And.intro rfl (rfl))
theorem oX10_tooWell_58 : OKI 96 58 (.getfield 62, 61, [11, 10, 2, 9, 0], 0, 0, []) := And.intro dX10_tooWell_58 (And.intro rfl (⟨(RX10, TX10, 15), "SpotTimers", rfl, by decide, tm_2 _ (List.mem_of_getElem? (i := 0) rfl) rfl, Or.inl rfl, rfl, rfl⟩))
theorem oX10_tooWell_61 : OKI 96 61 (.aload_n 0, 62, [0], 0, 0, []) := And.intro dX10_tooWell_61 (And.intro rfl (rfl))
theorem oX10_tooWell_62 : OKI 96 62 (.getfield 62, 65, [11, 10, 2, 9, 0], 0, 0, []) := And.intro dX10_tooWell_62 (And.intro rfl (⟨(RX10, TX10, 15), "SpotTimers", rfl, by decide, tm_2 _ (List.mem_of_getElem? (i := 0) rfl) rfl, Or.inl rfl, rfl, rfl⟩))
theorem oX10_tooWell_65 : OKI 96 65 (.invokevirtual 323, 68, [54, 1, 10, 0, 0, 1], 0, 0, []) := And.intro dX10_tooWell_65 (And.intro rfl (And.intro (by decide) (And.intro (by decide) (And.intro mo_X8_bestDistance (And.intro (tm_4 _ (List.mem_of_getElem? (i := 232) rfl) rfl) (And.intro (tm_4 _ (List.mem_of_getElem? (i := 233) rfl) rfl) (And.intro (tm_4 _ (List.mem_of_getElem? (i := 234) rfl) rfl) (Or.inl ⟨(RX8, TX8, 10), rfl, rfl⟩))))))))
theorem oX10_tooWell_68 : OKI 96 68 (.invokevirtual 339, 71, [57, 2, 10, 0, 0, 2], 0, 0, []) := And.intro dX10_tooWell_68 (And.intro rfl (And.intro (by decide) (And.intro (by decide) (And.intro mo_X8_restsTogether (And.intro (tm_5 _ (List.mem_of_getElem? (i := 47) rfl) rfl) (And.intro (tm_5 _ (List.mem_of_getElem? (i := 48) rfl) rfl) (And.intro (tm_5 _ (List.mem_of_getElem? (i := 49) rfl) rfl) (Or.inl ⟨(RX8, TX8, 10), rfl, rfl⟩))))))))
theorem oX10_tooWell_71 : OKI 96 71 (.iload_n 3, 72, [3], 0, 0, []) := And.intro dX10_tooWell_71 (And.intro rfl (rfl))
theorem oX10_tooWell_72 : OKI 96 72 (.invokevirtual 342, 75, [60, 3, 10, 0, 0, 1], 0, 0, []) := And.intro dX10_tooWell_72 (And.intro rfl (And.intro (by decide) (And.intro (by decide) (And.intro mo_X8_waysBelow (And.intro (tm_5 _ (List.mem_of_getElem? (i := 51) rfl) rfl) (And.intro (tm_5 _ (List.mem_of_getElem? (i := 52) rfl) rfl) (And.intro (tm_5 _ (List.mem_of_getElem? (i := 53) rfl) rfl) (Or.inl ⟨(RX8, TX8, 10), rfl, rfl⟩))))))))
theorem oX10_tooWell_75 : OKI 96 75 (.ireturn, 76, [0], 0, 0, []) := And.intro dX10_tooWell_75 (Or.inl (And.intro rfl rfl))
def pfX10_tooWell (pc : Nat) : Option XE := (bif Nat.blt pc 35 then (bif Nat.blt pc 17 then (bif Nat.blt pc 8 then (bif Nat.blt pc 4 then (bif Nat.blt pc 1 then (bif Nat.beq pc 0 then some (.iload_n 1, 1, [1], 0, 0, []) else none) else (bif Nat.beq pc 1 then some (.invokestatic 219, 4, [115, 1, 0, 0, 0, 1], 0, 0, []) else none)) else (bif Nat.blt pc 7 then (bif Nat.beq pc 4 then some (.ifCond .ne 5, 7, [9], 0, 0, []) else none) else (bif Nat.beq pc 7 then some (.iconst (-1), 8, [], (-1), 0, []) else none))) else (bif Nat.blt pc 10 then (bif Nat.blt pc 9 then (bif Nat.beq pc 8 then some (.ireturn, 9, [0], 0, 0, []) else none) else (bif Nat.beq pc 9 then some (.iload_n 2, 10, [2], 0, 0, []) else none)) else (bif Nat.blt pc 13 then (bif Nat.beq pc 10 then some (.invokestatic 226, 13, [113, 1, 0, 0, 0, 1], 0, 0, []) else none) else (bif Nat.blt pc 16 then (bif Nat.beq pc 13 then some (.ifCond .eq 13, 16, [26], 0, 0, []) else none) else (bif Nat.beq pc 16 then some (.iload_n 3, 17, [3], 0, 0, []) else none))))) else (bif Nat.blt pc 28 then (bif Nat.blt pc 20 then (bif Nat.blt pc 18 then (bif Nat.beq pc 17 then some (.iconst 1, 18, [], 1, 0, []) else none) else (bif Nat.beq pc 18 then some (.bipush 99, 20, [], 99, 0, []) else none)) else (bif Nat.blt pc 23 then (bif Nat.beq pc 20 then some (.invokestatic 84, 23, [111, 3, 0, 0, 0, 1], 0, 0, []) else none) else (bif Nat.blt pc 26 then (bif Nat.beq pc 23 then some (.ifCond .ne 6, 26, [29], 0, 0, []) else none) else (bif Nat.beq pc 26 then some (.bipush (-2), 28, [], (-2), 0, []) else none)))) else (bif Nat.blt pc 30 then (bif Nat.blt pc 29 then (bif Nat.beq pc 28 then some (.ireturn, 29, [0], 0, 0, []) else none) else (bif Nat.beq pc 29 then some (.aload_n 0, 30, [0], 0, 0, []) else none)) else (bif Nat.blt pc 31 then (bif Nat.beq pc 30 then some (.iload_n 1, 31, [1], 0, 0, []) else none) else (bif Nat.blt pc 32 then (bif Nat.beq pc 31 then some (.iload_n 2, 32, [2], 0, 0, []) else none) else (bif Nat.beq pc 32 then some (.invokevirtual 300, 35, [134, 3, 12, 0, 0, 1], 0, 0, []) else none)))))) else (bif Nat.blt pc 54 then (bif Nat.blt pc 45 then (bif Nat.blt pc 39 then (bif Nat.blt pc 38 then (bif Nat.beq pc 35 then some (.ifCond .eq 15, 38, [50], 0, 0, []) else none) else (bif Nat.beq pc 38 then some (.aload_n 0, 39, [0], 0, 0, []) else none)) else (bif Nat.blt pc 42 then (bif Nat.beq pc 39 then some (.getfield 62, 42, [11, 10, 2, 9, 0], 0, 0, []) else none) else (bif Nat.beq pc 42 then some (.getfield 286, 45, [9, 7, 0], 0, 0, []) else none))) else (bif Nat.blt pc 50 then (bif Nat.blt pc 47 then (bif Nat.beq pc 45 then some (.bipush 8, 47, [], 8, 0, []) else none) else (bif Nat.beq pc 47 then some (.if_icmp .le 6, 50, [53], 0, 0, []) else none)) else (bif Nat.blt pc 52 then (bif Nat.beq pc 50 then some (.bipush (-3), 52, [], (-3), 0, []) else none) else (bif Nat.blt pc 53 then (bif Nat.beq pc 52 then some (.ireturn, 53, [0], 0, 0, []) else none) else (bif Nat.beq pc 53 then some (.aload_n 0, 54, [0], 0, 0, []) else none))))) else (bif Nat.blt pc 65 then (bif Nat.blt pc 58 then (bif Nat.blt pc 57 then (bif Nat.beq pc 54 then some (.getfield 62, 57, [11, 10, 2, 9, 0], 0, 0, []) else none) else (bif Nat.beq pc 57 then some (.aload_n 0, 58, [0], 0, 0, []) else none)) else (bif Nat.blt pc 61 then (bif Nat.beq pc 58 then some (.getfield 62, 61, [11, 10, 2, 9, 0], 0, 0, []) else none) else (bif Nat.blt pc 62 then (bif Nat.beq pc 61 then some (.aload_n 0, 62, [0], 0, 0, []) else none) else (bif Nat.beq pc 62 then some (.getfield 62, 65, [11, 10, 2, 9, 0], 0, 0, []) else none)))) else (bif Nat.blt pc 71 then (bif Nat.blt pc 68 then (bif Nat.beq pc 65 then some (.invokevirtual 323, 68, [54, 1, 10, 0, 0, 1], 0, 0, []) else none) else (bif Nat.beq pc 68 then some (.invokevirtual 339, 71, [57, 2, 10, 0, 0, 2], 0, 0, []) else none)) else (bif Nat.blt pc 72 then (bif Nat.beq pc 71 then some (.iload_n 3, 72, [3], 0, 0, []) else none) else (bif Nat.blt pc 75 then (bif Nat.beq pc 72 then some (.invokevirtual 342, 75, [60, 3, 10, 0, 0, 1], 0, 0, []) else none) else (bif Nat.beq pc 75 then some (.ireturn, 76, [0], 0, 0, []) else none)))))))
theorem okX10_tooWell : ∀ pc Y, pfX10_tooWell pc = some Y → OKI m_X10_tooWell pc Y := fun pc Y => ((bt_node (bt_node (bt_node (bt_node (bt_node (bt_leaf (P := OKI m_X10_tooWell) oX10_tooWell_0) (bt_leaf (P := OKI m_X10_tooWell) oX10_tooWell_1)) (bt_node (bt_leaf (P := OKI m_X10_tooWell) oX10_tooWell_4) (bt_leaf (P := OKI m_X10_tooWell) oX10_tooWell_7))) (bt_node (bt_node (bt_leaf (P := OKI m_X10_tooWell) oX10_tooWell_8) (bt_leaf (P := OKI m_X10_tooWell) oX10_tooWell_9)) (bt_node (bt_leaf (P := OKI m_X10_tooWell) oX10_tooWell_10) (bt_node (bt_leaf (P := OKI m_X10_tooWell) oX10_tooWell_13) (bt_leaf (P := OKI m_X10_tooWell) oX10_tooWell_16))))) (bt_node (bt_node (bt_node (bt_leaf (P := OKI m_X10_tooWell) oX10_tooWell_17) (bt_leaf (P := OKI m_X10_tooWell) oX10_tooWell_18)) (bt_node (bt_leaf (P := OKI m_X10_tooWell) oX10_tooWell_20) (bt_node (bt_leaf (P := OKI m_X10_tooWell) oX10_tooWell_23) (bt_leaf (P := OKI m_X10_tooWell) oX10_tooWell_26)))) (bt_node (bt_node (bt_leaf (P := OKI m_X10_tooWell) oX10_tooWell_28) (bt_leaf (P := OKI m_X10_tooWell) oX10_tooWell_29)) (bt_node (bt_leaf (P := OKI m_X10_tooWell) oX10_tooWell_30) (bt_node (bt_leaf (P := OKI m_X10_tooWell) oX10_tooWell_31) (bt_leaf (P := OKI m_X10_tooWell) oX10_tooWell_32)))))) (bt_node (bt_node (bt_node (bt_node (bt_leaf (P := OKI m_X10_tooWell) oX10_tooWell_35) (bt_leaf (P := OKI m_X10_tooWell) oX10_tooWell_38)) (bt_node (bt_leaf (P := OKI m_X10_tooWell) oX10_tooWell_39) (bt_leaf (P := OKI m_X10_tooWell) oX10_tooWell_42))) (bt_node (bt_node (bt_leaf (P := OKI m_X10_tooWell) oX10_tooWell_45) (bt_leaf (P := OKI m_X10_tooWell) oX10_tooWell_47)) (bt_node (bt_leaf (P := OKI m_X10_tooWell) oX10_tooWell_50) (bt_node (bt_leaf (P := OKI m_X10_tooWell) oX10_tooWell_52) (bt_leaf (P := OKI m_X10_tooWell) oX10_tooWell_53))))) (bt_node (bt_node (bt_node (bt_leaf (P := OKI m_X10_tooWell) oX10_tooWell_54) (bt_leaf (P := OKI m_X10_tooWell) oX10_tooWell_57)) (bt_node (bt_leaf (P := OKI m_X10_tooWell) oX10_tooWell_58) (bt_node (bt_leaf (P := OKI m_X10_tooWell) oX10_tooWell_61) (bt_leaf (P := OKI m_X10_tooWell) oX10_tooWell_62)))) (bt_node (bt_node (bt_leaf (P := OKI m_X10_tooWell) oX10_tooWell_65) (bt_leaf (P := OKI m_X10_tooWell) oX10_tooWell_68)) (bt_node (bt_leaf (P := OKI m_X10_tooWell) oX10_tooWell_71) (bt_node (bt_leaf (P := OKI m_X10_tooWell) oX10_tooWell_72) (bt_leaf (P := OKI m_X10_tooWell) oX10_tooWell_75))))))) : pfX10_tooWell pc = some Y → OKI m_X10_tooWell pc Y)
def stpX10_tooWell (pc : Nat) : Option (List Bool) := (bif Nat.blt pc 50 then (bif Nat.beq pc 26 then some [false, false, false, false] else none) else (bif Nat.beq pc 50 then some [false, false, false, false] else none))
def bX10_tooWell_0 (d rc rs : Nat) (a1 : Int32) (a2 : Int32) (a3 : Int32) (σ : XH) (Q : XV → XH → Prop) : Prop :=
  (1 ≤ d ∧ Ec (d - 1) 0 0 m_X10_isHouse [vI a1] σ (kI fun x2 h1 => ((x2 = 0 → Q (vI (-1)) h1) ∧ (¬ x2 = 0 → (1 ≤ d ∧ Ec (d - 1) 0 0 m_X10_isDay [vI a2] h1 (kI fun x4 h3 => ((x4 = 0 → Ex d rc rs m_X10_tooWell 26 [vU, vU, vU, vU] [] h3 Q) ∧ (¬ x4 = 0 → (1 ≤ d ∧ Ec (d - 1) 0 0 m_X10_within [vI a3, vI 1, vI 99] h3 (kI fun x6 h5 => ((x6 = 0 → Ex d rc rs m_X10_tooWell 26 [vU, vU, vU, vU] [] h5 Q) ∧ (¬ x6 = 0 → ((1 ≤ d ∧ Ec (d - 1) 0 0 m_X10_gathersSum [vR (some (11, 0)), vI a1, vI a2] h5 (kI fun x8 h7 => ((x8 = 0 → Ex d rc rs m_X10_tooWell 50 [vU, vU, vU, vU] [] h7 Q) ∧ (¬ x8 = 0 → ((hr h7 11 0 10 = some (9, 0) ∧ (((8 < (hi h7 9 0 7) → Ex d rc rs m_X10_tooWell 50 [vU, vU, vU, vU] [] h7 Q) ∧ (¬ 8 < (hi h7 9 0 7) → ((hr h7 11 0 10 = some (9, 0) ∧ ((hr h7 11 0 10 = some (9, 0) ∧ ((hr h7 11 0 10 = some (9, 0) ∧ ((1 ≤ d ∧ Ec (d - 1) 0 0 m_X8_bestDistance [vR (some (9, 0))] h7 (kI fun x10 h9 => ((1 ≤ d ∧ Ec (d - 1) 0 0 m_X8_restsTogether [vR (some (9, 0)), vI x10] h9 (kL fun x12 h11 => ((1 ≤ d ∧ Ec (d - 1) 0 0 m_X8_waysBelow [vR (some (9, 0)), vL x12, vI a3] h11 (kI fun x14 h13 => Q (vI x14) h13)))))))))))))))))))))))))))))))))))))
theorem sX10_tooWell_0 {d rc rs : Nat} {a1 : Int32} {a2 : Int32} {a3 : Int32} {σ : XH} {Q : XV → XH → Prop} (h : bX10_tooWell_0 d rc rs a1 a2 a3 σ Q) : Ex d rc rs m_X10_tooWell 0 [vR (some (11, 0)), vI a1, vI a2, vI a3] [] σ Q :=
  xtree_sound (stop := stpX10_tooWell) okX10_tooWell 34 _ _ _ _ _ _ h
def bX10_tooWell_26 (d rc rs : Nat)  (σ : XH) (Q : XV → XH → Prop) : Prop :=
  Q (vI (-2)) σ
theorem sX10_tooWell_26 {d rc rs : Nat}  {σ : XH} {Q : XV → XH → Prop} (h : bX10_tooWell_26 d rc rs  σ Q) : Ex d rc rs m_X10_tooWell 26 [vU, vU, vU, vU] [] σ Q :=
  xtree_sound (stop := stpX10_tooWell) okX10_tooWell 4 _ _ _ _ _ _ h
def bX10_tooWell_50 (d rc rs : Nat)  (σ : XH) (Q : XV → XH → Prop) : Prop :=
  Q (vI (-3)) σ
theorem sX10_tooWell_50 {d rc rs : Nat}  {σ : XH} {Q : XV → XH → Prop} (h : bX10_tooWell_50 d rc rs  σ Q) : Ex d rc rs m_X10_tooWell 50 [vU, vU, vU, vU] [] σ Q :=
  xtree_sound (stop := stpX10_tooWell) okX10_tooWell 4 _ _ _ _ _ _ h
/-! SpotTimers.place(III)I -/
theorem dX10_place_0 : decode cX10_place 0 = .ok (.iload_n 1, 1) := by decide +kernel
theorem dX10_place_1 : decode cX10_place 1 = .ok (.bipush (-99), 2) := by decide +kernel
theorem dX10_place_3 : decode cX10_place 3 = .ok (.bipush 99, 2) := by decide +kernel
theorem dX10_place_5 : decode cX10_place 5 = .ok (.invokestatic 84, 3) := by decide +kernel
theorem dX10_place_8 : decode cX10_place 8 = .ok (.ifCond .eq 23, 3) := by decide +kernel
theorem dX10_place_11 : decode cX10_place 11 = .ok (.iload_n 2, 1) := by decide +kernel
theorem dX10_place_12 : decode cX10_place 12 = .ok (.iconst 0, 1) := by decide +kernel
theorem dX10_place_13 : decode cX10_place 13 = .ok (.bipush 100, 2) := by decide +kernel
theorem dX10_place_15 : decode cX10_place 15 = .ok (.invokestatic 84, 3) := by decide +kernel
theorem dX10_place_18 : decode cX10_place 18 = .ok (.ifCond .eq 13, 3) := by decide +kernel
theorem dX10_place_21 : decode cX10_place 21 = .ok (.iload_n 3, 1) := by decide +kernel
theorem dX10_place_22 : decode cX10_place 22 = .ok (.iconst 0, 1) := by decide +kernel
theorem dX10_place_23 : decode cX10_place 23 = .ok (.bipush 99, 2) := by decide +kernel
theorem dX10_place_25 : decode cX10_place 25 = .ok (.invokestatic 84, 3) := by decide +kernel
theorem dX10_place_28 : decode cX10_place 28 = .ok (.ifCond .ne 6, 3) := by decide +kernel
theorem dX10_place_31 : decode cX10_place 31 = .ok (.bipush (-2), 2) := by decide +kernel
theorem dX10_place_33 : decode cX10_place 33 = .ok (.ireturn, 1) := by decide +kernel
theorem dX10_place_34 : decode cX10_place 34 = .ok (.aload_n 0, 1) := by decide +kernel
theorem dX10_place_35 : decode cX10_place 35 = .ok (.getfield 30, 3) := by decide +kernel
theorem dX10_place_38 : decode cX10_place 38 = .ok (.invokevirtual 91, 3) := by decide +kernel
theorem dX10_place_41 : decode cX10_place 41 = .ok (.bipush 9, 2) := by decide +kernel
theorem dX10_place_43 : decode cX10_place 43 = .ok (.if_icmp .lt 6, 3) := by decide +kernel
theorem dX10_place_46 : decode cX10_place 46 = .ok (.bipush (-4), 2) := by decide +kernel
theorem dX10_place_48 : decode cX10_place 48 = .ok (.ireturn, 1) := by decide +kernel
theorem dX10_place_49 : decode cX10_place 49 = .ok (.aload_n 0, 1) := by decide +kernel
theorem dX10_place_50 : decode cX10_place 50 = .ok (.getfield 30, 3) := by decide +kernel
theorem dX10_place_53 : decode cX10_place 53 = .ok (.new 346, 3) := by decide +kernel
theorem dX10_place_56 : decode cX10_place 56 = .ok (.dup, 1) := by decide +kernel
theorem dX10_place_57 : decode cX10_place 57 = .ok (.iload_n 2, 1) := by decide +kernel
theorem dX10_place_58 : decode cX10_place 58 = .ok (.iload_n 1, 1) := by decide +kernel
theorem dX10_place_59 : decode cX10_place 59 = .ok (.imul, 1) := by decide +kernel
theorem dX10_place_60 : decode cX10_place 60 = .ok (.iload_n 1, 1) := by decide +kernel
theorem dX10_place_61 : decode cX10_place 61 = .ok (.imul, 1) := by decide +kernel
theorem dX10_place_62 : decode cX10_place 62 = .ok (.iload_n 3, 1) := by decide +kernel
theorem dX10_place_63 : decode cX10_place 63 = .ok (.invokespecial 348, 3) := by decide +kernel
theorem dX10_place_66 : decode cX10_place 66 = .ok (.invokevirtual 100, 3) := by decide +kernel
theorem dX10_place_69 : decode cX10_place 69 = .ok (.pop, 1) := by decide +kernel
theorem dX10_place_70 : decode cX10_place 70 = .ok (.aload_n 0, 1) := by decide +kernel
theorem dX10_place_71 : decode cX10_place 71 = .ok (.getfield 30, 3) := by decide +kernel
theorem dX10_place_74 : decode cX10_place 74 = .ok (.invokevirtual 91, 3) := by decide +kernel
theorem dX10_place_77 : decode cX10_place 77 = .ok (.iconst 1, 1) := by decide +kernel
theorem dX10_place_78 : decode cX10_place 78 = .ok (.isub, 1) := by decide +kernel
theorem dX10_place_79 : decode cX10_place 79 = .ok (.ireturn, 1) := by decide +kernel
theorem oX10_place_0 : OKI 97 0 (.iload_n 1, 1, [1], 0, 0, []) := And.intro dX10_place_0 (And.intro rfl (rfl))
theorem oX10_place_1 : OKI 97 1 (.bipush (-99), 3, [], (-99), 0, []) := And.intro dX10_place_1 (And.intro rfl (by decide +kernel))
theorem oX10_place_3 : OKI 97 3 (.bipush 99, 5, [], 99, 0, []) := And.intro dX10_place_3 (And.intro rfl (by decide +kernel))
theorem oX10_place_5 : OKI 97 5 (.invokestatic 84, 8, [111, 3, 0, 0, 0, 1], 0, 0, []) := And.intro dX10_place_5 (And.intro rfl (And.intro rfl (And.intro mo_X10_within (And.intro (Or.inl (tm_2 _ (List.mem_of_getElem? (i := 40) rfl) rfl)) (tm_2 _ (List.mem_of_getElem? (i := 41) rfl) rfl)))))
theorem oX10_place_8 : OKI 97 8 (.ifCond .eq 23, 11, [31], 0, 0, []) := And.intro dX10_place_8 (And.intro rfl (by decide))
theorem oX10_place_11 : OKI 97 11 (.iload_n 2, 12, [2], 0, 0, []) := And.intro dX10_place_11 (And.intro rfl (rfl))
theorem oX10_place_12 : OKI 97 12 (.iconst 0, 13, [], 0, 0, []) := And.intro dX10_place_12 (And.intro rfl (by decide +kernel))
theorem oX10_place_13 : OKI 97 13 (.bipush 100, 15, [], 100, 0, []) := And.intro dX10_place_13 (And.intro rfl (by decide +kernel))
theorem oX10_place_15 : OKI 97 15 (.invokestatic 84, 18, [111, 3, 0, 0, 0, 1], 0, 0, []) := And.intro dX10_place_15 (And.intro rfl (And.intro rfl (And.intro mo_X10_within (And.intro (Or.inl (tm_2 _ (List.mem_of_getElem? (i := 40) rfl) rfl)) (tm_2 _ (List.mem_of_getElem? (i := 41) rfl) rfl)))))
theorem oX10_place_18 : OKI 97 18 (.ifCond .eq 13, 21, [31], 0, 0, []) := And.intro dX10_place_18 (And.intro rfl (by decide))
theorem oX10_place_21 : OKI 97 21 (.iload_n 3, 22, [3], 0, 0, []) := And.intro dX10_place_21 (And.intro rfl (rfl))
theorem oX10_place_22 : OKI 97 22 (.iconst 0, 23, [], 0, 0, []) := And.intro dX10_place_22 (And.intro rfl (by decide +kernel))
theorem oX10_place_23 : OKI 97 23 (.bipush 99, 25, [], 99, 0, []) := And.intro dX10_place_23 (And.intro rfl (by decide +kernel))
theorem oX10_place_25 : OKI 97 25 (.invokestatic 84, 28, [111, 3, 0, 0, 0, 1], 0, 0, []) := And.intro dX10_place_25 (And.intro rfl (And.intro rfl (And.intro mo_X10_within (And.intro (Or.inl (tm_2 _ (List.mem_of_getElem? (i := 40) rfl) rfl)) (tm_2 _ (List.mem_of_getElem? (i := 41) rfl) rfl)))))
theorem oX10_place_28 : OKI 97 28 (.ifCond .ne 6, 31, [34], 0, 0, []) := And.intro dX10_place_28 (And.intro rfl (by decide))
theorem oX10_place_31 : OKI 97 31 (.bipush (-2), 33, [], (-2), 0, []) := And.intro dX10_place_31 (And.intro rfl (by decide +kernel))
theorem oX10_place_33 : OKI 97 33 (.ireturn, 34, [0], 0, 0, []) := And.intro dX10_place_33 (Or.inl (And.intro rfl rfl))
theorem oX10_place_34 : OKI 97 34 (.aload_n 0, 35, [0], 0, 0, []) := And.intro dX10_place_34 (And.intro rfl (rfl))
theorem oX10_place_35 : OKI 97 35 (.getfield 30, 38, [11, 5, 2, 0, 6], 0, 0, []) := And.intro dX10_place_35 (And.intro rfl (⟨(RX10, TX10, 15), "SpotTimers", rfl, by decide, tm_1 _ (List.mem_of_getElem? (i := 235) rfl) rfl, Or.inl rfl, rfl, rfl⟩))
theorem oX10_place_38 : OKI 97 38 (.invokevirtual 91, 41, [271, 1, 1, 0, 0, 1], 0, 0, []) := And.intro dX10_place_38 (And.intro rfl (And.intro (by decide) (And.intro (by decide) (And.intro mo_Jx4a65c_size_8abf5 (And.intro (tm_2 _ (List.mem_of_getElem? (i := 50) rfl) rfl) (And.intro (tm_2 _ (List.mem_of_getElem? (i := 51) rfl) rfl) (And.intro (tm_2 _ (List.mem_of_getElem? (i := 52) rfl) rfl) (Or.inl ⟨(RJx4a65c, TJx4a65c, 3), rfl, rfl⟩))))))))
theorem oX10_place_41 : OKI 97 41 (.bipush 9, 43, [], 9, 0, []) := And.intro dX10_place_41 (And.intro rfl (by decide +kernel))
theorem oX10_place_43 : OKI 97 43 (.if_icmp .lt 6, 46, [49], 0, 0, []) := And.intro dX10_place_43 (And.intro rfl (by decide))
theorem oX10_place_46 : OKI 97 46 (.bipush (-4), 48, [], (-4), 0, []) := And.intro dX10_place_46 (And.intro rfl (by decide +kernel))
theorem oX10_place_48 : OKI 97 48 (.ireturn, 49, [0], 0, 0, []) := And.intro dX10_place_48 (Or.inl (And.intro rfl rfl))
theorem oX10_place_49 : OKI 97 49 (.aload_n 0, 50, [0], 0, 0, []) := And.intro dX10_place_49 (And.intro rfl (rfl))
theorem oX10_place_50 : OKI 97 50 (.getfield 30, 53, [11, 5, 2, 0, 6], 0, 0, []) := And.intro dX10_place_50 (And.intro rfl (⟨(RX10, TX10, 15), "SpotTimers", rfl, by decide, tm_1 _ (List.mem_of_getElem? (i := 235) rfl) rfl, Or.inl rfl, rfl, rfl⟩))
theorem oX10_place_53 : OKI 97 53 (.new 346, 56, [4, 2], 0, 0, []) := And.intro dX10_place_53 (And.intro rfl (⟨(RX3, TX3, 2), rfl, rfl, tm_5 _ (List.mem_of_getElem? (i := 59) rfl) rfl, tm_5 _ (List.mem_of_getElem? (i := 60) rfl) rfl, tm_1 _ (List.mem_of_getElem? (i := 25) rfl) rfl⟩))
theorem oX10_place_56 : OKI 97 56 (.dup, 57, [], 0, 0, []) := And.intro dX10_place_56 rfl
theorem oX10_place_57 : OKI 97 57 (.iload_n 2, 58, [2], 0, 0, []) := And.intro dX10_place_57 (And.intro rfl (rfl))
theorem oX10_place_58 : OKI 97 58 (.iload_n 1, 59, [1], 0, 0, []) := And.intro dX10_place_58 (And.intro rfl (rfl))
theorem oX10_place_59 : OKI 97 59 (.imul, 60, [], 0, 0, []) := And.intro dX10_place_59 rfl
theorem oX10_place_60 : OKI 97 60 (.iload_n 1, 61, [1], 0, 0, []) := And.intro dX10_place_60 (And.intro rfl (rfl))
theorem oX10_place_61 : OKI 97 61 (.imul, 62, [], 0, 0, []) := And.intro dX10_place_61 rfl
theorem oX10_place_62 : OKI 97 62 (.iload_n 3, 63, [3], 0, 0, []) := And.intro dX10_place_62 (And.intro rfl (rfl))
theorem oX10_place_63 : OKI 97 63 (.invokespecial 348, 66, [14, 3, 5, 0, 0, 0], 0, 0, []) := And.intro dX10_place_63 (And.intro rfl (And.intro (by decide) (And.intro (by decide) (And.intro (by decide) (And.intro mo_X3_init (And.intro (Or.inl (tm_5 _ (List.mem_of_getElem? (i := 61) rfl) rfl)) (And.intro (tm_5 _ (List.mem_of_getElem? (i := 62) rfl) rfl) (And.intro rfl rfl))))))))
theorem oX10_place_66 : OKI 97 66 (.invokevirtual 100, 69, [275, 2, 1, 1, 200, 1], 0, 0, []) := And.intro dX10_place_66 (And.intro rfl (And.intro (by decide) (And.intro (by decide) (And.intro mo_Jx4a65c_add_9ea2d (And.intro (tm_2 _ (List.mem_of_getElem? (i := 88) rfl) rfl) (And.intro (tm_2 _ (List.mem_of_getElem? (i := 89) rfl) rfl) (And.intro (tm_2 _ (List.mem_of_getElem? (i := 90) rfl) rfl) (Or.inl ⟨(RJx4a65c, TJx4a65c, 3), rfl, rfl⟩))))))))
theorem oX10_place_69 : OKI 97 69 (.pop, 70, [], 0, 0, []) := And.intro dX10_place_69 rfl
theorem oX10_place_70 : OKI 97 70 (.aload_n 0, 71, [0], 0, 0, []) := And.intro dX10_place_70 (And.intro rfl (rfl))
theorem oX10_place_71 : OKI 97 71 (.getfield 30, 74, [11, 5, 2, 0, 6], 0, 0, []) := And.intro dX10_place_71 (And.intro rfl (⟨(RX10, TX10, 15), "SpotTimers", rfl, by decide, tm_1 _ (List.mem_of_getElem? (i := 235) rfl) rfl, Or.inl rfl, rfl, rfl⟩))
theorem oX10_place_74 : OKI 97 74 (.invokevirtual 91, 77, [271, 1, 1, 0, 0, 1], 0, 0, []) := And.intro dX10_place_74 (And.intro rfl (And.intro (by decide) (And.intro (by decide) (And.intro mo_Jx4a65c_size_8abf5 (And.intro (tm_2 _ (List.mem_of_getElem? (i := 50) rfl) rfl) (And.intro (tm_2 _ (List.mem_of_getElem? (i := 51) rfl) rfl) (And.intro (tm_2 _ (List.mem_of_getElem? (i := 52) rfl) rfl) (Or.inl ⟨(RJx4a65c, TJx4a65c, 3), rfl, rfl⟩))))))))
theorem oX10_place_77 : OKI 97 77 (.iconst 1, 78, [], 1, 0, []) := And.intro dX10_place_77 (And.intro rfl (by decide +kernel))
theorem oX10_place_78 : OKI 97 78 (.isub, 79, [], 0, 0, []) := And.intro dX10_place_78 rfl
theorem oX10_place_79 : OKI 97 79 (.ireturn, 80, [0], 0, 0, []) := And.intro dX10_place_79 (Or.inl (And.intro rfl rfl))
def pfX10_place (pc : Nat) : Option XE := (bif Nat.blt pc 43 then (bif Nat.blt pc 21 then (bif Nat.blt pc 11 then (bif Nat.blt pc 3 then (bif Nat.blt pc 1 then (bif Nat.beq pc 0 then some (.iload_n 1, 1, [1], 0, 0, []) else none) else (bif Nat.beq pc 1 then some (.bipush (-99), 3, [], (-99), 0, []) else none)) else (bif Nat.blt pc 5 then (bif Nat.beq pc 3 then some (.bipush 99, 5, [], 99, 0, []) else none) else (bif Nat.blt pc 8 then (bif Nat.beq pc 5 then some (.invokestatic 84, 8, [111, 3, 0, 0, 0, 1], 0, 0, []) else none) else (bif Nat.beq pc 8 then some (.ifCond .eq 23, 11, [31], 0, 0, []) else none)))) else (bif Nat.blt pc 13 then (bif Nat.blt pc 12 then (bif Nat.beq pc 11 then some (.iload_n 2, 12, [2], 0, 0, []) else none) else (bif Nat.beq pc 12 then some (.iconst 0, 13, [], 0, 0, []) else none)) else (bif Nat.blt pc 15 then (bif Nat.beq pc 13 then some (.bipush 100, 15, [], 100, 0, []) else none) else (bif Nat.blt pc 18 then (bif Nat.beq pc 15 then some (.invokestatic 84, 18, [111, 3, 0, 0, 0, 1], 0, 0, []) else none) else (bif Nat.beq pc 18 then some (.ifCond .eq 13, 21, [31], 0, 0, []) else none))))) else (bif Nat.blt pc 31 then (bif Nat.blt pc 23 then (bif Nat.blt pc 22 then (bif Nat.beq pc 21 then some (.iload_n 3, 22, [3], 0, 0, []) else none) else (bif Nat.beq pc 22 then some (.iconst 0, 23, [], 0, 0, []) else none)) else (bif Nat.blt pc 25 then (bif Nat.beq pc 23 then some (.bipush 99, 25, [], 99, 0, []) else none) else (bif Nat.blt pc 28 then (bif Nat.beq pc 25 then some (.invokestatic 84, 28, [111, 3, 0, 0, 0, 1], 0, 0, []) else none) else (bif Nat.beq pc 28 then some (.ifCond .ne 6, 31, [34], 0, 0, []) else none)))) else (bif Nat.blt pc 35 then (bif Nat.blt pc 33 then (bif Nat.beq pc 31 then some (.bipush (-2), 33, [], (-2), 0, []) else none) else (bif Nat.blt pc 34 then (bif Nat.beq pc 33 then some (.ireturn, 34, [0], 0, 0, []) else none) else (bif Nat.beq pc 34 then some (.aload_n 0, 35, [0], 0, 0, []) else none))) else (bif Nat.blt pc 38 then (bif Nat.beq pc 35 then some (.getfield 30, 38, [11, 5, 2, 0, 6], 0, 0, []) else none) else (bif Nat.blt pc 41 then (bif Nat.beq pc 38 then some (.invokevirtual 91, 41, [271, 1, 1, 0, 0, 1], 0, 0, []) else none) else (bif Nat.beq pc 41 then some (.bipush 9, 43, [], 9, 0, []) else none)))))) else (bif Nat.blt pc 61 then (bif Nat.blt pc 53 then (bif Nat.blt pc 48 then (bif Nat.blt pc 46 then (bif Nat.beq pc 43 then some (.if_icmp .lt 6, 46, [49], 0, 0, []) else none) else (bif Nat.beq pc 46 then some (.bipush (-4), 48, [], (-4), 0, []) else none)) else (bif Nat.blt pc 49 then (bif Nat.beq pc 48 then some (.ireturn, 49, [0], 0, 0, []) else none) else (bif Nat.blt pc 50 then (bif Nat.beq pc 49 then some (.aload_n 0, 50, [0], 0, 0, []) else none) else (bif Nat.beq pc 50 then some (.getfield 30, 53, [11, 5, 2, 0, 6], 0, 0, []) else none)))) else (bif Nat.blt pc 58 then (bif Nat.blt pc 56 then (bif Nat.beq pc 53 then some (.new 346, 56, [4, 2], 0, 0, []) else none) else (bif Nat.blt pc 57 then (bif Nat.beq pc 56 then some (.dup, 57, [], 0, 0, []) else none) else (bif Nat.beq pc 57 then some (.iload_n 2, 58, [2], 0, 0, []) else none))) else (bif Nat.blt pc 59 then (bif Nat.beq pc 58 then some (.iload_n 1, 59, [1], 0, 0, []) else none) else (bif Nat.blt pc 60 then (bif Nat.beq pc 59 then some (.imul, 60, [], 0, 0, []) else none) else (bif Nat.beq pc 60 then some (.iload_n 1, 61, [1], 0, 0, []) else none))))) else (bif Nat.blt pc 70 then (bif Nat.blt pc 63 then (bif Nat.blt pc 62 then (bif Nat.beq pc 61 then some (.imul, 62, [], 0, 0, []) else none) else (bif Nat.beq pc 62 then some (.iload_n 3, 63, [3], 0, 0, []) else none)) else (bif Nat.blt pc 66 then (bif Nat.beq pc 63 then some (.invokespecial 348, 66, [14, 3, 5, 0, 0, 0], 0, 0, []) else none) else (bif Nat.blt pc 69 then (bif Nat.beq pc 66 then some (.invokevirtual 100, 69, [275, 2, 1, 1, 200, 1], 0, 0, []) else none) else (bif Nat.beq pc 69 then some (.pop, 70, [], 0, 0, []) else none)))) else (bif Nat.blt pc 77 then (bif Nat.blt pc 71 then (bif Nat.beq pc 70 then some (.aload_n 0, 71, [0], 0, 0, []) else none) else (bif Nat.blt pc 74 then (bif Nat.beq pc 71 then some (.getfield 30, 74, [11, 5, 2, 0, 6], 0, 0, []) else none) else (bif Nat.beq pc 74 then some (.invokevirtual 91, 77, [271, 1, 1, 0, 0, 1], 0, 0, []) else none))) else (bif Nat.blt pc 78 then (bif Nat.beq pc 77 then some (.iconst 1, 78, [], 1, 0, []) else none) else (bif Nat.blt pc 79 then (bif Nat.beq pc 78 then some (.isub, 79, [], 0, 0, []) else none) else (bif Nat.beq pc 79 then some (.ireturn, 80, [0], 0, 0, []) else none)))))))
theorem okX10_place : ∀ pc Y, pfX10_place pc = some Y → OKI m_X10_place pc Y := fun pc Y => ((bt_node (bt_node (bt_node (bt_node (bt_node (bt_leaf (P := OKI m_X10_place) oX10_place_0) (bt_leaf (P := OKI m_X10_place) oX10_place_1)) (bt_node (bt_leaf (P := OKI m_X10_place) oX10_place_3) (bt_node (bt_leaf (P := OKI m_X10_place) oX10_place_5) (bt_leaf (P := OKI m_X10_place) oX10_place_8)))) (bt_node (bt_node (bt_leaf (P := OKI m_X10_place) oX10_place_11) (bt_leaf (P := OKI m_X10_place) oX10_place_12)) (bt_node (bt_leaf (P := OKI m_X10_place) oX10_place_13) (bt_node (bt_leaf (P := OKI m_X10_place) oX10_place_15) (bt_leaf (P := OKI m_X10_place) oX10_place_18))))) (bt_node (bt_node (bt_node (bt_leaf (P := OKI m_X10_place) oX10_place_21) (bt_leaf (P := OKI m_X10_place) oX10_place_22)) (bt_node (bt_leaf (P := OKI m_X10_place) oX10_place_23) (bt_node (bt_leaf (P := OKI m_X10_place) oX10_place_25) (bt_leaf (P := OKI m_X10_place) oX10_place_28)))) (bt_node (bt_node (bt_leaf (P := OKI m_X10_place) oX10_place_31) (bt_node (bt_leaf (P := OKI m_X10_place) oX10_place_33) (bt_leaf (P := OKI m_X10_place) oX10_place_34))) (bt_node (bt_leaf (P := OKI m_X10_place) oX10_place_35) (bt_node (bt_leaf (P := OKI m_X10_place) oX10_place_38) (bt_leaf (P := OKI m_X10_place) oX10_place_41)))))) (bt_node (bt_node (bt_node (bt_node (bt_leaf (P := OKI m_X10_place) oX10_place_43) (bt_leaf (P := OKI m_X10_place) oX10_place_46)) (bt_node (bt_leaf (P := OKI m_X10_place) oX10_place_48) (bt_node (bt_leaf (P := OKI m_X10_place) oX10_place_49) (bt_leaf (P := OKI m_X10_place) oX10_place_50)))) (bt_node (bt_node (bt_leaf (P := OKI m_X10_place) oX10_place_53) (bt_node (bt_leaf (P := OKI m_X10_place) oX10_place_56) (bt_leaf (P := OKI m_X10_place) oX10_place_57))) (bt_node (bt_leaf (P := OKI m_X10_place) oX10_place_58) (bt_node (bt_leaf (P := OKI m_X10_place) oX10_place_59) (bt_leaf (P := OKI m_X10_place) oX10_place_60))))) (bt_node (bt_node (bt_node (bt_leaf (P := OKI m_X10_place) oX10_place_61) (bt_leaf (P := OKI m_X10_place) oX10_place_62)) (bt_node (bt_leaf (P := OKI m_X10_place) oX10_place_63) (bt_node (bt_leaf (P := OKI m_X10_place) oX10_place_66) (bt_leaf (P := OKI m_X10_place) oX10_place_69)))) (bt_node (bt_node (bt_leaf (P := OKI m_X10_place) oX10_place_70) (bt_node (bt_leaf (P := OKI m_X10_place) oX10_place_71) (bt_leaf (P := OKI m_X10_place) oX10_place_74))) (bt_node (bt_leaf (P := OKI m_X10_place) oX10_place_77) (bt_node (bt_leaf (P := OKI m_X10_place) oX10_place_78) (bt_leaf (P := OKI m_X10_place) oX10_place_79))))))) : pfX10_place pc = some Y → OKI m_X10_place pc Y)
def stpX10_place (pc : Nat) : Option (List Bool) := (bif Nat.beq pc 31 then some [false, false, false, false] else none)
def bX10_place_0 (d rc rs : Nat) (a1 : Int32) (a2 : Int32) (a3 : Int32) (σ : XH) (Q : XV → XH → Prop) : Prop :=
  (1 ≤ d ∧ Ec (d - 1) 0 0 m_X10_within [vI a1, vI (-99), vI 99] σ (kI fun x2 h1 => ((x2 = 0 → Ex d rc rs m_X10_place 31 [vU, vU, vU, vU] [] h1 Q) ∧ (¬ x2 = 0 → (1 ≤ d ∧ Ec (d - 1) 0 0 m_X10_within [vI a2, vI 0, vI 100] h1 (kI fun x4 h3 => ((x4 = 0 → Ex d rc rs m_X10_place 31 [vU, vU, vU, vU] [] h3 Q) ∧ (¬ x4 = 0 → (1 ≤ d ∧ Ec (d - 1) 0 0 m_X10_within [vI a3, vI 0, vI 99] h3 (kI fun x6 h5 => ((x6 = 0 → Ex d rc rs m_X10_place 31 [vU, vU, vU, vU] [] h5 Q) ∧ (¬ x6 = 0 → ((hr h5 11 0 5 = some (0, 5) ∧ ((1 ≤ d ∧ Ec (d - 1) 0 0 m_Jx4a65c_size_8abf5 [vR (some (0, 5))] h5 (kI fun x8 h7 => ((x8 < 9 → ((hr h7 11 0 5 = some (0, 5) ∧ (1 ≤ rc ∧ 2 ≤ rs ∧ (∀ h9, h9 = nwO h7 4 → ((1 ≤ d ∧ Ec (d - 1) 0 0 m_X3_init [vR (some (4, hc h7 4)), vI ((a2 * a1) * a1), vI a3] h9 (kU fun h10 => ((1 ≤ d ∧ 1 ≤ rc - 1 ∧ 200 ≤ rs - 2 ∧ Ec (d - 1) 1 200 m_Jx4a65c_add_9ea2d [vR (some (0, 5)), vR (some (4, hc h7 4))] h10 (kI fun x12 h11 => ((hr h11 11 0 5 = some (0, 5) ∧ ((1 ≤ d ∧ Ec (d - 1) 0 0 m_Jx4a65c_size_8abf5 [vR (some (0, 5))] h11 (kI fun x14 h13 => Q (vI (x14 - 1)) h13)))))))))))))))) ∧ (¬ x8 < 9 → Q (vI (-4)) h7)))))))))))))))))))
theorem sX10_place_0 {d rc rs : Nat} {a1 : Int32} {a2 : Int32} {a3 : Int32} {σ : XH} {Q : XV → XH → Prop} (h : bX10_place_0 d rc rs a1 a2 a3 σ Q) : Ex d rc rs m_X10_place 0 [vR (some (11, 0)), vI a1, vI a2, vI a3] [] σ Q :=
  xtree_sound (stop := stpX10_place) okX10_place 41 _ _ _ _ _ _ h
def bX10_place_31 (d rc rs : Nat)  (σ : XH) (Q : XV → XH → Prop) : Prop :=
  Q (vI (-2)) σ
theorem sX10_place_31 {d rc rs : Nat}  {σ : XH} {Q : XV → XH → Prop} (h : bX10_place_31 d rc rs  σ Q) : Ex d rc rs m_X10_place 31 [vU, vU, vU, vU] [] σ Q :=
  xtree_sound (stop := stpX10_place) okX10_place 4 _ _ _ _ _ _ h
/-! SpotTimers.go(III)I -/
theorem dX10_go_0 : decode cX10_go 0 = .ok (.iload_n 3, 1) := by decide +kernel
theorem dX10_go_1 : decode cX10_go 1 = .ok (.iconst 0, 1) := by decide +kernel
theorem dX10_go_2 : decode cX10_go 2 = .ok (.iconst 2, 1) := by decide +kernel
theorem dX10_go_3 : decode cX10_go 3 = .ok (.invokestatic 84, 3) := by decide +kernel
theorem dX10_go_6 : decode cX10_go 6 = .ok (.ifCond .ne 5, 3) := by decide +kernel
theorem dX10_go_9 : decode cX10_go 9 = .ok (.iconst (-1), 1) := by decide +kernel
theorem dX10_go_10 : decode cX10_go 10 = .ok (.ireturn, 1) := by decide +kernel
theorem dX10_go_11 : decode cX10_go 11 = .ok (.iload_n 1, 1) := by decide +kernel
theorem dX10_go_12 : decode cX10_go 12 = .ok (.iconst 1, 1) := by decide +kernel
theorem dX10_go_13 : decode cX10_go 13 = .ok (.iconst 5, 1) := by decide +kernel
theorem dX10_go_14 : decode cX10_go 14 = .ok (.invokestatic 84, 3) := by decide +kernel
theorem dX10_go_17 : decode cX10_go 17 = .ok (.ifCond .eq 14, 3) := by decide +kernel
theorem dX10_go_20 : decode cX10_go 20 = .ok (.iload_n 2, 1) := by decide +kernel
theorem dX10_go_21 : decode cX10_go 21 = .ok (.iconst 0, 1) := by decide +kernel
theorem dX10_go_22 : decode cX10_go 22 = .ok (.sipush 400, 3) := by decide +kernel
theorem dX10_go_25 : decode cX10_go 25 = .ok (.invokestatic 84, 3) := by decide +kernel
theorem dX10_go_28 : decode cX10_go 28 = .ok (.ifCond .ne 6, 3) := by decide +kernel
theorem dX10_go_31 : decode cX10_go 31 = .ok (.bipush (-2), 2) := by decide +kernel
theorem dX10_go_33 : decode cX10_go 33 = .ok (.ireturn, 1) := by decide +kernel
theorem dX10_go_34 : decode cX10_go 34 = .ok (.aload_n 0, 1) := by decide +kernel
theorem dX10_go_35 : decode cX10_go 35 = .ok (.iload_n 1, 1) := by decide +kernel
theorem dX10_go_36 : decode cX10_go 36 = .ok (.iload_n 2, 1) := by decide +kernel
theorem dX10_go_37 : decode cX10_go 37 = .ok (.iconst (-1), 1) := by decide +kernel
theorem dX10_go_38 : decode cX10_go 38 = .ok (.invokevirtual 350, 3) := by decide +kernel
theorem dX10_go_41 : decode cX10_go 41 = .ok (.istore 4, 2) := by decide +kernel
theorem dX10_go_43 : decode cX10_go 43 = .ok (.iload 4, 2) := by decide +kernel
theorem dX10_go_45 : decode cX10_go 45 = .ok (.ifCond .ge 6, 3) := by decide +kernel
theorem dX10_go_48 : decode cX10_go 48 = .ok (.bipush (-3), 2) := by decide +kernel
theorem dX10_go_50 : decode cX10_go 50 = .ok (.ireturn, 1) := by decide +kernel
theorem dX10_go_51 : decode cX10_go 51 = .ok (.iload_n 3, 1) := by decide +kernel
theorem dX10_go_52 : decode cX10_go 52 = .ok (.lookupswitch 38 #[(0, 28), (1, 35)], 28) := by decide +kernel
theorem dX10_go_80 : decode cX10_go 80 = .ok (.aload_n 0, 1) := by decide +kernel
theorem dX10_go_81 : decode cX10_go 81 = .ok (.iload 4, 2) := by decide +kernel
theorem dX10_go_83 : decode cX10_go 83 = .ok (.invokevirtual 353, 3) := by decide +kernel
theorem dX10_go_86 : decode cX10_go 86 = .ok (.ireturn, 1) := by decide +kernel
theorem dX10_go_87 : decode cX10_go 87 = .ok (.iload 4, 2) := by decide +kernel
theorem dX10_go_89 : decode cX10_go 89 = .ok (.ireturn, 1) := by decide +kernel
theorem dX10_go_90 : decode cX10_go 90 = .ok (.aload_n 0, 1) := by decide +kernel
theorem dX10_go_91 : decode cX10_go 91 = .ok (.iload 4, 2) := by decide +kernel
theorem dX10_go_93 : decode cX10_go 93 = .ok (.invokevirtual 356, 3) := by decide +kernel
theorem dX10_go_96 : decode cX10_go 96 = .ok (.ireturn, 1) := by decide +kernel
theorem oX10_go_0 : OKI 98 0 (.iload_n 3, 1, [3], 0, 0, []) := And.intro dX10_go_0 (And.intro rfl (rfl))
theorem oX10_go_1 : OKI 98 1 (.iconst 0, 2, [], 0, 0, []) := And.intro dX10_go_1 (And.intro rfl (by decide +kernel))
theorem oX10_go_2 : OKI 98 2 (.iconst 2, 3, [], 2, 0, []) := And.intro dX10_go_2 (And.intro rfl (by decide +kernel))
theorem oX10_go_3 : OKI 98 3 (.invokestatic 84, 6, [111, 3, 0, 0, 0, 1], 0, 0, []) := And.intro dX10_go_3 (And.intro rfl (And.intro rfl (And.intro mo_X10_within (And.intro (Or.inl (tm_2 _ (List.mem_of_getElem? (i := 40) rfl) rfl)) (tm_2 _ (List.mem_of_getElem? (i := 41) rfl) rfl)))))
theorem oX10_go_6 : OKI 98 6 (.ifCond .ne 5, 9, [11], 0, 0, []) := And.intro dX10_go_6 (And.intro rfl (by decide))
theorem oX10_go_9 : OKI 98 9 (.iconst (-1), 10, [], (-1), 0, []) := And.intro dX10_go_9 (And.intro rfl (by decide +kernel))
theorem oX10_go_10 : OKI 98 10 (.ireturn, 11, [0], 0, 0, []) := And.intro dX10_go_10 (Or.inl (And.intro rfl rfl))
theorem oX10_go_11 : OKI 98 11 (.iload_n 1, 12, [1], 0, 0, []) := And.intro dX10_go_11 (And.intro rfl (rfl))
theorem oX10_go_12 : OKI 98 12 (.iconst 1, 13, [], 1, 0, []) := And.intro dX10_go_12 (And.intro rfl (by decide +kernel))
theorem oX10_go_13 : OKI 98 13 (.iconst 5, 14, [], 5, 0, []) := And.intro dX10_go_13 (And.intro rfl (by decide +kernel))
theorem oX10_go_14 : OKI 98 14 (.invokestatic 84, 17, [111, 3, 0, 0, 0, 1], 0, 0, []) := And.intro dX10_go_14 (And.intro rfl (And.intro rfl (And.intro mo_X10_within (And.intro (Or.inl (tm_2 _ (List.mem_of_getElem? (i := 40) rfl) rfl)) (tm_2 _ (List.mem_of_getElem? (i := 41) rfl) rfl)))))
theorem oX10_go_17 : OKI 98 17 (.ifCond .eq 14, 20, [31], 0, 0, []) := And.intro dX10_go_17 (And.intro rfl (by decide))
theorem oX10_go_20 : OKI 98 20 (.iload_n 2, 21, [2], 0, 0, []) := And.intro dX10_go_20 (And.intro rfl (rfl))
theorem oX10_go_21 : OKI 98 21 (.iconst 0, 22, [], 0, 0, []) := And.intro dX10_go_21 (And.intro rfl (by decide +kernel))
theorem oX10_go_22 : OKI 98 22 (.sipush 400, 25, [], 400, 0, []) := And.intro dX10_go_22 (And.intro rfl (by decide +kernel))
theorem oX10_go_25 : OKI 98 25 (.invokestatic 84, 28, [111, 3, 0, 0, 0, 1], 0, 0, []) := And.intro dX10_go_25 (And.intro rfl (And.intro rfl (And.intro mo_X10_within (And.intro (Or.inl (tm_2 _ (List.mem_of_getElem? (i := 40) rfl) rfl)) (tm_2 _ (List.mem_of_getElem? (i := 41) rfl) rfl)))))
theorem oX10_go_28 : OKI 98 28 (.ifCond .ne 6, 31, [34], 0, 0, []) := And.intro dX10_go_28 (And.intro rfl (by decide))
theorem oX10_go_31 : OKI 98 31 (.bipush (-2), 33, [], (-2), 0, []) := And.intro dX10_go_31 (And.intro rfl (by decide +kernel))
theorem oX10_go_33 : OKI 98 33 (.ireturn, 34, [0], 0, 0, []) := And.intro dX10_go_33 (Or.inl (And.intro rfl rfl))
theorem oX10_go_34 : OKI 98 34 (.aload_n 0, 35, [0], 0, 0, []) := And.intro dX10_go_34 (And.intro rfl (rfl))
theorem oX10_go_35 : OKI 98 35 (.iload_n 1, 36, [1], 0, 0, []) := And.intro dX10_go_35 (And.intro rfl (rfl))
theorem oX10_go_36 : OKI 98 36 (.iload_n 2, 37, [2], 0, 0, []) := And.intro dX10_go_36 (And.intro rfl (rfl))
theorem oX10_go_37 : OKI 98 37 (.iconst (-1), 38, [], (-1), 0, []) := And.intro dX10_go_37 (And.intro rfl (by decide +kernel))
theorem oX10_go_38 : OKI 98 38 (.invokevirtual 350, 41, [135, 4, 12, 0, 0, 1], 0, 0, []) := And.intro dX10_go_38 (And.intro rfl (And.intro (by decide) (And.intro (by decide) (And.intro mo_X10_bestSet (And.intro (tm_5 _ (List.mem_of_getElem? (i := 78) rfl) rfl) (And.intro (tm_5 _ (List.mem_of_getElem? (i := 80) rfl) rfl) (And.intro (pm_3 _ (List.mem_of_getElem? (i := 0) rfl)) (Or.inl ⟨(RX10, TX10, 15), rfl, rfl⟩))))))))
theorem oX10_go_41 : OKI 98 41 (.istore 4, 43, [4], 0, 0, []) := And.intro dX10_go_41 (And.intro rfl (And.intro rfl (by decide)))
theorem oX10_go_43 : OKI 98 43 (.iload 4, 45, [4], 0, 0, []) := And.intro dX10_go_43 (And.intro rfl (rfl))
theorem oX10_go_45 : OKI 98 45 (.ifCond .ge 6, 48, [51], 0, 0, []) := And.intro dX10_go_45 (And.intro rfl (by decide))
theorem oX10_go_48 : OKI 98 48 (.bipush (-3), 50, [], (-3), 0, []) := And.intro dX10_go_48 (And.intro rfl (by decide +kernel))
theorem oX10_go_50 : OKI 98 50 (.ireturn, 51, [0], 0, 0, []) := And.intro dX10_go_50 (Or.inl (And.intro rfl rfl))
theorem oX10_go_51 : OKI 98 51 (.iload_n 3, 52, [3], 0, 0, []) := And.intro dX10_go_51 (And.intro rfl (rfl))
theorem oX10_go_52 : OKI 98 52 (.lookupswitch 38 #[(0, 28), (1, 35)], 80, [90], 0, 0, [(0, 80), (1, 87)]) := And.intro ⟨_, dX10_go_52⟩ (by decide +kernel)
theorem oX10_go_80 : OKI 98 80 (.aload_n 0, 81, [0], 0, 0, []) := And.intro dX10_go_80 (And.intro rfl (rfl))
theorem oX10_go_81 : OKI 98 81 (.iload 4, 83, [4], 0, 0, []) := And.intro dX10_go_81 (And.intro rfl (rfl))
theorem oX10_go_83 : OKI 98 83 (.invokevirtual 353, 86, [137, 2, 12, 0, 0, 1], 0, 0, []) := And.intro dX10_go_83 (And.intro rfl (And.intro (by decide) (And.intro (by decide) (And.intro mo_X10_worthOf (And.intro (tm_5 _ (List.mem_of_getElem? (i := 91) rfl) rfl) (And.intro (tm_5 _ (List.mem_of_getElem? (i := 93) rfl) rfl) (And.intro (pm_3 _ (List.mem_of_getElem? (i := 3) rfl)) (Or.inl ⟨(RX10, TX10, 15), rfl, rfl⟩))))))))
theorem oX10_go_86 : OKI 98 86 (.ireturn, 87, [0], 0, 0, []) := And.intro dX10_go_86 (Or.inl (And.intro rfl rfl))
theorem oX10_go_87 : OKI 98 87 (.iload 4, 89, [4], 0, 0, []) := And.intro dX10_go_87 (And.intro rfl (rfl))
theorem oX10_go_89 : OKI 98 89 (.ireturn, 90, [0], 0, 0, []) := And.intro dX10_go_89 (Or.inl (And.intro rfl rfl))
theorem oX10_go_90 : OKI 98 90 (.aload_n 0, 91, [0], 0, 0, []) := And.intro dX10_go_90 (And.intro rfl (rfl))
theorem oX10_go_91 : OKI 98 91 (.iload 4, 93, [4], 0, 0, []) := And.intro dX10_go_91 (And.intro rfl (rfl))
theorem oX10_go_93 : OKI 98 93 (.invokevirtual 356, 96, [138, 2, 12, 0, 0, 1], 0, 0, []) := And.intro dX10_go_93 (And.intro rfl (And.intro (by decide) (And.intro (by decide) (And.intro mo_X10_costOf (And.intro (tm_5 _ (List.mem_of_getElem? (i := 83) rfl) rfl) (And.intro (tm_5 _ (List.mem_of_getElem? (i := 85) rfl) rfl) (And.intro (pm_3 _ (List.mem_of_getElem? (i := 1) rfl)) (Or.inl ⟨(RX10, TX10, 15), rfl, rfl⟩))))))))
theorem oX10_go_96 : OKI 98 96 (.ireturn, 97, [0], 0, 0, []) := And.intro dX10_go_96 (Or.inl (And.intro rfl rfl))
def pfX10_go (pc : Nat) : Option XE := (bif Nat.blt pc 35 then (bif Nat.blt pc 14 then (bif Nat.blt pc 9 then (bif Nat.blt pc 2 then (bif Nat.blt pc 1 then (bif Nat.beq pc 0 then some (.iload_n 3, 1, [3], 0, 0, []) else none) else (bif Nat.beq pc 1 then some (.iconst 0, 2, [], 0, 0, []) else none)) else (bif Nat.blt pc 3 then (bif Nat.beq pc 2 then some (.iconst 2, 3, [], 2, 0, []) else none) else (bif Nat.blt pc 6 then (bif Nat.beq pc 3 then some (.invokestatic 84, 6, [111, 3, 0, 0, 0, 1], 0, 0, []) else none) else (bif Nat.beq pc 6 then some (.ifCond .ne 5, 9, [11], 0, 0, []) else none)))) else (bif Nat.blt pc 11 then (bif Nat.blt pc 10 then (bif Nat.beq pc 9 then some (.iconst (-1), 10, [], (-1), 0, []) else none) else (bif Nat.beq pc 10 then some (.ireturn, 11, [0], 0, 0, []) else none)) else (bif Nat.blt pc 12 then (bif Nat.beq pc 11 then some (.iload_n 1, 12, [1], 0, 0, []) else none) else (bif Nat.blt pc 13 then (bif Nat.beq pc 12 then some (.iconst 1, 13, [], 1, 0, []) else none) else (bif Nat.beq pc 13 then some (.iconst 5, 14, [], 5, 0, []) else none))))) else (bif Nat.blt pc 25 then (bif Nat.blt pc 20 then (bif Nat.blt pc 17 then (bif Nat.beq pc 14 then some (.invokestatic 84, 17, [111, 3, 0, 0, 0, 1], 0, 0, []) else none) else (bif Nat.beq pc 17 then some (.ifCond .eq 14, 20, [31], 0, 0, []) else none)) else (bif Nat.blt pc 21 then (bif Nat.beq pc 20 then some (.iload_n 2, 21, [2], 0, 0, []) else none) else (bif Nat.blt pc 22 then (bif Nat.beq pc 21 then some (.iconst 0, 22, [], 0, 0, []) else none) else (bif Nat.beq pc 22 then some (.sipush 400, 25, [], 400, 0, []) else none)))) else (bif Nat.blt pc 31 then (bif Nat.blt pc 28 then (bif Nat.beq pc 25 then some (.invokestatic 84, 28, [111, 3, 0, 0, 0, 1], 0, 0, []) else none) else (bif Nat.beq pc 28 then some (.ifCond .ne 6, 31, [34], 0, 0, []) else none)) else (bif Nat.blt pc 33 then (bif Nat.beq pc 31 then some (.bipush (-2), 33, [], (-2), 0, []) else none) else (bif Nat.blt pc 34 then (bif Nat.beq pc 33 then some (.ireturn, 34, [0], 0, 0, []) else none) else (bif Nat.beq pc 34 then some (.aload_n 0, 35, [0], 0, 0, []) else none)))))) else (bif Nat.blt pc 52 then (bif Nat.blt pc 43 then (bif Nat.blt pc 37 then (bif Nat.blt pc 36 then (bif Nat.beq pc 35 then some (.iload_n 1, 36, [1], 0, 0, []) else none) else (bif Nat.beq pc 36 then some (.iload_n 2, 37, [2], 0, 0, []) else none)) else (bif Nat.blt pc 38 then (bif Nat.beq pc 37 then some (.iconst (-1), 38, [], (-1), 0, []) else none) else (bif Nat.blt pc 41 then (bif Nat.beq pc 38 then some (.invokevirtual 350, 41, [135, 4, 12, 0, 0, 1], 0, 0, []) else none) else (bif Nat.beq pc 41 then some (.istore 4, 43, [4], 0, 0, []) else none)))) else (bif Nat.blt pc 48 then (bif Nat.blt pc 45 then (bif Nat.beq pc 43 then some (.iload 4, 45, [4], 0, 0, []) else none) else (bif Nat.beq pc 45 then some (.ifCond .ge 6, 48, [51], 0, 0, []) else none)) else (bif Nat.blt pc 50 then (bif Nat.beq pc 48 then some (.bipush (-3), 50, [], (-3), 0, []) else none) else (bif Nat.blt pc 51 then (bif Nat.beq pc 50 then some (.ireturn, 51, [0], 0, 0, []) else none) else (bif Nat.beq pc 51 then some (.iload_n 3, 52, [3], 0, 0, []) else none))))) else (bif Nat.blt pc 87 then (bif Nat.blt pc 81 then (bif Nat.blt pc 80 then (bif Nat.beq pc 52 then some (.lookupswitch 38 #[(0, 28), (1, 35)], 80, [90], 0, 0, [(0, 80), (1, 87)]) else none) else (bif Nat.beq pc 80 then some (.aload_n 0, 81, [0], 0, 0, []) else none)) else (bif Nat.blt pc 83 then (bif Nat.beq pc 81 then some (.iload 4, 83, [4], 0, 0, []) else none) else (bif Nat.blt pc 86 then (bif Nat.beq pc 83 then some (.invokevirtual 353, 86, [137, 2, 12, 0, 0, 1], 0, 0, []) else none) else (bif Nat.beq pc 86 then some (.ireturn, 87, [0], 0, 0, []) else none)))) else (bif Nat.blt pc 91 then (bif Nat.blt pc 89 then (bif Nat.beq pc 87 then some (.iload 4, 89, [4], 0, 0, []) else none) else (bif Nat.blt pc 90 then (bif Nat.beq pc 89 then some (.ireturn, 90, [0], 0, 0, []) else none) else (bif Nat.beq pc 90 then some (.aload_n 0, 91, [0], 0, 0, []) else none))) else (bif Nat.blt pc 93 then (bif Nat.beq pc 91 then some (.iload 4, 93, [4], 0, 0, []) else none) else (bif Nat.blt pc 96 then (bif Nat.beq pc 93 then some (.invokevirtual 356, 96, [138, 2, 12, 0, 0, 1], 0, 0, []) else none) else (bif Nat.beq pc 96 then some (.ireturn, 97, [0], 0, 0, []) else none)))))))
theorem okX10_go : ∀ pc Y, pfX10_go pc = some Y → OKI m_X10_go pc Y := fun pc Y => ((bt_node (bt_node (bt_node (bt_node (bt_node (bt_leaf (P := OKI m_X10_go) oX10_go_0) (bt_leaf (P := OKI m_X10_go) oX10_go_1)) (bt_node (bt_leaf (P := OKI m_X10_go) oX10_go_2) (bt_node (bt_leaf (P := OKI m_X10_go) oX10_go_3) (bt_leaf (P := OKI m_X10_go) oX10_go_6)))) (bt_node (bt_node (bt_leaf (P := OKI m_X10_go) oX10_go_9) (bt_leaf (P := OKI m_X10_go) oX10_go_10)) (bt_node (bt_leaf (P := OKI m_X10_go) oX10_go_11) (bt_node (bt_leaf (P := OKI m_X10_go) oX10_go_12) (bt_leaf (P := OKI m_X10_go) oX10_go_13))))) (bt_node (bt_node (bt_node (bt_leaf (P := OKI m_X10_go) oX10_go_14) (bt_leaf (P := OKI m_X10_go) oX10_go_17)) (bt_node (bt_leaf (P := OKI m_X10_go) oX10_go_20) (bt_node (bt_leaf (P := OKI m_X10_go) oX10_go_21) (bt_leaf (P := OKI m_X10_go) oX10_go_22)))) (bt_node (bt_node (bt_leaf (P := OKI m_X10_go) oX10_go_25) (bt_leaf (P := OKI m_X10_go) oX10_go_28)) (bt_node (bt_leaf (P := OKI m_X10_go) oX10_go_31) (bt_node (bt_leaf (P := OKI m_X10_go) oX10_go_33) (bt_leaf (P := OKI m_X10_go) oX10_go_34)))))) (bt_node (bt_node (bt_node (bt_node (bt_leaf (P := OKI m_X10_go) oX10_go_35) (bt_leaf (P := OKI m_X10_go) oX10_go_36)) (bt_node (bt_leaf (P := OKI m_X10_go) oX10_go_37) (bt_node (bt_leaf (P := OKI m_X10_go) oX10_go_38) (bt_leaf (P := OKI m_X10_go) oX10_go_41)))) (bt_node (bt_node (bt_leaf (P := OKI m_X10_go) oX10_go_43) (bt_leaf (P := OKI m_X10_go) oX10_go_45)) (bt_node (bt_leaf (P := OKI m_X10_go) oX10_go_48) (bt_node (bt_leaf (P := OKI m_X10_go) oX10_go_50) (bt_leaf (P := OKI m_X10_go) oX10_go_51))))) (bt_node (bt_node (bt_node (bt_leaf (P := OKI m_X10_go) oX10_go_52) (bt_leaf (P := OKI m_X10_go) oX10_go_80)) (bt_node (bt_leaf (P := OKI m_X10_go) oX10_go_81) (bt_node (bt_leaf (P := OKI m_X10_go) oX10_go_83) (bt_leaf (P := OKI m_X10_go) oX10_go_86)))) (bt_node (bt_node (bt_leaf (P := OKI m_X10_go) oX10_go_87) (bt_node (bt_leaf (P := OKI m_X10_go) oX10_go_89) (bt_leaf (P := OKI m_X10_go) oX10_go_90))) (bt_node (bt_leaf (P := OKI m_X10_go) oX10_go_91) (bt_node (bt_leaf (P := OKI m_X10_go) oX10_go_93) (bt_leaf (P := OKI m_X10_go) oX10_go_96))))))) : pfX10_go pc = some Y → OKI m_X10_go pc Y)
def stpX10_go (pc : Nat) : Option (List Bool) := (bif Nat.beq pc 31 then some [false, false, false, false, false] else none)
def bX10_go_0 (d rc rs : Nat) (a1 : Int32) (a2 : Int32) (a3 : Int32) (σ : XH) (Q : XV → XH → Prop) : Prop :=
  (1 ≤ d ∧ Ec (d - 1) 0 0 m_X10_within [vI a3, vI 0, vI 2] σ (kI fun x2 h1 => ((x2 = 0 → Q (vI (-1)) h1) ∧ (¬ x2 = 0 → (1 ≤ d ∧ Ec (d - 1) 0 0 m_X10_within [vI a1, vI 1, vI 5] h1 (kI fun x4 h3 => ((x4 = 0 → Ex d rc rs m_X10_go 31 [vU, vU, vU, vU, vU] [] h3 Q) ∧ (¬ x4 = 0 → (1 ≤ d ∧ Ec (d - 1) 0 0 m_X10_within [vI a2, vI 0, vI 400] h3 (kI fun x6 h5 => ((x6 = 0 → Ex d rc rs m_X10_go 31 [vU, vU, vU, vU, vU] [] h5 Q) ∧ (¬ x6 = 0 → ((1 ≤ d ∧ Ec (d - 1) 0 0 m_X10_bestSet [vR (some (11, 0)), vI a1, vI a2, vI (-1)] h5 (kI fun x8 h7 => ((x8 < 0 → Q (vI (-3)) h7) ∧ (¬ x8 < 0 → ((a3 = 0 → ((1 ≤ d ∧ Ec (d - 1) 0 0 m_X10_worthOf [vR (some (11, 0)), vI x8] h7 (kI fun x12 h11 => Q (vI x12) h11)))) ∧ (¬ a3 = 0 → ((a3 = 1 → Q (vI x8) h7) ∧ (¬ a3 = 1 → ((1 ≤ d ∧ Ec (d - 1) 0 0 m_X10_costOf [vR (some (11, 0)), vI x8] h7 (kI fun x10 h9 => Q (vI x10) h9))))))))))))))))))))))))
theorem sX10_go_0 {d rc rs : Nat} {a1 : Int32} {a2 : Int32} {a3 : Int32} {σ : XH} {Q : XV → XH → Prop} (h : bX10_go_0 d rc rs a1 a2 a3 σ Q) : Ex d rc rs m_X10_go 0 [vR (some (11, 0)), vI a1, vI a2, vI a3, vU] [] σ Q :=
  xtree_sound (stop := stpX10_go) okX10_go 31 _ _ _ _ _ _ h
def bX10_go_31 (d rc rs : Nat)  (σ : XH) (Q : XV → XH → Prop) : Prop :=
  Q (vI (-2)) σ
theorem sX10_go_31 {d rc rs : Nat}  {σ : XH} {Q : XV → XH → Prop} (h : bX10_go_31 d rc rs  σ Q) : Ex d rc rs m_X10_go 31 [vU, vU, vU, vU, vU] [] σ Q :=
  xtree_sound (stop := stpX10_go) okX10_go 4 _ _ _ _ _ _ h
/-! SpotTimers.lost(III)I -/
theorem dX10_lost_0 : decode cX10_lost 0 = .ok (.iload_n 3, 1) := by decide +kernel
theorem dX10_lost_1 : decode cX10_lost 1 = .ok (.iconst 0, 1) := by decide +kernel
theorem dX10_lost_2 : decode cX10_lost 2 = .ok (.aload_n 0, 1) := by decide +kernel
theorem dX10_lost_3 : decode cX10_lost 3 = .ok (.getfield 30, 3) := by decide +kernel
theorem dX10_lost_6 : decode cX10_lost 6 = .ok (.invokevirtual 91, 3) := by decide +kernel
theorem dX10_lost_9 : decode cX10_lost 9 = .ok (.iconst 1, 1) := by decide +kernel
theorem dX10_lost_10 : decode cX10_lost 10 = .ok (.isub, 1) := by decide +kernel
theorem dX10_lost_11 : decode cX10_lost 11 = .ok (.invokestatic 84, 3) := by decide +kernel
theorem dX10_lost_14 : decode cX10_lost 14 = .ok (.ifCond .ne 5, 3) := by decide +kernel
theorem dX10_lost_17 : decode cX10_lost 17 = .ok (.iconst (-1), 1) := by decide +kernel
theorem dX10_lost_18 : decode cX10_lost 18 = .ok (.ireturn, 1) := by decide +kernel
theorem dX10_lost_19 : decode cX10_lost 19 = .ok (.iload_n 1, 1) := by decide +kernel
theorem dX10_lost_20 : decode cX10_lost 20 = .ok (.iconst 1, 1) := by decide +kernel
theorem dX10_lost_21 : decode cX10_lost 21 = .ok (.iconst 5, 1) := by decide +kernel
theorem dX10_lost_22 : decode cX10_lost 22 = .ok (.invokestatic 84, 3) := by decide +kernel
theorem dX10_lost_25 : decode cX10_lost 25 = .ok (.ifCond .eq 14, 3) := by decide +kernel
theorem dX10_lost_28 : decode cX10_lost 28 = .ok (.iload_n 2, 1) := by decide +kernel
theorem dX10_lost_29 : decode cX10_lost 29 = .ok (.iconst 0, 1) := by decide +kernel
theorem dX10_lost_30 : decode cX10_lost 30 = .ok (.sipush 400, 3) := by decide +kernel
theorem dX10_lost_33 : decode cX10_lost 33 = .ok (.invokestatic 84, 3) := by decide +kernel
theorem dX10_lost_36 : decode cX10_lost 36 = .ok (.ifCond .ne 6, 3) := by decide +kernel
theorem dX10_lost_39 : decode cX10_lost 39 = .ok (.bipush (-2), 2) := by decide +kernel
theorem dX10_lost_41 : decode cX10_lost 41 = .ok (.ireturn, 1) := by decide +kernel
theorem dX10_lost_42 : decode cX10_lost 42 = .ok (.aload_n 0, 1) := by decide +kernel
theorem dX10_lost_43 : decode cX10_lost 43 = .ok (.iload_n 1, 1) := by decide +kernel
theorem dX10_lost_44 : decode cX10_lost 44 = .ok (.iload_n 2, 1) := by decide +kernel
theorem dX10_lost_45 : decode cX10_lost 45 = .ok (.iconst (-1), 1) := by decide +kernel
theorem dX10_lost_46 : decode cX10_lost 46 = .ok (.invokevirtual 350, 3) := by decide +kernel
theorem dX10_lost_49 : decode cX10_lost 49 = .ok (.istore 4, 2) := by decide +kernel
theorem dX10_lost_51 : decode cX10_lost 51 = .ok (.aload_n 0, 1) := by decide +kernel
theorem dX10_lost_52 : decode cX10_lost 52 = .ok (.iload_n 1, 1) := by decide +kernel
theorem dX10_lost_53 : decode cX10_lost 53 = .ok (.iload_n 2, 1) := by decide +kernel
theorem dX10_lost_54 : decode cX10_lost 54 = .ok (.iload_n 3, 1) := by decide +kernel
theorem dX10_lost_55 : decode cX10_lost 55 = .ok (.invokevirtual 350, 3) := by decide +kernel
theorem dX10_lost_58 : decode cX10_lost 58 = .ok (.istore 5, 2) := by decide +kernel
theorem dX10_lost_60 : decode cX10_lost 60 = .ok (.iload 4, 2) := by decide +kernel
theorem dX10_lost_62 : decode cX10_lost 62 = .ok (.ifCond .lt 8, 3) := by decide +kernel
theorem dX10_lost_65 : decode cX10_lost 65 = .ok (.iload 5, 2) := by decide +kernel
theorem dX10_lost_67 : decode cX10_lost 67 = .ok (.ifCond .ge 8, 3) := by decide +kernel
theorem dX10_lost_70 : decode cX10_lost 70 = .ok (.bipush (-3), 2) := by decide +kernel
theorem dX10_lost_72 : decode cX10_lost 72 = .ok (.goto 16, 3) := by decide +kernel
theorem dX10_lost_75 : decode cX10_lost 75 = .ok (.aload_n 0, 1) := by decide +kernel
theorem dX10_lost_76 : decode cX10_lost 76 = .ok (.iload 4, 2) := by decide +kernel
theorem dX10_lost_78 : decode cX10_lost 78 = .ok (.invokevirtual 353, 3) := by decide +kernel
theorem dX10_lost_81 : decode cX10_lost 81 = .ok (.aload_n 0, 1) := by decide +kernel
theorem dX10_lost_82 : decode cX10_lost 82 = .ok (.iload 5, 2) := by decide +kernel
theorem dX10_lost_84 : decode cX10_lost 84 = .ok (.invokevirtual 353, 3) := by decide +kernel
theorem dX10_lost_87 : decode cX10_lost 87 = .ok (.isub, 1) := by decide +kernel
theorem dX10_lost_88 : decode cX10_lost 88 = .ok (.ireturn, 1) := by decide +kernel
theorem oX10_lost_0 : OKI 99 0 (.iload_n 3, 1, [3], 0, 0, []) := And.intro dX10_lost_0 (And.intro rfl (rfl))
theorem oX10_lost_1 : OKI 99 1 (.iconst 0, 2, [], 0, 0, []) := And.intro dX10_lost_1 (And.intro rfl (by decide +kernel))
theorem oX10_lost_2 : OKI 99 2 (.aload_n 0, 3, [0], 0, 0, []) := And.intro dX10_lost_2 (And.intro rfl (rfl))
theorem oX10_lost_3 : OKI 99 3 (.getfield 30, 6, [11, 5, 2, 0, 6], 0, 0, []) := And.intro dX10_lost_3 (And.intro rfl (⟨(RX10, TX10, 15), "SpotTimers", rfl, by decide, tm_1 _ (List.mem_of_getElem? (i := 235) rfl) rfl, Or.inl rfl, rfl, rfl⟩))
theorem oX10_lost_6 : OKI 99 6 (.invokevirtual 91, 9, [271, 1, 1, 0, 0, 1], 0, 0, []) := And.intro dX10_lost_6 (And.intro rfl (And.intro (by decide) (And.intro (by decide) (And.intro mo_Jx4a65c_size_8abf5 (And.intro (tm_2 _ (List.mem_of_getElem? (i := 50) rfl) rfl) (And.intro (tm_2 _ (List.mem_of_getElem? (i := 51) rfl) rfl) (And.intro (tm_2 _ (List.mem_of_getElem? (i := 52) rfl) rfl) (Or.inl ⟨(RJx4a65c, TJx4a65c, 3), rfl, rfl⟩))))))))
theorem oX10_lost_9 : OKI 99 9 (.iconst 1, 10, [], 1, 0, []) := And.intro dX10_lost_9 (And.intro rfl (by decide +kernel))
theorem oX10_lost_10 : OKI 99 10 (.isub, 11, [], 0, 0, []) := And.intro dX10_lost_10 rfl
theorem oX10_lost_11 : OKI 99 11 (.invokestatic 84, 14, [111, 3, 0, 0, 0, 1], 0, 0, []) := And.intro dX10_lost_11 (And.intro rfl (And.intro rfl (And.intro mo_X10_within (And.intro (Or.inl (tm_2 _ (List.mem_of_getElem? (i := 40) rfl) rfl)) (tm_2 _ (List.mem_of_getElem? (i := 41) rfl) rfl)))))
theorem oX10_lost_14 : OKI 99 14 (.ifCond .ne 5, 17, [19], 0, 0, []) := And.intro dX10_lost_14 (And.intro rfl (by decide))
theorem oX10_lost_17 : OKI 99 17 (.iconst (-1), 18, [], (-1), 0, []) := And.intro dX10_lost_17 (And.intro rfl (by decide +kernel))
theorem oX10_lost_18 : OKI 99 18 (.ireturn, 19, [0], 0, 0, []) := And.intro dX10_lost_18 (Or.inl (And.intro rfl rfl))
theorem oX10_lost_19 : OKI 99 19 (.iload_n 1, 20, [1], 0, 0, []) := And.intro dX10_lost_19 (And.intro rfl (rfl))
theorem oX10_lost_20 : OKI 99 20 (.iconst 1, 21, [], 1, 0, []) := And.intro dX10_lost_20 (And.intro rfl (by decide +kernel))
theorem oX10_lost_21 : OKI 99 21 (.iconst 5, 22, [], 5, 0, []) := And.intro dX10_lost_21 (And.intro rfl (by decide +kernel))
theorem oX10_lost_22 : OKI 99 22 (.invokestatic 84, 25, [111, 3, 0, 0, 0, 1], 0, 0, []) := And.intro dX10_lost_22 (And.intro rfl (And.intro rfl (And.intro mo_X10_within (And.intro (Or.inl (tm_2 _ (List.mem_of_getElem? (i := 40) rfl) rfl)) (tm_2 _ (List.mem_of_getElem? (i := 41) rfl) rfl)))))
theorem oX10_lost_25 : OKI 99 25 (.ifCond .eq 14, 28, [39], 0, 0, []) := And.intro dX10_lost_25 (And.intro rfl (by decide))
theorem oX10_lost_28 : OKI 99 28 (.iload_n 2, 29, [2], 0, 0, []) := And.intro dX10_lost_28 (And.intro rfl (rfl))
theorem oX10_lost_29 : OKI 99 29 (.iconst 0, 30, [], 0, 0, []) := And.intro dX10_lost_29 (And.intro rfl (by decide +kernel))
theorem oX10_lost_30 : OKI 99 30 (.sipush 400, 33, [], 400, 0, []) := And.intro dX10_lost_30 (And.intro rfl (by decide +kernel))
theorem oX10_lost_33 : OKI 99 33 (.invokestatic 84, 36, [111, 3, 0, 0, 0, 1], 0, 0, []) := And.intro dX10_lost_33 (And.intro rfl (And.intro rfl (And.intro mo_X10_within (And.intro (Or.inl (tm_2 _ (List.mem_of_getElem? (i := 40) rfl) rfl)) (tm_2 _ (List.mem_of_getElem? (i := 41) rfl) rfl)))))
theorem oX10_lost_36 : OKI 99 36 (.ifCond .ne 6, 39, [42], 0, 0, []) := And.intro dX10_lost_36 (And.intro rfl (by decide))
theorem oX10_lost_39 : OKI 99 39 (.bipush (-2), 41, [], (-2), 0, []) := And.intro dX10_lost_39 (And.intro rfl (by decide +kernel))
theorem oX10_lost_41 : OKI 99 41 (.ireturn, 42, [0], 0, 0, []) := And.intro dX10_lost_41 (Or.inl (And.intro rfl rfl))
theorem oX10_lost_42 : OKI 99 42 (.aload_n 0, 43, [0], 0, 0, []) := And.intro dX10_lost_42 (And.intro rfl (rfl))
theorem oX10_lost_43 : OKI 99 43 (.iload_n 1, 44, [1], 0, 0, []) := And.intro dX10_lost_43 (And.intro rfl (rfl))
theorem oX10_lost_44 : OKI 99 44 (.iload_n 2, 45, [2], 0, 0, []) := And.intro dX10_lost_44 (And.intro rfl (rfl))
theorem oX10_lost_45 : OKI 99 45 (.iconst (-1), 46, [], (-1), 0, []) := And.intro dX10_lost_45 (And.intro rfl (by decide +kernel))
theorem oX10_lost_46 : OKI 99 46 (.invokevirtual 350, 49, [135, 4, 12, 0, 0, 1], 0, 0, []) := And.intro dX10_lost_46 (And.intro rfl (And.intro (by decide) (And.intro (by decide) (And.intro mo_X10_bestSet (And.intro (tm_5 _ (List.mem_of_getElem? (i := 78) rfl) rfl) (And.intro (tm_5 _ (List.mem_of_getElem? (i := 80) rfl) rfl) (And.intro (pm_3 _ (List.mem_of_getElem? (i := 0) rfl)) (Or.inl ⟨(RX10, TX10, 15), rfl, rfl⟩))))))))
theorem oX10_lost_49 : OKI 99 49 (.istore 4, 51, [4], 0, 0, []) := And.intro dX10_lost_49 (And.intro rfl (And.intro rfl (by decide)))
theorem oX10_lost_51 : OKI 99 51 (.aload_n 0, 52, [0], 0, 0, []) := And.intro dX10_lost_51 (And.intro rfl (rfl))
theorem oX10_lost_52 : OKI 99 52 (.iload_n 1, 53, [1], 0, 0, []) := And.intro dX10_lost_52 (And.intro rfl (rfl))
theorem oX10_lost_53 : OKI 99 53 (.iload_n 2, 54, [2], 0, 0, []) := And.intro dX10_lost_53 (And.intro rfl (rfl))
theorem oX10_lost_54 : OKI 99 54 (.iload_n 3, 55, [3], 0, 0, []) := And.intro dX10_lost_54 (And.intro rfl (rfl))
theorem oX10_lost_55 : OKI 99 55 (.invokevirtual 350, 58, [135, 4, 12, 0, 0, 1], 0, 0, []) := And.intro dX10_lost_55 (And.intro rfl (And.intro (by decide) (And.intro (by decide) (And.intro mo_X10_bestSet (And.intro (tm_5 _ (List.mem_of_getElem? (i := 78) rfl) rfl) (And.intro (tm_5 _ (List.mem_of_getElem? (i := 80) rfl) rfl) (And.intro (pm_3 _ (List.mem_of_getElem? (i := 0) rfl)) (Or.inl ⟨(RX10, TX10, 15), rfl, rfl⟩))))))))
theorem oX10_lost_58 : OKI 99 58 (.istore 5, 60, [5], 0, 0, []) := And.intro dX10_lost_58 (And.intro rfl (And.intro rfl (by decide)))
theorem oX10_lost_60 : OKI 99 60 (.iload 4, 62, [4], 0, 0, []) := And.intro dX10_lost_60 (And.intro rfl (rfl))
theorem oX10_lost_62 : OKI 99 62 (.ifCond .lt 8, 65, [70], 0, 0, []) := And.intro dX10_lost_62 (And.intro rfl (by decide))
theorem oX10_lost_65 : OKI 99 65 (.iload 5, 67, [5], 0, 0, []) := And.intro dX10_lost_65 (And.intro rfl (rfl))
theorem oX10_lost_67 : OKI 99 67 (.ifCond .ge 8, 70, [75], 0, 0, []) := And.intro dX10_lost_67 (And.intro rfl (by decide))
theorem oX10_lost_70 : OKI 99 70 (.bipush (-3), 72, [], (-3), 0, []) := And.intro dX10_lost_70 (And.intro rfl (by decide +kernel))
theorem oX10_lost_72 : OKI 99 72 (.goto 16, 75, [88], 0, 0, []) := And.intro dX10_lost_72 (And.intro rfl (by decide))
theorem oX10_lost_75 : OKI 99 75 (.aload_n 0, 76, [0], 0, 0, []) := And.intro dX10_lost_75 (And.intro rfl (rfl))
theorem oX10_lost_76 : OKI 99 76 (.iload 4, 78, [4], 0, 0, []) := And.intro dX10_lost_76 (And.intro rfl (rfl))
theorem oX10_lost_78 : OKI 99 78 (.invokevirtual 353, 81, [137, 2, 12, 0, 0, 1], 0, 0, []) := And.intro dX10_lost_78 (And.intro rfl (And.intro (by decide) (And.intro (by decide) (And.intro mo_X10_worthOf (And.intro (tm_5 _ (List.mem_of_getElem? (i := 91) rfl) rfl) (And.intro (tm_5 _ (List.mem_of_getElem? (i := 93) rfl) rfl) (And.intro (pm_3 _ (List.mem_of_getElem? (i := 3) rfl)) (Or.inl ⟨(RX10, TX10, 15), rfl, rfl⟩))))))))
theorem oX10_lost_81 : OKI 99 81 (.aload_n 0, 82, [0], 0, 0, []) := And.intro dX10_lost_81 (And.intro rfl (rfl))
theorem oX10_lost_82 : OKI 99 82 (.iload 5, 84, [5], 0, 0, []) := And.intro dX10_lost_82 (And.intro rfl (rfl))
theorem oX10_lost_84 : OKI 99 84 (.invokevirtual 353, 87, [137, 2, 12, 0, 0, 1], 0, 0, []) := And.intro dX10_lost_84 (And.intro rfl (And.intro (by decide) (And.intro (by decide) (And.intro mo_X10_worthOf (And.intro (tm_5 _ (List.mem_of_getElem? (i := 91) rfl) rfl) (And.intro (tm_5 _ (List.mem_of_getElem? (i := 93) rfl) rfl) (And.intro (pm_3 _ (List.mem_of_getElem? (i := 3) rfl)) (Or.inl ⟨(RX10, TX10, 15), rfl, rfl⟩))))))))
theorem oX10_lost_87 : OKI 99 87 (.isub, 88, [], 0, 0, []) := And.intro dX10_lost_87 rfl
theorem oX10_lost_88 : OKI 99 88 (.ireturn, 89, [0], 0, 0, []) := And.intro dX10_lost_88 (Or.inl (And.intro rfl rfl))
def pfX10_lost (pc : Nat) : Option XE := (bif Nat.blt pc 43 then (bif Nat.blt pc 20 then (bif Nat.blt pc 10 then (bif Nat.blt pc 3 then (bif Nat.blt pc 1 then (bif Nat.beq pc 0 then some (.iload_n 3, 1, [3], 0, 0, []) else none) else (bif Nat.blt pc 2 then (bif Nat.beq pc 1 then some (.iconst 0, 2, [], 0, 0, []) else none) else (bif Nat.beq pc 2 then some (.aload_n 0, 3, [0], 0, 0, []) else none))) else (bif Nat.blt pc 6 then (bif Nat.beq pc 3 then some (.getfield 30, 6, [11, 5, 2, 0, 6], 0, 0, []) else none) else (bif Nat.blt pc 9 then (bif Nat.beq pc 6 then some (.invokevirtual 91, 9, [271, 1, 1, 0, 0, 1], 0, 0, []) else none) else (bif Nat.beq pc 9 then some (.iconst 1, 10, [], 1, 0, []) else none)))) else (bif Nat.blt pc 17 then (bif Nat.blt pc 11 then (bif Nat.beq pc 10 then some (.isub, 11, [], 0, 0, []) else none) else (bif Nat.blt pc 14 then (bif Nat.beq pc 11 then some (.invokestatic 84, 14, [111, 3, 0, 0, 0, 1], 0, 0, []) else none) else (bif Nat.beq pc 14 then some (.ifCond .ne 5, 17, [19], 0, 0, []) else none))) else (bif Nat.blt pc 18 then (bif Nat.beq pc 17 then some (.iconst (-1), 18, [], (-1), 0, []) else none) else (bif Nat.blt pc 19 then (bif Nat.beq pc 18 then some (.ireturn, 19, [0], 0, 0, []) else none) else (bif Nat.beq pc 19 then some (.iload_n 1, 20, [1], 0, 0, []) else none))))) else (bif Nat.blt pc 30 then (bif Nat.blt pc 25 then (bif Nat.blt pc 21 then (bif Nat.beq pc 20 then some (.iconst 1, 21, [], 1, 0, []) else none) else (bif Nat.blt pc 22 then (bif Nat.beq pc 21 then some (.iconst 5, 22, [], 5, 0, []) else none) else (bif Nat.beq pc 22 then some (.invokestatic 84, 25, [111, 3, 0, 0, 0, 1], 0, 0, []) else none))) else (bif Nat.blt pc 28 then (bif Nat.beq pc 25 then some (.ifCond .eq 14, 28, [39], 0, 0, []) else none) else (bif Nat.blt pc 29 then (bif Nat.beq pc 28 then some (.iload_n 2, 29, [2], 0, 0, []) else none) else (bif Nat.beq pc 29 then some (.iconst 0, 30, [], 0, 0, []) else none)))) else (bif Nat.blt pc 39 then (bif Nat.blt pc 33 then (bif Nat.beq pc 30 then some (.sipush 400, 33, [], 400, 0, []) else none) else (bif Nat.blt pc 36 then (bif Nat.beq pc 33 then some (.invokestatic 84, 36, [111, 3, 0, 0, 0, 1], 0, 0, []) else none) else (bif Nat.beq pc 36 then some (.ifCond .ne 6, 39, [42], 0, 0, []) else none))) else (bif Nat.blt pc 41 then (bif Nat.beq pc 39 then some (.bipush (-2), 41, [], (-2), 0, []) else none) else (bif Nat.blt pc 42 then (bif Nat.beq pc 41 then some (.ireturn, 42, [0], 0, 0, []) else none) else (bif Nat.beq pc 42 then some (.aload_n 0, 43, [0], 0, 0, []) else none)))))) else (bif Nat.blt pc 62 then (bif Nat.blt pc 52 then (bif Nat.blt pc 46 then (bif Nat.blt pc 44 then (bif Nat.beq pc 43 then some (.iload_n 1, 44, [1], 0, 0, []) else none) else (bif Nat.blt pc 45 then (bif Nat.beq pc 44 then some (.iload_n 2, 45, [2], 0, 0, []) else none) else (bif Nat.beq pc 45 then some (.iconst (-1), 46, [], (-1), 0, []) else none))) else (bif Nat.blt pc 49 then (bif Nat.beq pc 46 then some (.invokevirtual 350, 49, [135, 4, 12, 0, 0, 1], 0, 0, []) else none) else (bif Nat.blt pc 51 then (bif Nat.beq pc 49 then some (.istore 4, 51, [4], 0, 0, []) else none) else (bif Nat.beq pc 51 then some (.aload_n 0, 52, [0], 0, 0, []) else none)))) else (bif Nat.blt pc 55 then (bif Nat.blt pc 53 then (bif Nat.beq pc 52 then some (.iload_n 1, 53, [1], 0, 0, []) else none) else (bif Nat.blt pc 54 then (bif Nat.beq pc 53 then some (.iload_n 2, 54, [2], 0, 0, []) else none) else (bif Nat.beq pc 54 then some (.iload_n 3, 55, [3], 0, 0, []) else none))) else (bif Nat.blt pc 58 then (bif Nat.beq pc 55 then some (.invokevirtual 350, 58, [135, 4, 12, 0, 0, 1], 0, 0, []) else none) else (bif Nat.blt pc 60 then (bif Nat.beq pc 58 then some (.istore 5, 60, [5], 0, 0, []) else none) else (bif Nat.beq pc 60 then some (.iload 4, 62, [4], 0, 0, []) else none))))) else (bif Nat.blt pc 76 then (bif Nat.blt pc 70 then (bif Nat.blt pc 65 then (bif Nat.beq pc 62 then some (.ifCond .lt 8, 65, [70], 0, 0, []) else none) else (bif Nat.blt pc 67 then (bif Nat.beq pc 65 then some (.iload 5, 67, [5], 0, 0, []) else none) else (bif Nat.beq pc 67 then some (.ifCond .ge 8, 70, [75], 0, 0, []) else none))) else (bif Nat.blt pc 72 then (bif Nat.beq pc 70 then some (.bipush (-3), 72, [], (-3), 0, []) else none) else (bif Nat.blt pc 75 then (bif Nat.beq pc 72 then some (.goto 16, 75, [88], 0, 0, []) else none) else (bif Nat.beq pc 75 then some (.aload_n 0, 76, [0], 0, 0, []) else none)))) else (bif Nat.blt pc 82 then (bif Nat.blt pc 78 then (bif Nat.beq pc 76 then some (.iload 4, 78, [4], 0, 0, []) else none) else (bif Nat.blt pc 81 then (bif Nat.beq pc 78 then some (.invokevirtual 353, 81, [137, 2, 12, 0, 0, 1], 0, 0, []) else none) else (bif Nat.beq pc 81 then some (.aload_n 0, 82, [0], 0, 0, []) else none))) else (bif Nat.blt pc 87 then (bif Nat.blt pc 84 then (bif Nat.beq pc 82 then some (.iload 5, 84, [5], 0, 0, []) else none) else (bif Nat.beq pc 84 then some (.invokevirtual 353, 87, [137, 2, 12, 0, 0, 1], 0, 0, []) else none)) else (bif Nat.blt pc 88 then (bif Nat.beq pc 87 then some (.isub, 88, [], 0, 0, []) else none) else (bif Nat.beq pc 88 then some (.ireturn, 89, [0], 0, 0, []) else none)))))))
theorem okX10_lost : ∀ pc Y, pfX10_lost pc = some Y → OKI m_X10_lost pc Y := fun pc Y => ((bt_node (bt_node (bt_node (bt_node (bt_node (bt_leaf (P := OKI m_X10_lost) oX10_lost_0) (bt_node (bt_leaf (P := OKI m_X10_lost) oX10_lost_1) (bt_leaf (P := OKI m_X10_lost) oX10_lost_2))) (bt_node (bt_leaf (P := OKI m_X10_lost) oX10_lost_3) (bt_node (bt_leaf (P := OKI m_X10_lost) oX10_lost_6) (bt_leaf (P := OKI m_X10_lost) oX10_lost_9)))) (bt_node (bt_node (bt_leaf (P := OKI m_X10_lost) oX10_lost_10) (bt_node (bt_leaf (P := OKI m_X10_lost) oX10_lost_11) (bt_leaf (P := OKI m_X10_lost) oX10_lost_14))) (bt_node (bt_leaf (P := OKI m_X10_lost) oX10_lost_17) (bt_node (bt_leaf (P := OKI m_X10_lost) oX10_lost_18) (bt_leaf (P := OKI m_X10_lost) oX10_lost_19))))) (bt_node (bt_node (bt_node (bt_leaf (P := OKI m_X10_lost) oX10_lost_20) (bt_node (bt_leaf (P := OKI m_X10_lost) oX10_lost_21) (bt_leaf (P := OKI m_X10_lost) oX10_lost_22))) (bt_node (bt_leaf (P := OKI m_X10_lost) oX10_lost_25) (bt_node (bt_leaf (P := OKI m_X10_lost) oX10_lost_28) (bt_leaf (P := OKI m_X10_lost) oX10_lost_29)))) (bt_node (bt_node (bt_leaf (P := OKI m_X10_lost) oX10_lost_30) (bt_node (bt_leaf (P := OKI m_X10_lost) oX10_lost_33) (bt_leaf (P := OKI m_X10_lost) oX10_lost_36))) (bt_node (bt_leaf (P := OKI m_X10_lost) oX10_lost_39) (bt_node (bt_leaf (P := OKI m_X10_lost) oX10_lost_41) (bt_leaf (P := OKI m_X10_lost) oX10_lost_42)))))) (bt_node (bt_node (bt_node (bt_node (bt_leaf (P := OKI m_X10_lost) oX10_lost_43) (bt_node (bt_leaf (P := OKI m_X10_lost) oX10_lost_44) (bt_leaf (P := OKI m_X10_lost) oX10_lost_45))) (bt_node (bt_leaf (P := OKI m_X10_lost) oX10_lost_46) (bt_node (bt_leaf (P := OKI m_X10_lost) oX10_lost_49) (bt_leaf (P := OKI m_X10_lost) oX10_lost_51)))) (bt_node (bt_node (bt_leaf (P := OKI m_X10_lost) oX10_lost_52) (bt_node (bt_leaf (P := OKI m_X10_lost) oX10_lost_53) (bt_leaf (P := OKI m_X10_lost) oX10_lost_54))) (bt_node (bt_leaf (P := OKI m_X10_lost) oX10_lost_55) (bt_node (bt_leaf (P := OKI m_X10_lost) oX10_lost_58) (bt_leaf (P := OKI m_X10_lost) oX10_lost_60))))) (bt_node (bt_node (bt_node (bt_leaf (P := OKI m_X10_lost) oX10_lost_62) (bt_node (bt_leaf (P := OKI m_X10_lost) oX10_lost_65) (bt_leaf (P := OKI m_X10_lost) oX10_lost_67))) (bt_node (bt_leaf (P := OKI m_X10_lost) oX10_lost_70) (bt_node (bt_leaf (P := OKI m_X10_lost) oX10_lost_72) (bt_leaf (P := OKI m_X10_lost) oX10_lost_75)))) (bt_node (bt_node (bt_leaf (P := OKI m_X10_lost) oX10_lost_76) (bt_node (bt_leaf (P := OKI m_X10_lost) oX10_lost_78) (bt_leaf (P := OKI m_X10_lost) oX10_lost_81))) (bt_node (bt_node (bt_leaf (P := OKI m_X10_lost) oX10_lost_82) (bt_leaf (P := OKI m_X10_lost) oX10_lost_84)) (bt_node (bt_leaf (P := OKI m_X10_lost) oX10_lost_87) (bt_leaf (P := OKI m_X10_lost) oX10_lost_88))))))) : pfX10_lost pc = some Y → OKI m_X10_lost pc Y)
def stpX10_lost (pc : Nat) : Option (List Bool) := (bif Nat.blt pc 70 then (bif Nat.beq pc 39 then some [false, false, false, false, false, false] else none) else (bif Nat.blt pc 88 then (bif Nat.beq pc 70 then some [false, false, false, false, false, false] else none) else (bif Nat.beq pc 88 then some [false, false, false, false, false, false] else none)))
def bX10_lost_0 (d rc rs : Nat) (a1 : Int32) (a2 : Int32) (a3 : Int32) (σ : XH) (Q : XV → XH → Prop) : Prop :=
  ((hr σ 11 0 5 = some (0, 5) ∧ ((1 ≤ d ∧ Ec (d - 1) 0 0 m_Jx4a65c_size_8abf5 [vR (some (0, 5))] σ (kI fun x2 h1 => (1 ≤ d ∧ Ec (d - 1) 0 0 m_X10_within [vI a3, vI 0, vI (x2 - 1)] h1 (kI fun x4 h3 => ((x4 = 0 → Q (vI (-1)) h3) ∧ (¬ x4 = 0 → (1 ≤ d ∧ Ec (d - 1) 0 0 m_X10_within [vI a1, vI 1, vI 5] h3 (kI fun x6 h5 => ((x6 = 0 → Ex d rc rs m_X10_lost 39 [vU, vU, vU, vU, vU, vU] [] h5 Q) ∧ (¬ x6 = 0 → (1 ≤ d ∧ Ec (d - 1) 0 0 m_X10_within [vI a2, vI 0, vI 400] h5 (kI fun x8 h7 => ((x8 = 0 → Ex d rc rs m_X10_lost 39 [vU, vU, vU, vU, vU, vU] [] h7 Q) ∧ (¬ x8 = 0 → ((1 ≤ d ∧ Ec (d - 1) 0 0 m_X10_bestSet [vR (some (11, 0)), vI a1, vI a2, vI (-1)] h7 (kI fun x10 h9 => ((1 ≤ d ∧ Ec (d - 1) 0 0 m_X10_bestSet [vR (some (11, 0)), vI a1, vI a2, vI a3] h9 (kI fun x12 h11 => ((x10 < 0 → Ex d rc rs m_X10_lost 70 [vU, vU, vU, vU, vU, vU] [] h11 Q) ∧ (¬ x10 < 0 → ((x12 < 0 → Ex d rc rs m_X10_lost 70 [vU, vU, vU, vU, vU, vU] [] h11 Q) ∧ (¬ x12 < 0 → ((1 ≤ d ∧ Ec (d - 1) 0 0 m_X10_worthOf [vR (some (11, 0)), vI x10] h11 (kI fun x14 h13 => ((1 ≤ d ∧ Ec (d - 1) 0 0 m_X10_worthOf [vR (some (11, 0)), vI x12] h13 (kI fun x16 h15 => Ex d rc rs m_X10_lost 88 [vU, vU, vU, vU, vU, vU] [vI (x14 - x16)] h15 Q)))))))))))))))))))))))))))))))))
set_option maxRecDepth 40000 in
set_option maxHeartbeats 4000000 in
theorem sX10_lost_0 {d rc rs : Nat} {a1 : Int32} {a2 : Int32} {a3 : Int32} {σ : XH} {Q : XV → XH → Prop} (h : bX10_lost_0 d rc rs a1 a2 a3 σ Q) : Ex d rc rs m_X10_lost 0 [vR (some (11, 0)), vI a1, vI a2, vI a3, vU, vU] [] σ Q :=
  xtree_sound (stop := stpX10_lost) okX10_lost 44 _ _ _ _ _ _ h
def bX10_lost_39 (d rc rs : Nat)  (σ : XH) (Q : XV → XH → Prop) : Prop :=
  Q (vI (-2)) σ
theorem sX10_lost_39 {d rc rs : Nat}  {σ : XH} {Q : XV → XH → Prop} (h : bX10_lost_39 d rc rs  σ Q) : Ex d rc rs m_X10_lost 39 [vU, vU, vU, vU, vU, vU] [] σ Q :=
  xtree_sound (stop := stpX10_lost) okX10_lost 4 _ _ _ _ _ _ h
def bX10_lost_70 (d rc rs : Nat)  (σ : XH) (Q : XV → XH → Prop) : Prop :=
  Ex d rc rs m_X10_lost 88 [vU, vU, vU, vU, vU, vU] [vI (-3)] σ Q
theorem sX10_lost_70 {d rc rs : Nat}  {σ : XH} {Q : XV → XH → Prop} (h : bX10_lost_70 d rc rs  σ Q) : Ex d rc rs m_X10_lost 70 [vU, vU, vU, vU, vU, vU] [] σ Q :=
  xtree_sound (stop := stpX10_lost) okX10_lost 4 _ _ _ _ _ _ h
def bX10_lost_88 (d rc rs : Nat) (q0 : Int32) (σ : XH) (Q : XV → XH → Prop) : Prop :=
  Q (vI q0) σ
theorem sX10_lost_88 {d rc rs : Nat} {q0 : Int32} {σ : XH} {Q : XV → XH → Prop} (h : bX10_lost_88 d rc rs q0 σ Q) : Ex d rc rs m_X10_lost 88 [vU, vU, vU, vU, vU, vU] [vI q0] σ Q :=
  xtree_sound (stop := stpX10_lost) okX10_lost 3 _ _ _ _ _ _ h
/-! SpotTimers.difference(II)J -/
theorem dX10_difference_0 : decode cX10_difference 0 = .ok (.aload_n 0, 1) := by decide +kernel
theorem dX10_difference_1 : decode cX10_difference 1 = .ok (.iload_n 1, 1) := by decide +kernel
theorem dX10_difference_2 : decode cX10_difference 2 = .ok (.invokevirtual 153, 3) := by decide +kernel
theorem dX10_difference_5 : decode cX10_difference 5 = .ok (.astore_n 3, 1) := by decide +kernel
theorem dX10_difference_6 : decode cX10_difference 6 = .ok (.aload_n 0, 1) := by decide +kernel
theorem dX10_difference_7 : decode cX10_difference 7 = .ok (.iload_n 2, 1) := by decide +kernel
theorem dX10_difference_8 : decode cX10_difference 8 = .ok (.invokevirtual 153, 3) := by decide +kernel
theorem dX10_difference_11 : decode cX10_difference 11 = .ok (.astore 4, 2) := by decide +kernel
theorem dX10_difference_13 : decode cX10_difference 13 = .ok (.aload_n 3, 1) := by decide +kernel
theorem dX10_difference_14 : decode cX10_difference 14 = .ok (.ifnull 17, 3) := by decide +kernel
theorem dX10_difference_17 : decode cX10_difference 17 = .ok (.aload 4, 2) := by decide +kernel
theorem dX10_difference_19 : decode cX10_difference 19 = .ok (.ifnull 12, 3) := by decide +kernel
theorem dX10_difference_22 : decode cX10_difference 22 = .ok (.aload_n 3, 1) := by decide +kernel
theorem dX10_difference_23 : decode cX10_difference 23 = .ok (.aload 4, 2) := by decide +kernel
theorem dX10_difference_25 : decode cX10_difference 25 = .ok (.invokevirtual 359, 3) := by decide +kernel
theorem dX10_difference_28 : decode cX10_difference 28 = .ok (.ifCond .ne 7, 3) := by decide +kernel
theorem dX10_difference_31 : decode cX10_difference 31 = .ok (.ldc2_w 304, 3) := by decide +kernel
theorem dX10_difference_34 : decode cX10_difference 34 = .ok (.lreturn, 1) := by decide +kernel
theorem dX10_difference_35 : decode cX10_difference 35 = .ok (.aload_n 3, 1) := by decide +kernel
theorem dX10_difference_36 : decode cX10_difference 36 = .ok (.iconst 0, 1) := by decide +kernel
theorem dX10_difference_37 : decode cX10_difference 37 = .ok (.invokevirtual 202, 3) := by decide +kernel
theorem dX10_difference_40 : decode cX10_difference 40 = .ok (.istore 5, 2) := by decide +kernel
theorem dX10_difference_42 : decode cX10_difference 42 = .ok (.aload 4, 2) := by decide +kernel
theorem dX10_difference_44 : decode cX10_difference 44 = .ok (.iconst 0, 1) := by decide +kernel
theorem dX10_difference_45 : decode cX10_difference 45 = .ok (.invokevirtual 202, 3) := by decide +kernel
theorem dX10_difference_48 : decode cX10_difference 48 = .ok (.istore 6, 2) := by decide +kernel
theorem dX10_difference_50 : decode cX10_difference 50 = .ok (.iload 5, 2) := by decide +kernel
theorem dX10_difference_52 : decode cX10_difference 52 = .ok (.ldc 179, 2) := by decide +kernel
theorem dX10_difference_54 : decode cX10_difference 54 = .ok (.if_icmp .eq 10, 3) := by decide +kernel
theorem dX10_difference_57 : decode cX10_difference 57 = .ok (.iload 6, 2) := by decide +kernel
theorem dX10_difference_59 : decode cX10_difference 59 = .ok (.ldc 179, 2) := by decide +kernel
theorem dX10_difference_61 : decode cX10_difference 61 = .ok (.if_icmp .ne 9, 3) := by decide +kernel
theorem dX10_difference_64 : decode cX10_difference 64 = .ok (.ldc2_w 304, 3) := by decide +kernel
theorem dX10_difference_67 : decode cX10_difference 67 = .ok (.goto 10, 3) := by decide +kernel
theorem dX10_difference_70 : decode cX10_difference 70 = .ok (.iload 5, 2) := by decide +kernel
theorem dX10_difference_72 : decode cX10_difference 72 = .ok (.i2l, 1) := by decide +kernel
theorem dX10_difference_73 : decode cX10_difference 73 = .ok (.iload 6, 2) := by decide +kernel
theorem dX10_difference_75 : decode cX10_difference 75 = .ok (.i2l, 1) := by decide +kernel
theorem dX10_difference_76 : decode cX10_difference 76 = .ok (.lsub, 1) := by decide +kernel
theorem dX10_difference_77 : decode cX10_difference 77 = .ok (.lreturn, 1) := by decide +kernel
theorem oX10_difference_0 : OKI 100 0 (.aload_n 0, 1, [0], 0, 0, []) := And.intro dX10_difference_0 (And.intro rfl (rfl))
theorem oX10_difference_1 : OKI 100 1 (.iload_n 1, 2, [1], 0, 0, []) := And.intro dX10_difference_1 (And.intro rfl (rfl))
theorem oX10_difference_2 : OKI 100 2 (.invokevirtual 153, 5, [122, 2, 12, 0, 0, 3], 0, 0, []) := And.intro dX10_difference_2 (And.intro rfl (And.intro (by decide) (And.intro (by decide) (And.intro mo_X10_readingAt (And.intro (tm_3 _ (List.mem_of_getElem? (i := 105) rfl) rfl) (And.intro (tm_3 _ (List.mem_of_getElem? (i := 107) rfl) rfl) (And.intro (pm_1 _ (List.mem_of_getElem? (i := 9) rfl)) (Or.inl ⟨(RX10, TX10, 15), rfl, rfl⟩))))))))
theorem oX10_difference_5 : OKI 100 5 (.astore_n 3, 6, [3], 0, 0, []) := And.intro dX10_difference_5 (And.intro rfl (And.intro rfl (by decide)))
theorem oX10_difference_6 : OKI 100 6 (.aload_n 0, 7, [0], 0, 0, []) := And.intro dX10_difference_6 (And.intro rfl (rfl))
theorem oX10_difference_7 : OKI 100 7 (.iload_n 2, 8, [2], 0, 0, []) := And.intro dX10_difference_7 (And.intro rfl (rfl))
theorem oX10_difference_8 : OKI 100 8 (.invokevirtual 153, 11, [122, 2, 12, 0, 0, 3], 0, 0, []) := And.intro dX10_difference_8 (And.intro rfl (And.intro (by decide) (And.intro (by decide) (And.intro mo_X10_readingAt (And.intro (tm_3 _ (List.mem_of_getElem? (i := 105) rfl) rfl) (And.intro (tm_3 _ (List.mem_of_getElem? (i := 107) rfl) rfl) (And.intro (pm_1 _ (List.mem_of_getElem? (i := 9) rfl)) (Or.inl ⟨(RX10, TX10, 15), rfl, rfl⟩))))))))
theorem oX10_difference_11 : OKI 100 11 (.astore 4, 13, [4], 0, 0, []) := And.intro dX10_difference_11 (And.intro rfl (And.intro rfl (by decide)))
theorem oX10_difference_13 : OKI 100 13 (.aload_n 3, 14, [3], 0, 0, []) := And.intro dX10_difference_13 (And.intro rfl (rfl))
theorem oX10_difference_14 : OKI 100 14 (.ifnull 17, 17, [31], 0, 0, []) := And.intro dX10_difference_14 (And.intro rfl (by decide))
theorem oX10_difference_17 : OKI 100 17 (.aload 4, 19, [4], 0, 0, []) := And.intro dX10_difference_17 (And.intro rfl (rfl))
theorem oX10_difference_19 : OKI 100 19 (.ifnull 12, 22, [31], 0, 0, []) := And.intro dX10_difference_19 (And.intro rfl (by decide))
theorem oX10_difference_22 : OKI 100 22 (.aload_n 3, 23, [3], 0, 0, []) := And.intro dX10_difference_22 (And.intro rfl (rfl))
theorem oX10_difference_23 : OKI 100 23 (.aload 4, 25, [4], 0, 0, []) := And.intro dX10_difference_23 (And.intro rfl (rfl))
theorem oX10_difference_25 : OKI 100 25 (.invokevirtual 359, 28, [22, 2, 6, 0, 0, 1], 0, 0, []) := And.intro dX10_difference_25 (And.intro rfl (And.intro (by decide) (And.intro (by decide) (And.intro mo_X4_isJoinedTo (And.intro (tm_5 _ (List.mem_of_getElem? (i := 103) rfl) rfl) (And.intro (tm_5 _ (List.mem_of_getElem? (i := 104) rfl) rfl) (And.intro (tm_5 _ (List.mem_of_getElem? (i := 105) rfl) rfl) (Or.inl ⟨(RX4, TX4, 11), rfl, rfl⟩))))))))
theorem oX10_difference_28 : OKI 100 28 (.ifCond .ne 7, 31, [35], 0, 0, []) := And.intro dX10_difference_28 (And.intro rfl (by decide))
theorem oX10_difference_31 : OKI 100 31 (.ldc2_w 304, 34, [], 0, (-9223372036854775808), []) := And.intro dX10_difference_31 (And.intro rfl (tm_4 _ (List.mem_of_getElem? (i := 221) rfl) rfl))
theorem oX10_difference_34 : OKI 100 34 (.lreturn, 35, [], 0, 0, []) := And.intro dX10_difference_34 rfl
theorem oX10_difference_35 : OKI 100 35 (.aload_n 3, 36, [3], 0, 0, []) := And.intro dX10_difference_35 (And.intro rfl (rfl))
theorem oX10_difference_36 : OKI 100 36 (.iconst 0, 37, [], 0, 0, []) := And.intro dX10_difference_36 (And.intro rfl (by decide +kernel))
theorem oX10_difference_37 : OKI 100 37 (.invokevirtual 202, 40, [20, 2, 6, 0, 0, 1], 0, 0, []) := And.intro dX10_difference_37 (And.intro rfl (And.intro (by decide) (And.intro (by decide) (And.intro mo_X4_seenAt (And.intro (tm_3 _ (List.mem_of_getElem? (i := 138) rfl) rfl) (And.intro (tm_3 _ (List.mem_of_getElem? (i := 139) rfl) rfl) (And.intro (tm_3 _ (List.mem_of_getElem? (i := 140) rfl) rfl) (Or.inl ⟨(RX4, TX4, 11), rfl, rfl⟩))))))))
theorem oX10_difference_40 : OKI 100 40 (.istore 5, 42, [5], 0, 0, []) := And.intro dX10_difference_40 (And.intro rfl (And.intro rfl (by decide)))
theorem oX10_difference_42 : OKI 100 42 (.aload 4, 44, [4], 0, 0, []) := And.intro dX10_difference_42 (And.intro rfl (rfl))
theorem oX10_difference_44 : OKI 100 44 (.iconst 0, 45, [], 0, 0, []) := And.intro dX10_difference_44 (And.intro rfl (by decide +kernel))
theorem oX10_difference_45 : OKI 100 45 (.invokevirtual 202, 48, [20, 2, 6, 0, 0, 1], 0, 0, []) := And.intro dX10_difference_45 (And.intro rfl (And.intro (by decide) (And.intro (by decide) (And.intro mo_X4_seenAt (And.intro (tm_3 _ (List.mem_of_getElem? (i := 138) rfl) rfl) (And.intro (tm_3 _ (List.mem_of_getElem? (i := 139) rfl) rfl) (And.intro (tm_3 _ (List.mem_of_getElem? (i := 140) rfl) rfl) (Or.inl ⟨(RX4, TX4, 11), rfl, rfl⟩))))))))
theorem oX10_difference_48 : OKI 100 48 (.istore 6, 50, [6], 0, 0, []) := And.intro dX10_difference_48 (And.intro rfl (And.intro rfl (by decide)))
theorem oX10_difference_50 : OKI 100 50 (.iload 5, 52, [5], 0, 0, []) := And.intro dX10_difference_50 (And.intro rfl (rfl))
theorem oX10_difference_52 : OKI 100 52 (.ldc 179, 54, [], (-1000000000), 0, []) := And.intro dX10_difference_52 (And.intro rfl (tm_3 _ (List.mem_of_getElem? (i := 23) rfl) rfl))
theorem oX10_difference_54 : OKI 100 54 (.if_icmp .eq 10, 57, [64], 0, 0, []) := And.intro dX10_difference_54 (And.intro rfl (by decide))
theorem oX10_difference_57 : OKI 100 57 (.iload 6, 59, [6], 0, 0, []) := And.intro dX10_difference_57 (And.intro rfl (rfl))
theorem oX10_difference_59 : OKI 100 59 (.ldc 179, 61, [], (-1000000000), 0, []) := And.intro dX10_difference_59 (And.intro rfl (tm_3 _ (List.mem_of_getElem? (i := 23) rfl) rfl))
theorem oX10_difference_61 : OKI 100 61 (.if_icmp .ne 9, 64, [70], 0, 0, []) := And.intro dX10_difference_61 (And.intro rfl (by decide))
theorem oX10_difference_64 : OKI 100 64 (.ldc2_w 304, 67, [], 0, (-9223372036854775808), []) := And.intro dX10_difference_64 (And.intro rfl (tm_4 _ (List.mem_of_getElem? (i := 221) rfl) rfl))
theorem oX10_difference_67 : OKI 100 67 (.goto 10, 70, [77], 0, 0, []) := And.intro dX10_difference_67 (And.intro rfl (by decide))
theorem oX10_difference_70 : OKI 100 70 (.iload 5, 72, [5], 0, 0, []) := And.intro dX10_difference_70 (And.intro rfl (rfl))
theorem oX10_difference_72 : OKI 100 72 (.i2l, 73, [], 0, 0, []) := And.intro dX10_difference_72 rfl
theorem oX10_difference_73 : OKI 100 73 (.iload 6, 75, [6], 0, 0, []) := And.intro dX10_difference_73 (And.intro rfl (rfl))
theorem oX10_difference_75 : OKI 100 75 (.i2l, 76, [], 0, 0, []) := And.intro dX10_difference_75 rfl
theorem oX10_difference_76 : OKI 100 76 (.lsub, 77, [], 0, 0, []) := And.intro dX10_difference_76 rfl
theorem oX10_difference_77 : OKI 100 77 (.lreturn, 78, [], 0, 0, []) := And.intro dX10_difference_77 rfl
def pfX10_difference (pc : Nat) : Option XE := (bif Nat.blt pc 37 then (bif Nat.blt pc 17 then (bif Nat.blt pc 7 then (bif Nat.blt pc 2 then (bif Nat.blt pc 1 then (bif Nat.beq pc 0 then some (.aload_n 0, 1, [0], 0, 0, []) else none) else (bif Nat.beq pc 1 then some (.iload_n 1, 2, [1], 0, 0, []) else none)) else (bif Nat.blt pc 5 then (bif Nat.beq pc 2 then some (.invokevirtual 153, 5, [122, 2, 12, 0, 0, 3], 0, 0, []) else none) else (bif Nat.blt pc 6 then (bif Nat.beq pc 5 then some (.astore_n 3, 6, [3], 0, 0, []) else none) else (bif Nat.beq pc 6 then some (.aload_n 0, 7, [0], 0, 0, []) else none)))) else (bif Nat.blt pc 11 then (bif Nat.blt pc 8 then (bif Nat.beq pc 7 then some (.iload_n 2, 8, [2], 0, 0, []) else none) else (bif Nat.beq pc 8 then some (.invokevirtual 153, 11, [122, 2, 12, 0, 0, 3], 0, 0, []) else none)) else (bif Nat.blt pc 13 then (bif Nat.beq pc 11 then some (.astore 4, 13, [4], 0, 0, []) else none) else (bif Nat.blt pc 14 then (bif Nat.beq pc 13 then some (.aload_n 3, 14, [3], 0, 0, []) else none) else (bif Nat.beq pc 14 then some (.ifnull 17, 17, [31], 0, 0, []) else none))))) else (bif Nat.blt pc 28 then (bif Nat.blt pc 22 then (bif Nat.blt pc 19 then (bif Nat.beq pc 17 then some (.aload 4, 19, [4], 0, 0, []) else none) else (bif Nat.beq pc 19 then some (.ifnull 12, 22, [31], 0, 0, []) else none)) else (bif Nat.blt pc 23 then (bif Nat.beq pc 22 then some (.aload_n 3, 23, [3], 0, 0, []) else none) else (bif Nat.blt pc 25 then (bif Nat.beq pc 23 then some (.aload 4, 25, [4], 0, 0, []) else none) else (bif Nat.beq pc 25 then some (.invokevirtual 359, 28, [22, 2, 6, 0, 0, 1], 0, 0, []) else none)))) else (bif Nat.blt pc 34 then (bif Nat.blt pc 31 then (bif Nat.beq pc 28 then some (.ifCond .ne 7, 31, [35], 0, 0, []) else none) else (bif Nat.beq pc 31 then some (.ldc2_w 304, 34, [], 0, (-9223372036854775808), []) else none)) else (bif Nat.blt pc 35 then (bif Nat.beq pc 34 then some (.lreturn, 35, [], 0, 0, []) else none) else (bif Nat.blt pc 36 then (bif Nat.beq pc 35 then some (.aload_n 3, 36, [3], 0, 0, []) else none) else (bif Nat.beq pc 36 then some (.iconst 0, 37, [], 0, 0, []) else none)))))) else (bif Nat.blt pc 59 then (bif Nat.blt pc 48 then (bif Nat.blt pc 42 then (bif Nat.blt pc 40 then (bif Nat.beq pc 37 then some (.invokevirtual 202, 40, [20, 2, 6, 0, 0, 1], 0, 0, []) else none) else (bif Nat.beq pc 40 then some (.istore 5, 42, [5], 0, 0, []) else none)) else (bif Nat.blt pc 44 then (bif Nat.beq pc 42 then some (.aload 4, 44, [4], 0, 0, []) else none) else (bif Nat.blt pc 45 then (bif Nat.beq pc 44 then some (.iconst 0, 45, [], 0, 0, []) else none) else (bif Nat.beq pc 45 then some (.invokevirtual 202, 48, [20, 2, 6, 0, 0, 1], 0, 0, []) else none)))) else (bif Nat.blt pc 52 then (bif Nat.blt pc 50 then (bif Nat.beq pc 48 then some (.istore 6, 50, [6], 0, 0, []) else none) else (bif Nat.beq pc 50 then some (.iload 5, 52, [5], 0, 0, []) else none)) else (bif Nat.blt pc 54 then (bif Nat.beq pc 52 then some (.ldc 179, 54, [], (-1000000000), 0, []) else none) else (bif Nat.blt pc 57 then (bif Nat.beq pc 54 then some (.if_icmp .eq 10, 57, [64], 0, 0, []) else none) else (bif Nat.beq pc 57 then some (.iload 6, 59, [6], 0, 0, []) else none))))) else (bif Nat.blt pc 72 then (bif Nat.blt pc 64 then (bif Nat.blt pc 61 then (bif Nat.beq pc 59 then some (.ldc 179, 61, [], (-1000000000), 0, []) else none) else (bif Nat.beq pc 61 then some (.if_icmp .ne 9, 64, [70], 0, 0, []) else none)) else (bif Nat.blt pc 67 then (bif Nat.beq pc 64 then some (.ldc2_w 304, 67, [], 0, (-9223372036854775808), []) else none) else (bif Nat.blt pc 70 then (bif Nat.beq pc 67 then some (.goto 10, 70, [77], 0, 0, []) else none) else (bif Nat.beq pc 70 then some (.iload 5, 72, [5], 0, 0, []) else none)))) else (bif Nat.blt pc 75 then (bif Nat.blt pc 73 then (bif Nat.beq pc 72 then some (.i2l, 73, [], 0, 0, []) else none) else (bif Nat.beq pc 73 then some (.iload 6, 75, [6], 0, 0, []) else none)) else (bif Nat.blt pc 76 then (bif Nat.beq pc 75 then some (.i2l, 76, [], 0, 0, []) else none) else (bif Nat.blt pc 77 then (bif Nat.beq pc 76 then some (.lsub, 77, [], 0, 0, []) else none) else (bif Nat.beq pc 77 then some (.lreturn, 78, [], 0, 0, []) else none)))))))
theorem okX10_difference : ∀ pc Y, pfX10_difference pc = some Y → OKI m_X10_difference pc Y := fun pc Y => ((bt_node (bt_node (bt_node (bt_node (bt_node (bt_leaf (P := OKI m_X10_difference) oX10_difference_0) (bt_leaf (P := OKI m_X10_difference) oX10_difference_1)) (bt_node (bt_leaf (P := OKI m_X10_difference) oX10_difference_2) (bt_node (bt_leaf (P := OKI m_X10_difference) oX10_difference_5) (bt_leaf (P := OKI m_X10_difference) oX10_difference_6)))) (bt_node (bt_node (bt_leaf (P := OKI m_X10_difference) oX10_difference_7) (bt_leaf (P := OKI m_X10_difference) oX10_difference_8)) (bt_node (bt_leaf (P := OKI m_X10_difference) oX10_difference_11) (bt_node (bt_leaf (P := OKI m_X10_difference) oX10_difference_13) (bt_leaf (P := OKI m_X10_difference) oX10_difference_14))))) (bt_node (bt_node (bt_node (bt_leaf (P := OKI m_X10_difference) oX10_difference_17) (bt_leaf (P := OKI m_X10_difference) oX10_difference_19)) (bt_node (bt_leaf (P := OKI m_X10_difference) oX10_difference_22) (bt_node (bt_leaf (P := OKI m_X10_difference) oX10_difference_23) (bt_leaf (P := OKI m_X10_difference) oX10_difference_25)))) (bt_node (bt_node (bt_leaf (P := OKI m_X10_difference) oX10_difference_28) (bt_leaf (P := OKI m_X10_difference) oX10_difference_31)) (bt_node (bt_leaf (P := OKI m_X10_difference) oX10_difference_34) (bt_node (bt_leaf (P := OKI m_X10_difference) oX10_difference_35) (bt_leaf (P := OKI m_X10_difference) oX10_difference_36)))))) (bt_node (bt_node (bt_node (bt_node (bt_leaf (P := OKI m_X10_difference) oX10_difference_37) (bt_leaf (P := OKI m_X10_difference) oX10_difference_40)) (bt_node (bt_leaf (P := OKI m_X10_difference) oX10_difference_42) (bt_node (bt_leaf (P := OKI m_X10_difference) oX10_difference_44) (bt_leaf (P := OKI m_X10_difference) oX10_difference_45)))) (bt_node (bt_node (bt_leaf (P := OKI m_X10_difference) oX10_difference_48) (bt_leaf (P := OKI m_X10_difference) oX10_difference_50)) (bt_node (bt_leaf (P := OKI m_X10_difference) oX10_difference_52) (bt_node (bt_leaf (P := OKI m_X10_difference) oX10_difference_54) (bt_leaf (P := OKI m_X10_difference) oX10_difference_57))))) (bt_node (bt_node (bt_node (bt_leaf (P := OKI m_X10_difference) oX10_difference_59) (bt_leaf (P := OKI m_X10_difference) oX10_difference_61)) (bt_node (bt_leaf (P := OKI m_X10_difference) oX10_difference_64) (bt_node (bt_leaf (P := OKI m_X10_difference) oX10_difference_67) (bt_leaf (P := OKI m_X10_difference) oX10_difference_70)))) (bt_node (bt_node (bt_leaf (P := OKI m_X10_difference) oX10_difference_72) (bt_leaf (P := OKI m_X10_difference) oX10_difference_73)) (bt_node (bt_leaf (P := OKI m_X10_difference) oX10_difference_75) (bt_node (bt_leaf (P := OKI m_X10_difference) oX10_difference_76) (bt_leaf (P := OKI m_X10_difference) oX10_difference_77))))))) : pfX10_difference pc = some Y → OKI m_X10_difference pc Y)
def stpX10_difference (pc : Nat) : Option (List Bool) := (bif Nat.blt pc 64 then (bif Nat.beq pc 31 then some [false, false, false, false, false, false, false] else none) else (bif Nat.blt pc 77 then (bif Nat.beq pc 64 then some [false, false, false, false, false, false, false] else none) else (bif Nat.beq pc 77 then some [false, false, false, false, false, false, false] else none)))
def bX10_difference_0 (d rc rs : Nat) (a1 : Int32) (a2 : Int32) (σ : XH) (Q : XV → XH → Prop) : Prop :=
  ((1 ≤ d ∧ Ec (d - 1) 0 0 m_X10_readingAt [vR (some (11, 0)), vI a1] σ (kR fun x2 h1 => ((1 ≤ d ∧ Ec (d - 1) 0 0 m_X10_readingAt [vR (some (11, 0)), vI a2] h1 (kR fun x4 h3 => (((x2 : Option XO) = none → Ex d rc rs m_X10_difference 31 [vU, vU, vU, vU, vU, vU, vU] [] h3 Q) ∧ (¬ (x2 : Option XO) = none → (((x4 : Option XO) = none → Ex d rc rs m_X10_difference 31 [vU, vU, vU, vU, vU, vU, vU] [] h3 Q) ∧ (¬ (x4 : Option XO) = none → (drf x2 5 fun i13 => (1 ≤ d ∧ Ec (d - 1) 0 0 m_X4_isJoinedTo [vR (some (5, i13)), vR x4] h3 (kI fun x6 h5 => ((x6 = 0 → Ex d rc rs m_X10_difference 31 [vU, vU, vU, vU, vU, vU, vU] [] h5 Q) ∧ (¬ x6 = 0 → (drf x2 5 fun i12 => (1 ≤ d ∧ Ec (d - 1) 0 0 m_X4_seenAt [vR (some (5, i12)), vI 0] h5 (kI fun x8 h7 => (drf x4 5 fun i11 => (1 ≤ d ∧ Ec (d - 1) 0 0 m_X4_seenAt [vR (some (5, i11)), vI 0] h7 (kI fun x10 h9 => ((x8 = (-1000000000) → Ex d rc rs m_X10_difference 64 [vU, vU, vU, vU, vU, vU, vU] [] h9 Q) ∧ (¬ x8 = (-1000000000) → ((x10 = (-1000000000) → Ex d rc rs m_X10_difference 64 [vU, vU, vU, vU, vU, vU, vU] [] h9 Q) ∧ (¬ x10 = (-1000000000) → Ex d rc rs m_X10_difference 77 [vU, vU, vU, vU, vU, vU, vU] [vL (x8.toInt64 - x10.toInt64)] h9 Q)))))))))))))))))))))))))
theorem sX10_difference_0 {d rc rs : Nat} {a1 : Int32} {a2 : Int32} {σ : XH} {Q : XV → XH → Prop} (h : bX10_difference_0 d rc rs a1 a2 σ Q) : Ex d rc rs m_X10_difference 0 [vR (some (11, 0)), vI a1, vI a2, vU, vU, vU, vU] [] σ Q :=
  xtree_sound (stop := stpX10_difference) okX10_difference 37 _ _ _ _ _ _ h
def bX10_difference_31 (d rc rs : Nat)  (σ : XH) (Q : XV → XH → Prop) : Prop :=
  Q (vL (-9223372036854775808)) σ
theorem sX10_difference_31 {d rc rs : Nat}  {σ : XH} {Q : XV → XH → Prop} (h : bX10_difference_31 d rc rs  σ Q) : Ex d rc rs m_X10_difference 31 [vU, vU, vU, vU, vU, vU, vU] [] σ Q :=
  xtree_sound (stop := stpX10_difference) okX10_difference 4 _ _ _ _ _ _ h
def bX10_difference_64 (d rc rs : Nat)  (σ : XH) (Q : XV → XH → Prop) : Prop :=
  Ex d rc rs m_X10_difference 77 [vU, vU, vU, vU, vU, vU, vU] [vL (-9223372036854775808)] σ Q
theorem sX10_difference_64 {d rc rs : Nat}  {σ : XH} {Q : XV → XH → Prop} (h : bX10_difference_64 d rc rs  σ Q) : Ex d rc rs m_X10_difference 64 [vU, vU, vU, vU, vU, vU, vU] [] σ Q :=
  xtree_sound (stop := stpX10_difference) okX10_difference 4 _ _ _ _ _ _ h
def bX10_difference_77 (d rc rs : Nat) (q0 : Int64) (σ : XH) (Q : XV → XH → Prop) : Prop :=
  Q (vL q0) σ
theorem sX10_difference_77 {d rc rs : Nat} {q0 : Int64} {σ : XH} {Q : XV → XH → Prop} (h : bX10_difference_77 d rc rs q0 σ Q) : Ex d rc rs m_X10_difference 77 [vU, vU, vU, vU, vU, vU, vU] [vL q0] σ Q :=
  xtree_sound (stop := stpX10_difference) okX10_difference 3 _ _ _ _ _ _ h
/-! SpotTimers.beside(I)I -/
theorem dX10_beside_0 : decode cX10_beside 0 = .ok (.aload_n 0, 1) := by decide +kernel
theorem dX10_beside_1 : decode cX10_beside 1 = .ok (.iload_n 1, 1) := by decide +kernel
theorem dX10_beside_2 : decode cX10_beside 2 = .ok (.invokevirtual 113, 3) := by decide +kernel
theorem dX10_beside_5 : decode cX10_beside 5 = .ok (.astore_n 2, 1) := by decide +kernel
theorem dX10_beside_6 : decode cX10_beside 6 = .ok (.aload_n 2, 1) := by decide +kernel
theorem dX10_beside_7 : decode cX10_beside 7 = .ok (.ifnonnull 5, 3) := by decide +kernel
theorem dX10_beside_10 : decode cX10_beside 10 = .ok (.iconst (-1), 1) := by decide +kernel
theorem dX10_beside_11 : decode cX10_beside 11 = .ok (.ireturn, 1) := by decide +kernel
theorem dX10_beside_12 : decode cX10_beside 12 = .ok (.aload_n 2, 1) := by decide +kernel
theorem dX10_beside_13 : decode cX10_beside 13 = .ok (.invokevirtual 121, 3) := by decide +kernel
theorem dX10_beside_16 : decode cX10_beside 16 = .ok (.ifCond .ne 6, 3) := by decide +kernel
theorem dX10_beside_19 : decode cX10_beside 19 = .ok (.bipush (-3), 2) := by decide +kernel
theorem dX10_beside_21 : decode cX10_beside 21 = .ok (.ireturn, 1) := by decide +kernel
theorem dX10_beside_22 : decode cX10_beside 22 = .ok (.iconst (-1), 1) := by decide +kernel
theorem dX10_beside_23 : decode cX10_beside 23 = .ok (.istore_n 3, 1) := by decide +kernel
theorem dX10_beside_24 : decode cX10_beside 24 = .ok (.iconst 0, 1) := by decide +kernel
theorem dX10_beside_25 : decode cX10_beside 25 = .ok (.istore 4, 2) := by decide +kernel
theorem dX10_beside_27 : decode cX10_beside 27 = .ok (.iconst 0, 1) := by decide +kernel
theorem dX10_beside_28 : decode cX10_beside 28 = .ok (.istore 5, 2) := by decide +kernel
theorem dX10_beside_30 : decode cX10_beside 30 = .ok (.iload 5, 2) := by decide +kernel
theorem dX10_beside_32 : decode cX10_beside 32 = .ok (.aload_n 0, 1) := by decide +kernel
theorem dX10_beside_33 : decode cX10_beside 33 = .ok (.getfield 18, 3) := by decide +kernel
theorem dX10_beside_36 : decode cX10_beside 36 = .ok (.invokevirtual 91, 3) := by decide +kernel
theorem dX10_beside_39 : decode cX10_beside 39 = .ok (.if_icmp .ge 42, 3) := by decide +kernel
theorem dX10_beside_42 : decode cX10_beside 42 = .ok (.iload 5, 2) := by decide +kernel
theorem dX10_beside_44 : decode cX10_beside 44 = .ok (.iload_n 1, 1) := by decide +kernel
theorem dX10_beside_45 : decode cX10_beside 45 = .ok (.if_icmp .ne 7, 3) := by decide +kernel
theorem dX10_beside_48 : decode cX10_beside 48 = .ok (.iconst 0, 1) := by decide +kernel
theorem dX10_beside_49 : decode cX10_beside 49 = .ok (.goto 10, 3) := by decide +kernel
theorem dX10_beside_52 : decode cX10_beside 52 = .ok (.aload_n 0, 1) := by decide +kernel
theorem dX10_beside_53 : decode cX10_beside 53 = .ok (.iload_n 1, 1) := by decide +kernel
theorem dX10_beside_54 : decode cX10_beside 54 = .ok (.iload 5, 2) := by decide +kernel
theorem dX10_beside_56 : decode cX10_beside 56 = .ok (.invokevirtual 363, 3) := by decide +kernel
theorem dX10_beside_59 : decode cX10_beside 59 = .ok (.istore 6, 2) := by decide +kernel
theorem dX10_beside_61 : decode cX10_beside 61 = .ok (.iload 6, 2) := by decide +kernel
theorem dX10_beside_63 : decode cX10_beside 63 = .ok (.iload 4, 2) := by decide +kernel
theorem dX10_beside_65 : decode cX10_beside 65 = .ok (.if_icmp .le 10, 3) := by decide +kernel
theorem dX10_beside_68 : decode cX10_beside 68 = .ok (.iload 6, 2) := by decide +kernel
theorem dX10_beside_70 : decode cX10_beside 70 = .ok (.istore 4, 2) := by decide +kernel
theorem dX10_beside_72 : decode cX10_beside 72 = .ok (.iload 5, 2) := by decide +kernel
theorem dX10_beside_74 : decode cX10_beside 74 = .ok (.istore_n 3, 1) := by decide +kernel
theorem dX10_beside_75 : decode cX10_beside 75 = .ok (.iinc 5 1, 3) := by decide +kernel
theorem dX10_beside_78 : decode cX10_beside 78 = .ok (.goto (-48), 3) := by decide +kernel
theorem dX10_beside_81 : decode cX10_beside 81 = .ok (.iload_n 3, 1) := by decide +kernel
theorem dX10_beside_82 : decode cX10_beside 82 = .ok (.ireturn, 1) := by decide +kernel
theorem oX10_beside_0 : OKI 101 0 (.aload_n 0, 1, [0], 0, 0, []) := And.intro dX10_beside_0 (And.intro rfl (rfl))
theorem oX10_beside_1 : OKI 101 1 (.iload_n 1, 2, [1], 0, 0, []) := And.intro dX10_beside_1 (And.intro rfl (rfl))
theorem oX10_beside_2 : OKI 101 2 (.invokevirtual 113, 5, [121, 2, 12, 0, 0, 3], 0, 0, []) := And.intro dX10_beside_2 (And.intro rfl (And.intro (by decide) (And.intro (by decide) (And.intro mo_X10_clockAt (And.intro (tm_2 _ (List.mem_of_getElem? (i := 206) rfl) rfl) (And.intro (tm_2 _ (List.mem_of_getElem? (i := 208) rfl) rfl) (And.intro (pm_1 _ (List.mem_of_getElem? (i := 4) rfl)) (Or.inl ⟨(RX10, TX10, 15), rfl, rfl⟩))))))))
theorem oX10_beside_5 : OKI 101 5 (.astore_n 2, 6, [2], 0, 0, []) := And.intro dX10_beside_5 (And.intro rfl (And.intro rfl (by decide)))
theorem oX10_beside_6 : OKI 101 6 (.aload_n 2, 7, [2], 0, 0, []) := And.intro dX10_beside_6 (And.intro rfl (rfl))
theorem oX10_beside_7 : OKI 101 7 (.ifnonnull 5, 10, [12], 0, 0, []) := And.intro dX10_beside_7 (And.intro rfl (by decide))
theorem oX10_beside_10 : OKI 101 10 (.iconst (-1), 11, [], (-1), 0, []) := And.intro dX10_beside_10 (And.intro rfl (by decide +kernel))
theorem oX10_beside_11 : OKI 101 11 (.ireturn, 12, [0], 0, 0, []) := And.intro dX10_beside_11 (Or.inl (And.intro rfl rfl))
theorem oX10_beside_12 : OKI 101 12 (.aload_n 2, 13, [2], 0, 0, []) := And.intro dX10_beside_12 (And.intro rfl (rfl))
theorem oX10_beside_13 : OKI 101 13 (.invokevirtual 121, 16, [7, 1, 3, 0, 0, 1], 0, 0, []) := And.intro dX10_beside_13 (And.intro rfl (And.intro (by decide) (And.intro (by decide) (And.intro mo_X1_hasStopped (And.intro (tm_2 _ (List.mem_of_getElem? (i := 214) rfl) rfl) (And.intro (tm_2 _ (List.mem_of_getElem? (i := 215) rfl) rfl) (And.intro (tm_2 _ (List.mem_of_getElem? (i := 216) rfl) rfl) (Or.inl ⟨(RX1, TX1, 6), rfl, rfl⟩))))))))
theorem oX10_beside_16 : OKI 101 16 (.ifCond .ne 6, 19, [22], 0, 0, []) := And.intro dX10_beside_16 (And.intro rfl (by decide))
theorem oX10_beside_19 : OKI 101 19 (.bipush (-3), 21, [], (-3), 0, []) := And.intro dX10_beside_19 (And.intro rfl (by decide +kernel))
theorem oX10_beside_21 : OKI 101 21 (.ireturn, 22, [0], 0, 0, []) := And.intro dX10_beside_21 (Or.inl (And.intro rfl rfl))
theorem oX10_beside_22 : OKI 101 22 (.iconst (-1), 23, [], (-1), 0, []) := And.intro dX10_beside_22 (And.intro rfl (by decide +kernel))
theorem oX10_beside_23 : OKI 101 23 (.istore_n 3, 24, [3], 0, 0, []) := And.intro dX10_beside_23 (And.intro rfl (And.intro rfl (by decide)))
theorem oX10_beside_24 : OKI 101 24 (.iconst 0, 25, [], 0, 0, []) := And.intro dX10_beside_24 (And.intro rfl (by decide +kernel))
theorem oX10_beside_25 : OKI 101 25 (.istore 4, 27, [4], 0, 0, []) := And.intro dX10_beside_25 (And.intro rfl (And.intro rfl (by decide)))
theorem oX10_beside_27 : OKI 101 27 (.iconst 0, 28, [], 0, 0, []) := And.intro dX10_beside_27 (And.intro rfl (by decide +kernel))
theorem oX10_beside_28 : OKI 101 28 (.istore 5, 30, [5], 0, 0, []) := And.intro dX10_beside_28 (And.intro rfl (And.intro rfl (by decide)))
theorem oX10_beside_30 : OKI 101 30 (.iload 5, 32, [5], 0, 0, []) := And.intro dX10_beside_30 (And.intro rfl (rfl))
theorem oX10_beside_32 : OKI 101 32 (.aload_n 0, 33, [0], 0, 0, []) := And.intro dX10_beside_32 (And.intro rfl (rfl))
theorem oX10_beside_33 : OKI 101 33 (.getfield 18, 36, [11, 1, 2, 0, 2], 0, 0, []) := And.intro dX10_beside_33 (And.intro rfl (⟨(RX10, TX10, 15), "SpotTimers", rfl, by decide, tm_1 _ (List.mem_of_getElem? (i := 231) rfl) rfl, Or.inl rfl, rfl, rfl⟩))
theorem oX10_beside_36 : OKI 101 36 (.invokevirtual 91, 39, [271, 1, 1, 0, 0, 1], 0, 0, []) := And.intro dX10_beside_36 (And.intro rfl (And.intro (by decide) (And.intro (by decide) (And.intro mo_Jx4a65c_size_8abf5 (And.intro (tm_2 _ (List.mem_of_getElem? (i := 50) rfl) rfl) (And.intro (tm_2 _ (List.mem_of_getElem? (i := 51) rfl) rfl) (And.intro (tm_2 _ (List.mem_of_getElem? (i := 52) rfl) rfl) (Or.inl ⟨(RJx4a65c, TJx4a65c, 3), rfl, rfl⟩))))))))
theorem oX10_beside_39 : OKI 101 39 (.if_icmp .ge 42, 42, [81], 0, 0, []) := And.intro dX10_beside_39 (And.intro rfl (by decide))
theorem oX10_beside_42 : OKI 101 42 (.iload 5, 44, [5], 0, 0, []) := And.intro dX10_beside_42 (And.intro rfl (rfl))
theorem oX10_beside_44 : OKI 101 44 (.iload_n 1, 45, [1], 0, 0, []) := And.intro dX10_beside_44 (And.intro rfl (rfl))
theorem oX10_beside_45 : OKI 101 45 (.if_icmp .ne 7, 48, [52], 0, 0, []) := And.intro dX10_beside_45 (And.intro rfl (by decide))
theorem oX10_beside_48 : OKI 101 48 (.iconst 0, 49, [], 0, 0, []) := And.intro dX10_beside_48 (And.intro rfl (by decide +kernel))
theorem oX10_beside_49 : OKI 101 49 (.goto 10, 52, [59], 0, 0, []) := And.intro dX10_beside_49 (And.intro rfl (by decide))
theorem oX10_beside_52 : OKI 101 52 (.aload_n 0, 53, [0], 0, 0, []) := And.intro dX10_beside_52 (And.intro rfl (rfl))
theorem oX10_beside_53 : OKI 101 53 (.iload_n 1, 54, [1], 0, 0, []) := And.intro dX10_beside_53 (And.intro rfl (rfl))
theorem oX10_beside_54 : OKI 101 54 (.iload 5, 56, [5], 0, 0, []) := And.intro dX10_beside_54 (And.intro rfl (rfl))
theorem oX10_beside_56 : OKI 101 56 (.invokevirtual 363, 59, [139, 3, 12, 0, 0, 1], 0, 0, []) := And.intro dX10_beside_56 (And.intro rfl (And.intro (by decide) (And.intro (by decide) (And.intro mo_X10_twosJoined (And.intro (tm_5 _ (List.mem_of_getElem? (i := 112) rfl) rfl) (And.intro (tm_5 _ (List.mem_of_getElem? (i := 114) rfl) rfl) (And.intro (pm_3 _ (List.mem_of_getElem? (i := 4) rfl)) (Or.inl ⟨(RX10, TX10, 15), rfl, rfl⟩))))))))
theorem oX10_beside_59 : OKI 101 59 (.istore 6, 61, [6], 0, 0, []) := And.intro dX10_beside_59 (And.intro rfl (And.intro rfl (by decide)))
theorem oX10_beside_61 : OKI 101 61 (.iload 6, 63, [6], 0, 0, []) := And.intro dX10_beside_61 (And.intro rfl (rfl))
theorem oX10_beside_63 : OKI 101 63 (.iload 4, 65, [4], 0, 0, []) := And.intro dX10_beside_63 (And.intro rfl (rfl))
theorem oX10_beside_65 : OKI 101 65 (.if_icmp .le 10, 68, [75], 0, 0, []) := And.intro dX10_beside_65 (And.intro rfl (by decide))
theorem oX10_beside_68 : OKI 101 68 (.iload 6, 70, [6], 0, 0, []) := And.intro dX10_beside_68 (And.intro rfl (rfl))
theorem oX10_beside_70 : OKI 101 70 (.istore 4, 72, [4], 0, 0, []) := And.intro dX10_beside_70 (And.intro rfl (And.intro rfl (by decide)))
theorem oX10_beside_72 : OKI 101 72 (.iload 5, 74, [5], 0, 0, []) := And.intro dX10_beside_72 (And.intro rfl (rfl))
theorem oX10_beside_74 : OKI 101 74 (.istore_n 3, 75, [3], 0, 0, []) := And.intro dX10_beside_74 (And.intro rfl (And.intro rfl (by decide)))
theorem oX10_beside_75 : OKI 101 75 (.iinc 5 1, 78, [5], 1, 0, []) := And.intro dX10_beside_75 (And.intro rfl (And.intro rfl (And.intro (by decide +kernel) (by decide))))
theorem oX10_beside_78 : OKI 101 78 (.goto (-48), 81, [30], 0, 0, []) := And.intro dX10_beside_78 (And.intro rfl (by decide))
theorem oX10_beside_81 : OKI 101 81 (.iload_n 3, 82, [3], 0, 0, []) := And.intro dX10_beside_81 (And.intro rfl (rfl))
theorem oX10_beside_82 : OKI 101 82 (.ireturn, 83, [0], 0, 0, []) := And.intro dX10_beside_82 (Or.inl (And.intro rfl rfl))
def pfX10_beside (pc : Nat) : Option XE := (bif Nat.blt pc 36 then (bif Nat.blt pc 19 then (bif Nat.blt pc 7 then (bif Nat.blt pc 2 then (bif Nat.blt pc 1 then (bif Nat.beq pc 0 then some (.aload_n 0, 1, [0], 0, 0, []) else none) else (bif Nat.beq pc 1 then some (.iload_n 1, 2, [1], 0, 0, []) else none)) else (bif Nat.blt pc 5 then (bif Nat.beq pc 2 then some (.invokevirtual 113, 5, [121, 2, 12, 0, 0, 3], 0, 0, []) else none) else (bif Nat.blt pc 6 then (bif Nat.beq pc 5 then some (.astore_n 2, 6, [2], 0, 0, []) else none) else (bif Nat.beq pc 6 then some (.aload_n 2, 7, [2], 0, 0, []) else none)))) else (bif Nat.blt pc 12 then (bif Nat.blt pc 10 then (bif Nat.beq pc 7 then some (.ifnonnull 5, 10, [12], 0, 0, []) else none) else (bif Nat.blt pc 11 then (bif Nat.beq pc 10 then some (.iconst (-1), 11, [], (-1), 0, []) else none) else (bif Nat.beq pc 11 then some (.ireturn, 12, [0], 0, 0, []) else none))) else (bif Nat.blt pc 13 then (bif Nat.beq pc 12 then some (.aload_n 2, 13, [2], 0, 0, []) else none) else (bif Nat.blt pc 16 then (bif Nat.beq pc 13 then some (.invokevirtual 121, 16, [7, 1, 3, 0, 0, 1], 0, 0, []) else none) else (bif Nat.beq pc 16 then some (.ifCond .ne 6, 19, [22], 0, 0, []) else none))))) else (bif Nat.blt pc 25 then (bif Nat.blt pc 22 then (bif Nat.blt pc 21 then (bif Nat.beq pc 19 then some (.bipush (-3), 21, [], (-3), 0, []) else none) else (bif Nat.beq pc 21 then some (.ireturn, 22, [0], 0, 0, []) else none)) else (bif Nat.blt pc 23 then (bif Nat.beq pc 22 then some (.iconst (-1), 23, [], (-1), 0, []) else none) else (bif Nat.blt pc 24 then (bif Nat.beq pc 23 then some (.istore_n 3, 24, [3], 0, 0, []) else none) else (bif Nat.beq pc 24 then some (.iconst 0, 25, [], 0, 0, []) else none)))) else (bif Nat.blt pc 30 then (bif Nat.blt pc 27 then (bif Nat.beq pc 25 then some (.istore 4, 27, [4], 0, 0, []) else none) else (bif Nat.blt pc 28 then (bif Nat.beq pc 27 then some (.iconst 0, 28, [], 0, 0, []) else none) else (bif Nat.beq pc 28 then some (.istore 5, 30, [5], 0, 0, []) else none))) else (bif Nat.blt pc 32 then (bif Nat.beq pc 30 then some (.iload 5, 32, [5], 0, 0, []) else none) else (bif Nat.blt pc 33 then (bif Nat.beq pc 32 then some (.aload_n 0, 33, [0], 0, 0, []) else none) else (bif Nat.beq pc 33 then some (.getfield 18, 36, [11, 1, 2, 0, 2], 0, 0, []) else none)))))) else (bif Nat.blt pc 59 then (bif Nat.blt pc 48 then (bif Nat.blt pc 42 then (bif Nat.blt pc 39 then (bif Nat.beq pc 36 then some (.invokevirtual 91, 39, [271, 1, 1, 0, 0, 1], 0, 0, []) else none) else (bif Nat.beq pc 39 then some (.if_icmp .ge 42, 42, [81], 0, 0, []) else none)) else (bif Nat.blt pc 44 then (bif Nat.beq pc 42 then some (.iload 5, 44, [5], 0, 0, []) else none) else (bif Nat.blt pc 45 then (bif Nat.beq pc 44 then some (.iload_n 1, 45, [1], 0, 0, []) else none) else (bif Nat.beq pc 45 then some (.if_icmp .ne 7, 48, [52], 0, 0, []) else none)))) else (bif Nat.blt pc 53 then (bif Nat.blt pc 49 then (bif Nat.beq pc 48 then some (.iconst 0, 49, [], 0, 0, []) else none) else (bif Nat.blt pc 52 then (bif Nat.beq pc 49 then some (.goto 10, 52, [59], 0, 0, []) else none) else (bif Nat.beq pc 52 then some (.aload_n 0, 53, [0], 0, 0, []) else none))) else (bif Nat.blt pc 54 then (bif Nat.beq pc 53 then some (.iload_n 1, 54, [1], 0, 0, []) else none) else (bif Nat.blt pc 56 then (bif Nat.beq pc 54 then some (.iload 5, 56, [5], 0, 0, []) else none) else (bif Nat.beq pc 56 then some (.invokevirtual 363, 59, [139, 3, 12, 0, 0, 1], 0, 0, []) else none))))) else (bif Nat.blt pc 72 then (bif Nat.blt pc 65 then (bif Nat.blt pc 61 then (bif Nat.beq pc 59 then some (.istore 6, 61, [6], 0, 0, []) else none) else (bif Nat.blt pc 63 then (bif Nat.beq pc 61 then some (.iload 6, 63, [6], 0, 0, []) else none) else (bif Nat.beq pc 63 then some (.iload 4, 65, [4], 0, 0, []) else none))) else (bif Nat.blt pc 68 then (bif Nat.beq pc 65 then some (.if_icmp .le 10, 68, [75], 0, 0, []) else none) else (bif Nat.blt pc 70 then (bif Nat.beq pc 68 then some (.iload 6, 70, [6], 0, 0, []) else none) else (bif Nat.beq pc 70 then some (.istore 4, 72, [4], 0, 0, []) else none)))) else (bif Nat.blt pc 78 then (bif Nat.blt pc 74 then (bif Nat.beq pc 72 then some (.iload 5, 74, [5], 0, 0, []) else none) else (bif Nat.blt pc 75 then (bif Nat.beq pc 74 then some (.istore_n 3, 75, [3], 0, 0, []) else none) else (bif Nat.beq pc 75 then some (.iinc 5 1, 78, [5], 1, 0, []) else none))) else (bif Nat.blt pc 81 then (bif Nat.beq pc 78 then some (.goto (-48), 81, [30], 0, 0, []) else none) else (bif Nat.blt pc 82 then (bif Nat.beq pc 81 then some (.iload_n 3, 82, [3], 0, 0, []) else none) else (bif Nat.beq pc 82 then some (.ireturn, 83, [0], 0, 0, []) else none)))))))
theorem okX10_beside : ∀ pc Y, pfX10_beside pc = some Y → OKI m_X10_beside pc Y := fun pc Y => ((bt_node (bt_node (bt_node (bt_node (bt_node (bt_leaf (P := OKI m_X10_beside) oX10_beside_0) (bt_leaf (P := OKI m_X10_beside) oX10_beside_1)) (bt_node (bt_leaf (P := OKI m_X10_beside) oX10_beside_2) (bt_node (bt_leaf (P := OKI m_X10_beside) oX10_beside_5) (bt_leaf (P := OKI m_X10_beside) oX10_beside_6)))) (bt_node (bt_node (bt_leaf (P := OKI m_X10_beside) oX10_beside_7) (bt_node (bt_leaf (P := OKI m_X10_beside) oX10_beside_10) (bt_leaf (P := OKI m_X10_beside) oX10_beside_11))) (bt_node (bt_leaf (P := OKI m_X10_beside) oX10_beside_12) (bt_node (bt_leaf (P := OKI m_X10_beside) oX10_beside_13) (bt_leaf (P := OKI m_X10_beside) oX10_beside_16))))) (bt_node (bt_node (bt_node (bt_leaf (P := OKI m_X10_beside) oX10_beside_19) (bt_leaf (P := OKI m_X10_beside) oX10_beside_21)) (bt_node (bt_leaf (P := OKI m_X10_beside) oX10_beside_22) (bt_node (bt_leaf (P := OKI m_X10_beside) oX10_beside_23) (bt_leaf (P := OKI m_X10_beside) oX10_beside_24)))) (bt_node (bt_node (bt_leaf (P := OKI m_X10_beside) oX10_beside_25) (bt_node (bt_leaf (P := OKI m_X10_beside) oX10_beside_27) (bt_leaf (P := OKI m_X10_beside) oX10_beside_28))) (bt_node (bt_leaf (P := OKI m_X10_beside) oX10_beside_30) (bt_node (bt_leaf (P := OKI m_X10_beside) oX10_beside_32) (bt_leaf (P := OKI m_X10_beside) oX10_beside_33)))))) (bt_node (bt_node (bt_node (bt_node (bt_leaf (P := OKI m_X10_beside) oX10_beside_36) (bt_leaf (P := OKI m_X10_beside) oX10_beside_39)) (bt_node (bt_leaf (P := OKI m_X10_beside) oX10_beside_42) (bt_node (bt_leaf (P := OKI m_X10_beside) oX10_beside_44) (bt_leaf (P := OKI m_X10_beside) oX10_beside_45)))) (bt_node (bt_node (bt_leaf (P := OKI m_X10_beside) oX10_beside_48) (bt_node (bt_leaf (P := OKI m_X10_beside) oX10_beside_49) (bt_leaf (P := OKI m_X10_beside) oX10_beside_52))) (bt_node (bt_leaf (P := OKI m_X10_beside) oX10_beside_53) (bt_node (bt_leaf (P := OKI m_X10_beside) oX10_beside_54) (bt_leaf (P := OKI m_X10_beside) oX10_beside_56))))) (bt_node (bt_node (bt_node (bt_leaf (P := OKI m_X10_beside) oX10_beside_59) (bt_node (bt_leaf (P := OKI m_X10_beside) oX10_beside_61) (bt_leaf (P := OKI m_X10_beside) oX10_beside_63))) (bt_node (bt_leaf (P := OKI m_X10_beside) oX10_beside_65) (bt_node (bt_leaf (P := OKI m_X10_beside) oX10_beside_68) (bt_leaf (P := OKI m_X10_beside) oX10_beside_70)))) (bt_node (bt_node (bt_leaf (P := OKI m_X10_beside) oX10_beside_72) (bt_node (bt_leaf (P := OKI m_X10_beside) oX10_beside_74) (bt_leaf (P := OKI m_X10_beside) oX10_beside_75))) (bt_node (bt_leaf (P := OKI m_X10_beside) oX10_beside_78) (bt_node (bt_leaf (P := OKI m_X10_beside) oX10_beside_81) (bt_leaf (P := OKI m_X10_beside) oX10_beside_82))))))) : pfX10_beside pc = some Y → OKI m_X10_beside pc Y)
def stpX10_beside (pc : Nat) : Option (List Bool) := (bif Nat.blt pc 59 then (bif Nat.beq pc 30 then some [true, true, false, true, true, true, false] else none) else (bif Nat.blt pc 75 then (bif Nat.beq pc 59 then some [true, true, false, true, true, true, false] else none) else (bif Nat.beq pc 75 then some [true, true, false, true, true, true, false] else none)))
def bX10_beside_0 (d rc rs : Nat) (a1 : Int32) (σ : XH) (Q : XV → XH → Prop) : Prop :=
  ((1 ≤ d ∧ Ec (d - 1) 0 0 m_X10_clockAt [vR (some (11, 0)), vI a1] σ (kR fun x2 h1 => (((x2 : Option XO) = none → Q (vI (-1)) h1) ∧ (¬ (x2 : Option XO) = none → (drf x2 2 fun i5 => (1 ≤ d ∧ Ec (d - 1) 0 0 m_X1_hasStopped [vR (some (2, i5))] h1 (kI fun x4 h3 => ((x4 = 0 → Q (vI (-3)) h3) ∧ (¬ x4 = 0 → Ex d rc rs m_X10_beside 30 [vR (some (11, 0)), vI a1, vU, vI (-1), vI 0, vI 0, vU] [] h3 Q))))))))))
theorem sX10_beside_0 {d rc rs : Nat} {a1 : Int32} {σ : XH} {Q : XV → XH → Prop} (h : bX10_beside_0 d rc rs a1 σ Q) : Ex d rc rs m_X10_beside 0 [vR (some (11, 0)), vI a1, vU, vU, vU, vU, vU] [] σ Q :=
  xtree_sound (stop := stpX10_beside) okX10_beside 17 _ _ _ _ _ _ h
def bX10_beside_30 (d rc rs : Nat) (l1 : Int32) (l3 : Int32) (l4 : Int32) (l5 : Int32) (σ : XH) (Q : XV → XH → Prop) : Prop :=
  ((hr σ 11 0 1 = some (0, 1) ∧ ((1 ≤ d ∧ Ec (d - 1) 0 0 m_Jx4a65c_size_8abf5 [vR (some (0, 1))] σ (kI fun x2 h1 => ((l5 < x2 → ((l5 = l1 → Ex d rc rs m_X10_beside 59 [vR (some (11, 0)), vI l1, vU, vI l3, vI l4, vI l5, vU] [vI 0] h1 Q) ∧ (¬ l5 = l1 → ((1 ≤ d ∧ Ec (d - 1) 0 0 m_X10_twosJoined [vR (some (11, 0)), vI l1, vI l5] h1 (kI fun x4 h3 => Ex d rc rs m_X10_beside 59 [vR (some (11, 0)), vI l1, vU, vI l3, vI l4, vI l5, vU] [vI x4] h3 Q)))))) ∧ (¬ l5 < x2 → Q (vI l3) h1)))))))
theorem sX10_beside_30 {d rc rs : Nat} {l1 : Int32} {l3 : Int32} {l4 : Int32} {l5 : Int32} {σ : XH} {Q : XV → XH → Prop} (h : bX10_beside_30 d rc rs l1 l3 l4 l5 σ Q) : Ex d rc rs m_X10_beside 30 [vR (some (11, 0)), vI l1, vU, vI l3, vI l4, vI l5, vU] [] σ Q :=
  xtree_sound (stop := stpX10_beside) okX10_beside 14 _ _ _ _ _ _ h
def bX10_beside_59 (d rc rs : Nat) (l1 : Int32) (l3 : Int32) (l4 : Int32) (l5 : Int32) (q0 : Int32) (σ : XH) (Q : XV → XH → Prop) : Prop :=
  ((l4 < q0 → Ex d rc rs m_X10_beside 75 [vR (some (11, 0)), vI l1, vU, vI l5, vI q0, vI l5, vU] [] σ Q) ∧ (¬ l4 < q0 → Ex d rc rs m_X10_beside 75 [vR (some (11, 0)), vI l1, vU, vI l3, vI l4, vI l5, vU] [] σ Q))
theorem sX10_beside_59 {d rc rs : Nat} {l1 : Int32} {l3 : Int32} {l4 : Int32} {l5 : Int32} {q0 : Int32} {σ : XH} {Q : XV → XH → Prop} (h : bX10_beside_59 d rc rs l1 l3 l4 l5 q0 σ Q) : Ex d rc rs m_X10_beside 59 [vR (some (11, 0)), vI l1, vU, vI l3, vI l4, vI l5, vU] [vI q0] σ Q :=
  xtree_sound (stop := stpX10_beside) okX10_beside 10 _ _ _ _ _ _ h
def bX10_beside_75 (d rc rs : Nat) (l1 : Int32) (l3 : Int32) (l4 : Int32) (l5 : Int32) (σ : XH) (Q : XV → XH → Prop) : Prop :=
  Ex d rc rs m_X10_beside 30 [vR (some (11, 0)), vI l1, vU, vI l3, vI l4, vI (l5 + 1), vU] [] σ Q
theorem sX10_beside_75 {d rc rs : Nat} {l1 : Int32} {l3 : Int32} {l4 : Int32} {l5 : Int32} {σ : XH} {Q : XV → XH → Prop} (h : bX10_beside_75 d rc rs l1 l3 l4 l5 σ Q) : Ex d rc rs m_X10_beside 75 [vR (some (11, 0)), vI l1, vU, vI l3, vI l4, vI l5, vU] [] σ Q :=
  xtree_sound (stop := stpX10_beside) okX10_beside 4 _ _ _ _ _ _ h
/-! SpotTimers.act(III)I -/
theorem dX10_act_0 : decode cX10_act 0 = .ok (.aload_n 0, 1) := by decide +kernel
theorem dX10_act_1 : decode cX10_act 1 = .ok (.iload_n 1, 1) := by decide +kernel
theorem dX10_act_2 : decode cX10_act 2 = .ok (.invokevirtual 153, 3) := by decide +kernel
theorem dX10_act_5 : decode cX10_act 5 = .ok (.astore 4, 2) := by decide +kernel
theorem dX10_act_7 : decode cX10_act 7 = .ok (.aload 4, 2) := by decide +kernel
theorem dX10_act_9 : decode cX10_act 9 = .ok (.ifnull 12, 3) := by decide +kernel
theorem dX10_act_12 : decode cX10_act 12 = .ok (.iload_n 2, 1) := by decide +kernel
theorem dX10_act_13 : decode cX10_act 13 = .ok (.iconst 0, 1) := by decide +kernel
theorem dX10_act_14 : decode cX10_act 14 = .ok (.iconst 2, 1) := by decide +kernel
theorem dX10_act_15 : decode cX10_act 15 = .ok (.invokestatic 84, 3) := by decide +kernel
theorem dX10_act_18 : decode cX10_act 18 = .ok (.ifCond .ne 13, 3) := by decide +kernel
theorem dX10_act_21 : decode cX10_act 21 = .ok (.aload_n 0, 1) := by decide +kernel
theorem dX10_act_22 : decode cX10_act 22 = .ok (.getfield 69, 3) := by decide +kernel
theorem dX10_act_25 : decode cX10_act 25 = .ok (.iconst 0, 1) := by decide +kernel
theorem dX10_act_26 : decode cX10_act 26 = .ok (.putfield 366, 3) := by decide +kernel
theorem dX10_act_29 : decode cX10_act 29 = .ok (.iconst 0, 1) := by decide +kernel
theorem dX10_act_30 : decode cX10_act 30 = .ok (.ireturn, 1) := by decide +kernel
theorem dX10_act_31 : decode cX10_act 31 = .ok (.aload_n 0, 1) := by decide +kernel
theorem dX10_act_32 : decode cX10_act 32 = .ok (.getfield 69, 3) := by decide +kernel
theorem dX10_act_35 : decode cX10_act 35 = .ok (.aload 4, 2) := by decide +kernel
theorem dX10_act_37 : decode cX10_act 37 = .ok (.iload_n 2, 1) := by decide +kernel
theorem dX10_act_38 : decode cX10_act 38 = .ok (.iload_n 3, 1) := by decide +kernel
theorem dX10_act_39 : decode cX10_act 39 = .ok (.invokevirtual 369, 3) := by decide +kernel
theorem dX10_act_42 : decode cX10_act 42 = .ok (.ireturn, 1) := by decide +kernel
theorem oX10_act_0 : OKI 102 0 (.aload_n 0, 1, [0], 0, 0, []) := And.intro dX10_act_0 (And.intro rfl (rfl))
theorem oX10_act_1 : OKI 102 1 (.iload_n 1, 2, [1], 0, 0, []) := And.intro dX10_act_1 (And.intro rfl (rfl))
theorem oX10_act_2 : OKI 102 2 (.invokevirtual 153, 5, [122, 2, 12, 0, 0, 3], 0, 0, []) := And.intro dX10_act_2 (And.intro rfl (And.intro (by decide) (And.intro (by decide) (And.intro mo_X10_readingAt (And.intro (tm_3 _ (List.mem_of_getElem? (i := 105) rfl) rfl) (And.intro (tm_3 _ (List.mem_of_getElem? (i := 107) rfl) rfl) (And.intro (pm_1 _ (List.mem_of_getElem? (i := 9) rfl)) (Or.inl ⟨(RX10, TX10, 15), rfl, rfl⟩))))))))
theorem oX10_act_5 : OKI 102 5 (.astore 4, 7, [4], 0, 0, []) := And.intro dX10_act_5 (And.intro rfl (And.intro rfl (by decide)))
theorem oX10_act_7 : OKI 102 7 (.aload 4, 9, [4], 0, 0, []) := And.intro dX10_act_7 (And.intro rfl (rfl))
theorem oX10_act_9 : OKI 102 9 (.ifnull 12, 12, [21], 0, 0, []) := And.intro dX10_act_9 (And.intro rfl (by decide))
theorem oX10_act_12 : OKI 102 12 (.iload_n 2, 13, [2], 0, 0, []) := And.intro dX10_act_12 (And.intro rfl (rfl))
theorem oX10_act_13 : OKI 102 13 (.iconst 0, 14, [], 0, 0, []) := And.intro dX10_act_13 (And.intro rfl (by decide +kernel))
theorem oX10_act_14 : OKI 102 14 (.iconst 2, 15, [], 2, 0, []) := And.intro dX10_act_14 (And.intro rfl (by decide +kernel))
theorem oX10_act_15 : OKI 102 15 (.invokestatic 84, 18, [111, 3, 0, 0, 0, 1], 0, 0, []) := And.intro dX10_act_15 (And.intro rfl (And.intro rfl (And.intro mo_X10_within (And.intro (Or.inl (tm_2 _ (List.mem_of_getElem? (i := 40) rfl) rfl)) (tm_2 _ (List.mem_of_getElem? (i := 41) rfl) rfl)))))
theorem oX10_act_18 : OKI 102 18 (.ifCond .ne 13, 21, [31], 0, 0, []) := And.intro dX10_act_18 (And.intro rfl (by decide))
theorem oX10_act_21 : OKI 102 21 (.aload_n 0, 22, [0], 0, 0, []) := And.intro dX10_act_21 (And.intro rfl (rfl))
theorem oX10_act_22 : OKI 102 22 (.getfield 69, 25, [11, 11, 2, 1, 0], 0, 0, []) := And.intro dX10_act_22 (And.intro rfl (⟨(RX10, TX10, 15), "SpotTimers", rfl, by decide, tm_2 _ (List.mem_of_getElem? (i := 1) rfl) rfl, Or.inl rfl, rfl, rfl⟩))
theorem oX10_act_25 : OKI 102 25 (.iconst 0, 26, [], 0, 0, []) := And.intro dX10_act_25 (And.intro rfl (by decide +kernel))
theorem oX10_act_26 : OKI 102 26 (.putfield 366, 29, [1, 1, 0], 0, 0, []) := And.intro dX10_act_26 (And.intro rfl (⟨(RX0, TX0, 5), "SpotTimers$Acts", rfl, by decide, tm_1 _ (List.mem_of_getElem? (i := 197) rfl) rfl, Or.inl rfl, Or.inl rfl, rfl⟩))
theorem oX10_act_29 : OKI 102 29 (.iconst 0, 30, [], 0, 0, []) := And.intro dX10_act_29 (And.intro rfl (by decide +kernel))
theorem oX10_act_30 : OKI 102 30 (.ireturn, 31, [0], 0, 0, []) := And.intro dX10_act_30 (Or.inl (And.intro rfl rfl))
theorem oX10_act_31 : OKI 102 31 (.aload_n 0, 32, [0], 0, 0, []) := And.intro dX10_act_31 (And.intro rfl (rfl))
theorem oX10_act_32 : OKI 102 32 (.getfield 69, 35, [11, 11, 2, 1, 0], 0, 0, []) := And.intro dX10_act_32 (And.intro rfl (⟨(RX10, TX10, 15), "SpotTimers", rfl, by decide, tm_2 _ (List.mem_of_getElem? (i := 1) rfl) rfl, Or.inl rfl, rfl, rfl⟩))
theorem oX10_act_35 : OKI 102 35 (.aload 4, 37, [4], 0, 0, []) := And.intro dX10_act_35 (And.intro rfl (rfl))
theorem oX10_act_37 : OKI 102 37 (.iload_n 2, 38, [2], 0, 0, []) := And.intro dX10_act_37 (And.intro rfl (rfl))
theorem oX10_act_38 : OKI 102 38 (.iload_n 3, 39, [3], 0, 0, []) := And.intro dX10_act_38 (And.intro rfl (rfl))
theorem oX10_act_39 : OKI 102 39 (.invokevirtual 369, 42, [1, 4, 2, 0, 0, 1], 0, 0, []) := And.intro dX10_act_39 (And.intro rfl (And.intro (by decide) (And.intro (by decide) (And.intro mo_X0_begin (And.intro (tm_5 _ (List.mem_of_getElem? (i := 120) rfl) rfl) (And.intro (tm_5 _ (List.mem_of_getElem? (i := 121) rfl) rfl) (And.intro (tm_5 _ (List.mem_of_getElem? (i := 122) rfl) rfl) (Or.inl ⟨(RX0, TX0, 5), rfl, rfl⟩))))))))
theorem oX10_act_42 : OKI 102 42 (.ireturn, 43, [0], 0, 0, []) := And.intro dX10_act_42 (Or.inl (And.intro rfl rfl))
def pfX10_act (pc : Nat) : Option XE := (bif Nat.blt pc 22 then (bif Nat.blt pc 12 then (bif Nat.blt pc 5 then (bif Nat.blt pc 1 then (bif Nat.beq pc 0 then some (.aload_n 0, 1, [0], 0, 0, []) else none) else (bif Nat.blt pc 2 then (bif Nat.beq pc 1 then some (.iload_n 1, 2, [1], 0, 0, []) else none) else (bif Nat.beq pc 2 then some (.invokevirtual 153, 5, [122, 2, 12, 0, 0, 3], 0, 0, []) else none))) else (bif Nat.blt pc 7 then (bif Nat.beq pc 5 then some (.astore 4, 7, [4], 0, 0, []) else none) else (bif Nat.blt pc 9 then (bif Nat.beq pc 7 then some (.aload 4, 9, [4], 0, 0, []) else none) else (bif Nat.beq pc 9 then some (.ifnull 12, 12, [21], 0, 0, []) else none)))) else (bif Nat.blt pc 15 then (bif Nat.blt pc 13 then (bif Nat.beq pc 12 then some (.iload_n 2, 13, [2], 0, 0, []) else none) else (bif Nat.blt pc 14 then (bif Nat.beq pc 13 then some (.iconst 0, 14, [], 0, 0, []) else none) else (bif Nat.beq pc 14 then some (.iconst 2, 15, [], 2, 0, []) else none))) else (bif Nat.blt pc 18 then (bif Nat.beq pc 15 then some (.invokestatic 84, 18, [111, 3, 0, 0, 0, 1], 0, 0, []) else none) else (bif Nat.blt pc 21 then (bif Nat.beq pc 18 then some (.ifCond .ne 13, 21, [31], 0, 0, []) else none) else (bif Nat.beq pc 21 then some (.aload_n 0, 22, [0], 0, 0, []) else none))))) else (bif Nat.blt pc 32 then (bif Nat.blt pc 29 then (bif Nat.blt pc 25 then (bif Nat.beq pc 22 then some (.getfield 69, 25, [11, 11, 2, 1, 0], 0, 0, []) else none) else (bif Nat.blt pc 26 then (bif Nat.beq pc 25 then some (.iconst 0, 26, [], 0, 0, []) else none) else (bif Nat.beq pc 26 then some (.putfield 366, 29, [1, 1, 0], 0, 0, []) else none))) else (bif Nat.blt pc 30 then (bif Nat.beq pc 29 then some (.iconst 0, 30, [], 0, 0, []) else none) else (bif Nat.blt pc 31 then (bif Nat.beq pc 30 then some (.ireturn, 31, [0], 0, 0, []) else none) else (bif Nat.beq pc 31 then some (.aload_n 0, 32, [0], 0, 0, []) else none)))) else (bif Nat.blt pc 38 then (bif Nat.blt pc 35 then (bif Nat.beq pc 32 then some (.getfield 69, 35, [11, 11, 2, 1, 0], 0, 0, []) else none) else (bif Nat.blt pc 37 then (bif Nat.beq pc 35 then some (.aload 4, 37, [4], 0, 0, []) else none) else (bif Nat.beq pc 37 then some (.iload_n 2, 38, [2], 0, 0, []) else none))) else (bif Nat.blt pc 39 then (bif Nat.beq pc 38 then some (.iload_n 3, 39, [3], 0, 0, []) else none) else (bif Nat.blt pc 42 then (bif Nat.beq pc 39 then some (.invokevirtual 369, 42, [1, 4, 2, 0, 0, 1], 0, 0, []) else none) else (bif Nat.beq pc 42 then some (.ireturn, 43, [0], 0, 0, []) else none))))))
theorem okX10_act : ∀ pc Y, pfX10_act pc = some Y → OKI m_X10_act pc Y := fun pc Y => ((bt_node (bt_node (bt_node (bt_node (bt_leaf (P := OKI m_X10_act) oX10_act_0) (bt_node (bt_leaf (P := OKI m_X10_act) oX10_act_1) (bt_leaf (P := OKI m_X10_act) oX10_act_2))) (bt_node (bt_leaf (P := OKI m_X10_act) oX10_act_5) (bt_node (bt_leaf (P := OKI m_X10_act) oX10_act_7) (bt_leaf (P := OKI m_X10_act) oX10_act_9)))) (bt_node (bt_node (bt_leaf (P := OKI m_X10_act) oX10_act_12) (bt_node (bt_leaf (P := OKI m_X10_act) oX10_act_13) (bt_leaf (P := OKI m_X10_act) oX10_act_14))) (bt_node (bt_leaf (P := OKI m_X10_act) oX10_act_15) (bt_node (bt_leaf (P := OKI m_X10_act) oX10_act_18) (bt_leaf (P := OKI m_X10_act) oX10_act_21))))) (bt_node (bt_node (bt_node (bt_leaf (P := OKI m_X10_act) oX10_act_22) (bt_node (bt_leaf (P := OKI m_X10_act) oX10_act_25) (bt_leaf (P := OKI m_X10_act) oX10_act_26))) (bt_node (bt_leaf (P := OKI m_X10_act) oX10_act_29) (bt_node (bt_leaf (P := OKI m_X10_act) oX10_act_30) (bt_leaf (P := OKI m_X10_act) oX10_act_31)))) (bt_node (bt_node (bt_leaf (P := OKI m_X10_act) oX10_act_32) (bt_node (bt_leaf (P := OKI m_X10_act) oX10_act_35) (bt_leaf (P := OKI m_X10_act) oX10_act_37))) (bt_node (bt_leaf (P := OKI m_X10_act) oX10_act_38) (bt_node (bt_leaf (P := OKI m_X10_act) oX10_act_39) (bt_leaf (P := OKI m_X10_act) oX10_act_42)))))) : pfX10_act pc = some Y → OKI m_X10_act pc Y)
def stpX10_act (pc : Nat) : Option (List Bool) := (bif Nat.beq pc 21 then some [true, false, false, false, false] else none)
def bX10_act_0 (d rc rs : Nat) (a1 : Int32) (a2 : Int32) (a3 : Int32) (σ : XH) (Q : XV → XH → Prop) : Prop :=
  ((1 ≤ d ∧ Ec (d - 1) 0 0 m_X10_readingAt [vR (some (11, 0)), vI a1] σ (kR fun x2 h1 => (((x2 : Option XO) = none → Ex d rc rs m_X10_act 21 [vR (some (11, 0)), vU, vU, vU, vU] [] h1 Q) ∧ (¬ (x2 : Option XO) = none → (1 ≤ d ∧ Ec (d - 1) 0 0 m_X10_within [vI a2, vI 0, vI 2] h1 (kI fun x4 h3 => ((x4 = 0 → Ex d rc rs m_X10_act 21 [vR (some (11, 0)), vU, vU, vU, vU] [] h3 Q) ∧ (¬ x4 = 0 → ((hr h3 11 0 11 = some (1, 0) ∧ ((1 ≤ d ∧ Ec (d - 1) 0 0 m_X0_begin [vR (some (1, 0)), vR x2, vI a2, vI a3] h3 (kI fun x6 h5 => Q (vI x6) h5))))))))))))))
theorem sX10_act_0 {d rc rs : Nat} {a1 : Int32} {a2 : Int32} {a3 : Int32} {σ : XH} {Q : XV → XH → Prop} (h : bX10_act_0 d rc rs a1 a2 a3 σ Q) : Ex d rc rs m_X10_act 0 [vR (some (11, 0)), vI a1, vI a2, vI a3, vU] [] σ Q :=
  xtree_sound (stop := stpX10_act) okX10_act 20 _ _ _ _ _ _ h
def bX10_act_21 (d rc rs : Nat)  (σ : XH) (Q : XV → XH → Prop) : Prop :=
  ((hr σ 11 0 11 = some (1, 0) ∧ ((∀ h1, h1 = wI σ 1 0 1 0 → Q (vI 0) h1))))
theorem sX10_act_21 {d rc rs : Nat}  {σ : XH} {Q : XV → XH → Prop} (h : bX10_act_21 d rc rs  σ Q) : Ex d rc rs m_X10_act 21 [vR (some (11, 0)), vU, vU, vU, vU] [] σ Q :=
  xtree_sound (stop := stpX10_act) okX10_act 8 _ _ _ _ _ _ h
/-! SpotTimers.trace(I)I -/
theorem dX10_trace_0 : decode cX10_trace 0 = .ok (.iload_n 1, 1) := by decide +kernel
theorem dX10_trace_1 : decode cX10_trace 1 = .ok (.iconst 0, 1) := by decide +kernel
theorem dX10_trace_2 : decode cX10_trace 2 = .ok (.aload_n 0, 1) := by decide +kernel
theorem dX10_trace_3 : decode cX10_trace 3 = .ok (.getfield 69, 3) := by decide +kernel
theorem dX10_trace_6 : decode cX10_trace 6 = .ok (.getfield 366, 3) := by decide +kernel
theorem dX10_trace_9 : decode cX10_trace 9 = .ok (.bipush 20, 2) := by decide +kernel
theorem dX10_trace_11 : decode cX10_trace 11 = .ok (.invokestatic 373, 3) := by decide +kernel
theorem dX10_trace_14 : decode cX10_trace 14 = .ok (.iconst 1, 1) := by decide +kernel
theorem dX10_trace_15 : decode cX10_trace 15 = .ok (.isub, 1) := by decide +kernel
theorem dX10_trace_16 : decode cX10_trace 16 = .ok (.invokestatic 84, 3) := by decide +kernel
theorem dX10_trace_19 : decode cX10_trace 19 = .ok (.ifCond .eq 15, 3) := by decide +kernel
theorem dX10_trace_22 : decode cX10_trace 22 = .ok (.aload_n 0, 1) := by decide +kernel
theorem dX10_trace_23 : decode cX10_trace 23 = .ok (.getfield 69, 3) := by decide +kernel
theorem dX10_trace_26 : decode cX10_trace 26 = .ok (.getfield 376, 3) := by decide +kernel
theorem dX10_trace_29 : decode cX10_trace 29 = .ok (.iload_n 1, 1) := by decide +kernel
theorem dX10_trace_30 : decode cX10_trace 30 = .ok (.iaload, 1) := by decide +kernel
theorem dX10_trace_31 : decode cX10_trace 31 = .ok (.goto 4, 3) := by decide +kernel
theorem dX10_trace_34 : decode cX10_trace 34 = .ok (.iconst (-1), 1) := by decide +kernel
theorem dX10_trace_35 : decode cX10_trace 35 = .ok (.ireturn, 1) := by decide +kernel
theorem oX10_trace_0 : OKI 103 0 (.iload_n 1, 1, [1], 0, 0, []) := And.intro dX10_trace_0 (And.intro rfl (rfl))
theorem oX10_trace_1 : OKI 103 1 (.iconst 0, 2, [], 0, 0, []) := And.intro dX10_trace_1 (And.intro rfl (by decide +kernel))
theorem oX10_trace_2 : OKI 103 2 (.aload_n 0, 3, [0], 0, 0, []) := And.intro dX10_trace_2 (And.intro rfl (rfl))
theorem oX10_trace_3 : OKI 103 3 (.getfield 69, 6, [11, 11, 2, 1, 0], 0, 0, []) := And.intro dX10_trace_3 (And.intro rfl (⟨(RX10, TX10, 15), "SpotTimers", rfl, by decide, tm_2 _ (List.mem_of_getElem? (i := 1) rfl) rfl, Or.inl rfl, rfl, rfl⟩))
theorem oX10_trace_6 : OKI 103 6 (.getfield 366, 9, [1, 1, 0], 0, 0, []) := And.intro dX10_trace_6 (And.intro rfl (⟨(RX0, TX0, 5), "SpotTimers$Acts", rfl, by decide, tm_1 _ (List.mem_of_getElem? (i := 197) rfl) rfl, Or.inl rfl, Or.inr (Or.inr (And.intro rfl (Or.inl rfl)))⟩))
theorem oX10_trace_9 : OKI 103 9 (.bipush 20, 11, [], 20, 0, []) := And.intro dX10_trace_9 (And.intro rfl (by decide +kernel))
theorem oX10_trace_11 : OKI 103 11 (.invokestatic 373, 14, [254, 2, 0, 0, 0, 1], 0, 0, []) := And.intro dX10_trace_11 (And.intro rfl (And.intro rfl (And.intro mo_J9_min_7cf53 (And.intro (Or.inl (tm_5 _ (List.mem_of_getElem? (i := 147) rfl) rfl)) (tm_2 _ (List.mem_of_getElem? (i := 139) rfl) rfl)))))
theorem oX10_trace_14 : OKI 103 14 (.iconst 1, 15, [], 1, 0, []) := And.intro dX10_trace_14 (And.intro rfl (by decide +kernel))
theorem oX10_trace_15 : OKI 103 15 (.isub, 16, [], 0, 0, []) := And.intro dX10_trace_15 rfl
theorem oX10_trace_16 : OKI 103 16 (.invokestatic 84, 19, [111, 3, 0, 0, 0, 1], 0, 0, []) := And.intro dX10_trace_16 (And.intro rfl (And.intro rfl (And.intro mo_X10_within (And.intro (Or.inl (tm_2 _ (List.mem_of_getElem? (i := 40) rfl) rfl)) (tm_2 _ (List.mem_of_getElem? (i := 41) rfl) rfl)))))
theorem oX10_trace_19 : OKI 103 19 (.ifCond .eq 15, 22, [34], 0, 0, []) := And.intro dX10_trace_19 (And.intro rfl (by decide))
theorem oX10_trace_22 : OKI 103 22 (.aload_n 0, 23, [0], 0, 0, []) := And.intro dX10_trace_22 (And.intro rfl (rfl))
theorem oX10_trace_23 : OKI 103 23 (.getfield 69, 26, [11, 11, 2, 1, 0], 0, 0, []) := And.intro dX10_trace_23 (And.intro rfl (⟨(RX10, TX10, 15), "SpotTimers", rfl, by decide, tm_2 _ (List.mem_of_getElem? (i := 1) rfl) rfl, Or.inl rfl, rfl, rfl⟩))
theorem oX10_trace_26 : OKI 103 26 (.getfield 376, 29, [1, 0, 2, 100, 0], 0, 0, []) := And.intro dX10_trace_26 (And.intro rfl (⟨(RX0, TX0, 5), "SpotTimers$Acts", rfl, by decide, tm_1 _ (List.mem_of_getElem? (i := 195) rfl) rfl, Or.inl rfl, rfl, rfl⟩))
theorem oX10_trace_29 : OKI 103 29 (.iload_n 1, 30, [1], 0, 0, []) := And.intro dX10_trace_29 (And.intro rfl (rfl))
theorem oX10_trace_30 : OKI 103 30 (.iaload, 31, [], 0, 0, []) := And.intro dX10_trace_30 rfl
theorem oX10_trace_31 : OKI 103 31 (.goto 4, 34, [35], 0, 0, []) := And.intro dX10_trace_31 (And.intro rfl (by decide))
theorem oX10_trace_34 : OKI 103 34 (.iconst (-1), 35, [], (-1), 0, []) := And.intro dX10_trace_34 (And.intro rfl (by decide +kernel))
theorem oX10_trace_35 : OKI 103 35 (.ireturn, 36, [0], 0, 0, []) := And.intro dX10_trace_35 (Or.inl (And.intro rfl rfl))
def pfX10_trace (pc : Nat) : Option XE := (bif Nat.blt pc 16 then (bif Nat.blt pc 6 then (bif Nat.blt pc 2 then (bif Nat.blt pc 1 then (bif Nat.beq pc 0 then some (.iload_n 1, 1, [1], 0, 0, []) else none) else (bif Nat.beq pc 1 then some (.iconst 0, 2, [], 0, 0, []) else none)) else (bif Nat.blt pc 3 then (bif Nat.beq pc 2 then some (.aload_n 0, 3, [0], 0, 0, []) else none) else (bif Nat.beq pc 3 then some (.getfield 69, 6, [11, 11, 2, 1, 0], 0, 0, []) else none))) else (bif Nat.blt pc 11 then (bif Nat.blt pc 9 then (bif Nat.beq pc 6 then some (.getfield 366, 9, [1, 1, 0], 0, 0, []) else none) else (bif Nat.beq pc 9 then some (.bipush 20, 11, [], 20, 0, []) else none)) else (bif Nat.blt pc 14 then (bif Nat.beq pc 11 then some (.invokestatic 373, 14, [254, 2, 0, 0, 0, 1], 0, 0, []) else none) else (bif Nat.blt pc 15 then (bif Nat.beq pc 14 then some (.iconst 1, 15, [], 1, 0, []) else none) else (bif Nat.beq pc 15 then some (.isub, 16, [], 0, 0, []) else none))))) else (bif Nat.blt pc 29 then (bif Nat.blt pc 22 then (bif Nat.blt pc 19 then (bif Nat.beq pc 16 then some (.invokestatic 84, 19, [111, 3, 0, 0, 0, 1], 0, 0, []) else none) else (bif Nat.beq pc 19 then some (.ifCond .eq 15, 22, [34], 0, 0, []) else none)) else (bif Nat.blt pc 23 then (bif Nat.beq pc 22 then some (.aload_n 0, 23, [0], 0, 0, []) else none) else (bif Nat.blt pc 26 then (bif Nat.beq pc 23 then some (.getfield 69, 26, [11, 11, 2, 1, 0], 0, 0, []) else none) else (bif Nat.beq pc 26 then some (.getfield 376, 29, [1, 0, 2, 100, 0], 0, 0, []) else none)))) else (bif Nat.blt pc 31 then (bif Nat.blt pc 30 then (bif Nat.beq pc 29 then some (.iload_n 1, 30, [1], 0, 0, []) else none) else (bif Nat.beq pc 30 then some (.iaload, 31, [], 0, 0, []) else none)) else (bif Nat.blt pc 34 then (bif Nat.beq pc 31 then some (.goto 4, 34, [35], 0, 0, []) else none) else (bif Nat.blt pc 35 then (bif Nat.beq pc 34 then some (.iconst (-1), 35, [], (-1), 0, []) else none) else (bif Nat.beq pc 35 then some (.ireturn, 36, [0], 0, 0, []) else none))))))
theorem okX10_trace : ∀ pc Y, pfX10_trace pc = some Y → OKI m_X10_trace pc Y := fun pc Y => ((bt_node (bt_node (bt_node (bt_node (bt_leaf (P := OKI m_X10_trace) oX10_trace_0) (bt_leaf (P := OKI m_X10_trace) oX10_trace_1)) (bt_node (bt_leaf (P := OKI m_X10_trace) oX10_trace_2) (bt_leaf (P := OKI m_X10_trace) oX10_trace_3))) (bt_node (bt_node (bt_leaf (P := OKI m_X10_trace) oX10_trace_6) (bt_leaf (P := OKI m_X10_trace) oX10_trace_9)) (bt_node (bt_leaf (P := OKI m_X10_trace) oX10_trace_11) (bt_node (bt_leaf (P := OKI m_X10_trace) oX10_trace_14) (bt_leaf (P := OKI m_X10_trace) oX10_trace_15))))) (bt_node (bt_node (bt_node (bt_leaf (P := OKI m_X10_trace) oX10_trace_16) (bt_leaf (P := OKI m_X10_trace) oX10_trace_19)) (bt_node (bt_leaf (P := OKI m_X10_trace) oX10_trace_22) (bt_node (bt_leaf (P := OKI m_X10_trace) oX10_trace_23) (bt_leaf (P := OKI m_X10_trace) oX10_trace_26)))) (bt_node (bt_node (bt_leaf (P := OKI m_X10_trace) oX10_trace_29) (bt_leaf (P := OKI m_X10_trace) oX10_trace_30)) (bt_node (bt_leaf (P := OKI m_X10_trace) oX10_trace_31) (bt_node (bt_leaf (P := OKI m_X10_trace) oX10_trace_34) (bt_leaf (P := OKI m_X10_trace) oX10_trace_35)))))) : pfX10_trace pc = some Y → OKI m_X10_trace pc Y)
def stpX10_trace (pc : Nat) : Option (List Bool) := (bif Nat.beq pc 35 then some [false, false] else none)
def bX10_trace_0 (d rc rs : Nat) (a1 : Int32) (σ : XH) (Q : XV → XH → Prop) : Prop :=
  ((hr σ 11 0 11 = some (1, 0) ∧ ((1 ≤ d ∧ Ec (d - 1) 0 0 m_J9_min_7cf53 [vI (hi σ 1 0 1), vI 20] σ (kI fun x2 h1 => (1 ≤ d ∧ Ec (d - 1) 0 0 m_X10_within [vI a1, vI 0, vI (x2 - 1)] h1 (kI fun x4 h3 => ((x4 = 0 → Ex d rc rs m_X10_trace 35 [vU, vU] [vI (-1)] h3 Q) ∧ (¬ x4 = 0 → ((hr h3 11 0 11 = some (1, 0) ∧ ((hr h3 1 0 0 = some (100, 0) ∧ ((vp_in a1 (hn h3 100 0) ∧ Ex d rc rs m_X10_trace 35 [vU, vU] [vI (hi h3 100 0 a1.toNatClampNeg)] h3 Q)))))))))))))))
theorem sX10_trace_0 {d rc rs : Nat} {a1 : Int32} {σ : XH} {Q : XV → XH → Prop} (h : bX10_trace_0 d rc rs a1 σ Q) : Ex d rc rs m_X10_trace 0 [vR (some (11, 0)), vI a1] [] σ Q :=
  xtree_sound (stop := stpX10_trace) okX10_trace 19 _ _ _ _ _ _ h
def bX10_trace_35 (d rc rs : Nat) (q0 : Int32) (σ : XH) (Q : XV → XH → Prop) : Prop :=
  Q (vI q0) σ
theorem sX10_trace_35 {d rc rs : Nat} {q0 : Int32} {σ : XH} {Q : XV → XH → Prop} (h : bX10_trace_35 d rc rs q0 σ Q) : Ex d rc rs m_X10_trace 35 [vU, vU] [vI q0] σ Q :=
  xtree_sound (stop := stpX10_trace) okX10_trace 3 _ _ _ _ _ _ h
/-! SpotTimers.taken(II)I -/
theorem dX10_taken_0 : decode cX10_taken 0 = .ok (.iload_n 2, 1) := by decide +kernel
theorem dX10_taken_1 : decode cX10_taken 1 = .ok (.iconst 0, 1) := by decide +kernel
theorem dX10_taken_2 : decode cX10_taken 2 = .ok (.bipush 7, 2) := by decide +kernel
theorem dX10_taken_4 : decode cX10_taken 4 = .ok (.invokestatic 84, 3) := by decide +kernel
theorem dX10_taken_7 : decode cX10_taken 7 = .ok (.ifCond .ne 6, 3) := by decide +kernel
theorem dX10_taken_10 : decode cX10_taken 10 = .ok (.bipush (-2), 2) := by decide +kernel
theorem dX10_taken_12 : decode cX10_taken 12 = .ok (.ireturn, 1) := by decide +kernel
theorem dX10_taken_13 : decode cX10_taken 13 = .ok (.aload_n 0, 1) := by decide +kernel
theorem dX10_taken_14 : decode cX10_taken 14 = .ok (.iload_n 1, 1) := by decide +kernel
theorem dX10_taken_15 : decode cX10_taken 15 = .ok (.invokevirtual 153, 3) := by decide +kernel
theorem dX10_taken_18 : decode cX10_taken 18 = .ok (.astore_n 3, 1) := by decide +kernel
theorem dX10_taken_19 : decode cX10_taken 19 = .ok (.aload_n 3, 1) := by decide +kernel
theorem dX10_taken_20 : decode cX10_taken 20 = .ok (.ifnonnull 6, 3) := by decide +kernel
theorem dX10_taken_23 : decode cX10_taken 23 = .ok (.bipush (-11), 2) := by decide +kernel
theorem dX10_taken_25 : decode cX10_taken 25 = .ok (.ireturn, 1) := by decide +kernel
theorem dX10_taken_26 : decode cX10_taken 26 = .ok (.aload_n 3, 1) := by decide +kernel
theorem dX10_taken_27 : decode cX10_taken 27 = .ok (.invokevirtual 157, 3) := by decide +kernel
theorem dX10_taken_30 : decode cX10_taken 30 = .ok (.istore 4, 2) := by decide +kernel
theorem dX10_taken_32 : decode cX10_taken 32 = .ok (.iload 4, 2) := by decide +kernel
theorem dX10_taken_34 : decode cX10_taken 34 = .ok (.iload_n 2, 1) := by decide +kernel
theorem dX10_taken_35 : decode cX10_taken 35 = .ok (.invokestatic 379, 3) := by decide +kernel
theorem dX10_taken_38 : decode cX10_taken 38 = .ok (.ifCond .eq 8, 3) := by decide +kernel
theorem dX10_taken_41 : decode cX10_taken 41 = .ok (.iload 4, 2) := by decide +kernel
theorem dX10_taken_43 : decode cX10_taken 43 = .ok (.goto 5, 3) := by decide +kernel
theorem dX10_taken_46 : decode cX10_taken 46 = .ok (.bipush (-12), 2) := by decide +kernel
theorem dX10_taken_48 : decode cX10_taken 48 = .ok (.ireturn, 1) := by decide +kernel
theorem oX10_taken_0 : OKI 104 0 (.iload_n 2, 1, [2], 0, 0, []) := And.intro dX10_taken_0 (And.intro rfl (rfl))
theorem oX10_taken_1 : OKI 104 1 (.iconst 0, 2, [], 0, 0, []) := And.intro dX10_taken_1 (And.intro rfl (by decide +kernel))
theorem oX10_taken_2 : OKI 104 2 (.bipush 7, 4, [], 7, 0, []) := And.intro dX10_taken_2 (And.intro rfl (by decide +kernel))
theorem oX10_taken_4 : OKI 104 4 (.invokestatic 84, 7, [111, 3, 0, 0, 0, 1], 0, 0, []) := And.intro dX10_taken_4 (And.intro rfl (And.intro rfl (And.intro mo_X10_within (And.intro (Or.inl (tm_2 _ (List.mem_of_getElem? (i := 40) rfl) rfl)) (tm_2 _ (List.mem_of_getElem? (i := 41) rfl) rfl)))))
theorem oX10_taken_7 : OKI 104 7 (.ifCond .ne 6, 10, [13], 0, 0, []) := And.intro dX10_taken_7 (And.intro rfl (by decide))
theorem oX10_taken_10 : OKI 104 10 (.bipush (-2), 12, [], (-2), 0, []) := And.intro dX10_taken_10 (And.intro rfl (by decide +kernel))
theorem oX10_taken_12 : OKI 104 12 (.ireturn, 13, [0], 0, 0, []) := And.intro dX10_taken_12 (Or.inl (And.intro rfl rfl))
theorem oX10_taken_13 : OKI 104 13 (.aload_n 0, 14, [0], 0, 0, []) := And.intro dX10_taken_13 (And.intro rfl (rfl))
theorem oX10_taken_14 : OKI 104 14 (.iload_n 1, 15, [1], 0, 0, []) := And.intro dX10_taken_14 (And.intro rfl (rfl))
theorem oX10_taken_15 : OKI 104 15 (.invokevirtual 153, 18, [122, 2, 12, 0, 0, 3], 0, 0, []) := And.intro dX10_taken_15 (And.intro rfl (And.intro (by decide) (And.intro (by decide) (And.intro mo_X10_readingAt (And.intro (tm_3 _ (List.mem_of_getElem? (i := 105) rfl) rfl) (And.intro (tm_3 _ (List.mem_of_getElem? (i := 107) rfl) rfl) (And.intro (pm_1 _ (List.mem_of_getElem? (i := 9) rfl)) (Or.inl ⟨(RX10, TX10, 15), rfl, rfl⟩))))))))
theorem oX10_taken_18 : OKI 104 18 (.astore_n 3, 19, [3], 0, 0, []) := And.intro dX10_taken_18 (And.intro rfl (And.intro rfl (by decide)))
theorem oX10_taken_19 : OKI 104 19 (.aload_n 3, 20, [3], 0, 0, []) := And.intro dX10_taken_19 (And.intro rfl (rfl))
theorem oX10_taken_20 : OKI 104 20 (.ifnonnull 6, 23, [26], 0, 0, []) := And.intro dX10_taken_20 (And.intro rfl (by decide))
theorem oX10_taken_23 : OKI 104 23 (.bipush (-11), 25, [], (-11), 0, []) := And.intro dX10_taken_23 (And.intro rfl (by decide +kernel))
theorem oX10_taken_25 : OKI 104 25 (.ireturn, 26, [0], 0, 0, []) := And.intro dX10_taken_25 (Or.inl (And.intro rfl rfl))
theorem oX10_taken_26 : OKI 104 26 (.aload_n 3, 27, [3], 0, 0, []) := And.intro dX10_taken_26 (And.intro rfl (rfl))
theorem oX10_taken_27 : OKI 104 27 (.invokevirtual 157, 30, [17, 1, 6, 0, 0, 1], 0, 0, []) := And.intro dX10_taken_27 (And.intro rfl (And.intro (by decide) (And.intro (by decide) (And.intro mo_X4_kindNow (And.intro (tm_2 _ (List.mem_of_getElem? (i := 223) rfl) rfl) (And.intro (tm_2 _ (List.mem_of_getElem? (i := 224) rfl) rfl) (And.intro (tm_2 _ (List.mem_of_getElem? (i := 225) rfl) rfl) (Or.inl ⟨(RX4, TX4, 11), rfl, rfl⟩))))))))
theorem oX10_taken_30 : OKI 104 30 (.istore 4, 32, [4], 0, 0, []) := And.intro dX10_taken_30 (And.intro rfl (And.intro rfl (by decide)))
theorem oX10_taken_32 : OKI 104 32 (.iload 4, 34, [4], 0, 0, []) := And.intro dX10_taken_32 (And.intro rfl (rfl))
theorem oX10_taken_34 : OKI 104 34 (.iload_n 2, 35, [2], 0, 0, []) := And.intro dX10_taken_34 (And.intro rfl (rfl))
theorem oX10_taken_35 : OKI 104 35 (.invokestatic 379, 38, [117, 2, 0, 0, 0, 1], 0, 0, []) := And.intro dX10_taken_35 (And.intro rfl (And.intro rfl (And.intro mo_X10_isUnder (And.intro (Or.inl (tm_5 _ (List.mem_of_getElem? (i := 152) rfl) rfl)) (tm_3 _ (List.mem_of_getElem? (i := 148) rfl) rfl)))))
theorem oX10_taken_38 : OKI 104 38 (.ifCond .eq 8, 41, [46], 0, 0, []) := And.intro dX10_taken_38 (And.intro rfl (by decide))
theorem oX10_taken_41 : OKI 104 41 (.iload 4, 43, [4], 0, 0, []) := And.intro dX10_taken_41 (And.intro rfl (rfl))
theorem oX10_taken_43 : OKI 104 43 (.goto 5, 46, [48], 0, 0, []) := And.intro dX10_taken_43 (And.intro rfl (by decide))
theorem oX10_taken_46 : OKI 104 46 (.bipush (-12), 48, [], (-12), 0, []) := And.intro dX10_taken_46 (And.intro rfl (by decide +kernel))
theorem oX10_taken_48 : OKI 104 48 (.ireturn, 49, [0], 0, 0, []) := And.intro dX10_taken_48 (Or.inl (And.intro rfl rfl))
def pfX10_taken (pc : Nat) : Option XE := (bif Nat.blt pc 23 then (bif Nat.blt pc 12 then (bif Nat.blt pc 4 then (bif Nat.blt pc 1 then (bif Nat.beq pc 0 then some (.iload_n 2, 1, [2], 0, 0, []) else none) else (bif Nat.blt pc 2 then (bif Nat.beq pc 1 then some (.iconst 0, 2, [], 0, 0, []) else none) else (bif Nat.beq pc 2 then some (.bipush 7, 4, [], 7, 0, []) else none))) else (bif Nat.blt pc 7 then (bif Nat.beq pc 4 then some (.invokestatic 84, 7, [111, 3, 0, 0, 0, 1], 0, 0, []) else none) else (bif Nat.blt pc 10 then (bif Nat.beq pc 7 then some (.ifCond .ne 6, 10, [13], 0, 0, []) else none) else (bif Nat.beq pc 10 then some (.bipush (-2), 12, [], (-2), 0, []) else none)))) else (bif Nat.blt pc 15 then (bif Nat.blt pc 13 then (bif Nat.beq pc 12 then some (.ireturn, 13, [0], 0, 0, []) else none) else (bif Nat.blt pc 14 then (bif Nat.beq pc 13 then some (.aload_n 0, 14, [0], 0, 0, []) else none) else (bif Nat.beq pc 14 then some (.iload_n 1, 15, [1], 0, 0, []) else none))) else (bif Nat.blt pc 19 then (bif Nat.blt pc 18 then (bif Nat.beq pc 15 then some (.invokevirtual 153, 18, [122, 2, 12, 0, 0, 3], 0, 0, []) else none) else (bif Nat.beq pc 18 then some (.astore_n 3, 19, [3], 0, 0, []) else none)) else (bif Nat.blt pc 20 then (bif Nat.beq pc 19 then some (.aload_n 3, 20, [3], 0, 0, []) else none) else (bif Nat.beq pc 20 then some (.ifnonnull 6, 23, [26], 0, 0, []) else none))))) else (bif Nat.blt pc 34 then (bif Nat.blt pc 27 then (bif Nat.blt pc 25 then (bif Nat.beq pc 23 then some (.bipush (-11), 25, [], (-11), 0, []) else none) else (bif Nat.blt pc 26 then (bif Nat.beq pc 25 then some (.ireturn, 26, [0], 0, 0, []) else none) else (bif Nat.beq pc 26 then some (.aload_n 3, 27, [3], 0, 0, []) else none))) else (bif Nat.blt pc 30 then (bif Nat.beq pc 27 then some (.invokevirtual 157, 30, [17, 1, 6, 0, 0, 1], 0, 0, []) else none) else (bif Nat.blt pc 32 then (bif Nat.beq pc 30 then some (.istore 4, 32, [4], 0, 0, []) else none) else (bif Nat.beq pc 32 then some (.iload 4, 34, [4], 0, 0, []) else none)))) else (bif Nat.blt pc 41 then (bif Nat.blt pc 35 then (bif Nat.beq pc 34 then some (.iload_n 2, 35, [2], 0, 0, []) else none) else (bif Nat.blt pc 38 then (bif Nat.beq pc 35 then some (.invokestatic 379, 38, [117, 2, 0, 0, 0, 1], 0, 0, []) else none) else (bif Nat.beq pc 38 then some (.ifCond .eq 8, 41, [46], 0, 0, []) else none))) else (bif Nat.blt pc 46 then (bif Nat.blt pc 43 then (bif Nat.beq pc 41 then some (.iload 4, 43, [4], 0, 0, []) else none) else (bif Nat.beq pc 43 then some (.goto 5, 46, [48], 0, 0, []) else none)) else (bif Nat.blt pc 48 then (bif Nat.beq pc 46 then some (.bipush (-12), 48, [], (-12), 0, []) else none) else (bif Nat.beq pc 48 then some (.ireturn, 49, [0], 0, 0, []) else none))))))
theorem okX10_taken : ∀ pc Y, pfX10_taken pc = some Y → OKI m_X10_taken pc Y := fun pc Y => ((bt_node (bt_node (bt_node (bt_node (bt_leaf (P := OKI m_X10_taken) oX10_taken_0) (bt_node (bt_leaf (P := OKI m_X10_taken) oX10_taken_1) (bt_leaf (P := OKI m_X10_taken) oX10_taken_2))) (bt_node (bt_leaf (P := OKI m_X10_taken) oX10_taken_4) (bt_node (bt_leaf (P := OKI m_X10_taken) oX10_taken_7) (bt_leaf (P := OKI m_X10_taken) oX10_taken_10)))) (bt_node (bt_node (bt_leaf (P := OKI m_X10_taken) oX10_taken_12) (bt_node (bt_leaf (P := OKI m_X10_taken) oX10_taken_13) (bt_leaf (P := OKI m_X10_taken) oX10_taken_14))) (bt_node (bt_node (bt_leaf (P := OKI m_X10_taken) oX10_taken_15) (bt_leaf (P := OKI m_X10_taken) oX10_taken_18)) (bt_node (bt_leaf (P := OKI m_X10_taken) oX10_taken_19) (bt_leaf (P := OKI m_X10_taken) oX10_taken_20))))) (bt_node (bt_node (bt_node (bt_leaf (P := OKI m_X10_taken) oX10_taken_23) (bt_node (bt_leaf (P := OKI m_X10_taken) oX10_taken_25) (bt_leaf (P := OKI m_X10_taken) oX10_taken_26))) (bt_node (bt_leaf (P := OKI m_X10_taken) oX10_taken_27) (bt_node (bt_leaf (P := OKI m_X10_taken) oX10_taken_30) (bt_leaf (P := OKI m_X10_taken) oX10_taken_32)))) (bt_node (bt_node (bt_leaf (P := OKI m_X10_taken) oX10_taken_34) (bt_node (bt_leaf (P := OKI m_X10_taken) oX10_taken_35) (bt_leaf (P := OKI m_X10_taken) oX10_taken_38))) (bt_node (bt_node (bt_leaf (P := OKI m_X10_taken) oX10_taken_41) (bt_leaf (P := OKI m_X10_taken) oX10_taken_43)) (bt_node (bt_leaf (P := OKI m_X10_taken) oX10_taken_46) (bt_leaf (P := OKI m_X10_taken) oX10_taken_48)))))) : pfX10_taken pc = some Y → OKI m_X10_taken pc Y)
def stpX10_taken (pc : Nat) : Option (List Bool) := (bif Nat.blt pc 48 then (bif Nat.beq pc 41 then some [false, false, false, false, true] else none) else (bif Nat.beq pc 48 then some [false, false, false, false, false] else none))
def bX10_taken_0 (d rc rs : Nat) (a1 : Int32) (a2 : Int32) (σ : XH) (Q : XV → XH → Prop) : Prop :=
  (1 ≤ d ∧ Ec (d - 1) 0 0 m_X10_within [vI a2, vI 0, vI 7] σ (kI fun x2 h1 => ((x2 = 0 → Q (vI (-2)) h1) ∧ (¬ x2 = 0 → ((1 ≤ d ∧ Ec (d - 1) 0 0 m_X10_readingAt [vR (some (11, 0)), vI a1] h1 (kR fun x4 h3 => (((x4 : Option XO) = none → Q (vI (-11)) h3) ∧ (¬ (x4 : Option XO) = none → (drf x4 5 fun i9 => (1 ≤ d ∧ Ec (d - 1) 0 0 m_X4_kindNow [vR (some (5, i9))] h3 (kI fun x6 h5 => (1 ≤ d ∧ Ec (d - 1) 0 0 m_X10_isUnder [vI x6, vI a2] h5 (kI fun x8 h7 => ((x8 = 0 → Ex d rc rs m_X10_taken 48 [vU, vU, vU, vU, vU] [vI (-12)] h7 Q) ∧ (¬ x8 = 0 → Ex d rc rs m_X10_taken 41 [vU, vU, vU, vU, vI x6] [] h7 Q))))))))))))))))
theorem sX10_taken_0 {d rc rs : Nat} {a1 : Int32} {a2 : Int32} {σ : XH} {Q : XV → XH → Prop} (h : bX10_taken_0 d rc rs a1 a2 σ Q) : Ex d rc rs m_X10_taken 0 [vR (some (11, 0)), vI a1, vI a2, vU, vU] [] σ Q :=
  xtree_sound (stop := stpX10_taken) okX10_taken 21 _ _ _ _ _ _ h
def bX10_taken_41 (d rc rs : Nat) (l4 : Int32) (σ : XH) (Q : XV → XH → Prop) : Prop :=
  Ex d rc rs m_X10_taken 48 [vU, vU, vU, vU, vU] [vI l4] σ Q
theorem sX10_taken_41 {d rc rs : Nat} {l4 : Int32} {σ : XH} {Q : XV → XH → Prop} (h : bX10_taken_41 d rc rs l4 σ Q) : Ex d rc rs m_X10_taken 41 [vU, vU, vU, vU, vI l4] [] σ Q :=
  xtree_sound (stop := stpX10_taken) okX10_taken 4 _ _ _ _ _ _ h
def bX10_taken_48 (d rc rs : Nat) (q0 : Int32) (σ : XH) (Q : XV → XH → Prop) : Prop :=
  Q (vI q0) σ
theorem sX10_taken_48 {d rc rs : Nat} {q0 : Int32} {σ : XH} {Q : XV → XH → Prop} (h : bX10_taken_48 d rc rs q0 σ Q) : Ex d rc rs m_X10_taken 48 [vU, vU, vU, vU, vU] [vI q0] σ Q :=
  xtree_sound (stop := stpX10_taken) okX10_taken 3 _ _ _ _ _ _ h
/-! SpotTimers.count(I)I -/
theorem dX10_count_0 : decode cX10_count 0 = .ok (.iload_n 1, 1) := by decide +kernel
theorem dX10_count_1 : decode cX10_count 1 = .ok (.tableswitch 120 0 8 #[51, 56, 64, 72, 80, 88, 96, 104, 112], 51) := by decide +kernel
theorem dX10_count_52 : decode cX10_count 52 = .ok (.aload_n 0, 1) := by decide +kernel
theorem dX10_count_53 : decode cX10_count 53 = .ok (.getfield 73, 3) := by decide +kernel
theorem dX10_count_56 : decode cX10_count 56 = .ok (.ireturn, 1) := by decide +kernel
theorem dX10_count_57 : decode cX10_count 57 = .ok (.aload_n 0, 1) := by decide +kernel
theorem dX10_count_58 : decode cX10_count 58 = .ok (.getfield 12, 3) := by decide +kernel
theorem dX10_count_61 : decode cX10_count 61 = .ok (.invokevirtual 91, 3) := by decide +kernel
theorem dX10_count_64 : decode cX10_count 64 = .ok (.ireturn, 1) := by decide +kernel
theorem dX10_count_65 : decode cX10_count 65 = .ok (.aload_n 0, 1) := by decide +kernel
theorem dX10_count_66 : decode cX10_count 66 = .ok (.getfield 18, 3) := by decide +kernel
theorem dX10_count_69 : decode cX10_count 69 = .ok (.invokevirtual 91, 3) := by decide +kernel
theorem dX10_count_72 : decode cX10_count 72 = .ok (.ireturn, 1) := by decide +kernel
theorem dX10_count_73 : decode cX10_count 73 = .ok (.aload_n 0, 1) := by decide +kernel
theorem dX10_count_74 : decode cX10_count 74 = .ok (.getfield 21, 3) := by decide +kernel
theorem dX10_count_77 : decode cX10_count 77 = .ok (.invokevirtual 91, 3) := by decide +kernel
theorem dX10_count_80 : decode cX10_count 80 = .ok (.ireturn, 1) := by decide +kernel
theorem dX10_count_81 : decode cX10_count 81 = .ok (.aload_n 0, 1) := by decide +kernel
theorem dX10_count_82 : decode cX10_count 82 = .ok (.getfield 24, 3) := by decide +kernel
theorem dX10_count_85 : decode cX10_count 85 = .ok (.invokevirtual 91, 3) := by decide +kernel
theorem dX10_count_88 : decode cX10_count 88 = .ok (.ireturn, 1) := by decide +kernel
theorem dX10_count_89 : decode cX10_count 89 = .ok (.aload_n 0, 1) := by decide +kernel
theorem dX10_count_90 : decode cX10_count 90 = .ok (.getfield 27, 3) := by decide +kernel
theorem dX10_count_93 : decode cX10_count 93 = .ok (.invokevirtual 91, 3) := by decide +kernel
theorem dX10_count_96 : decode cX10_count 96 = .ok (.ireturn, 1) := by decide +kernel
theorem dX10_count_97 : decode cX10_count 97 = .ok (.aload_n 0, 1) := by decide +kernel
theorem dX10_count_98 : decode cX10_count 98 = .ok (.getfield 46, 3) := by decide +kernel
theorem dX10_count_101 : decode cX10_count 101 = .ok (.getfield 243, 3) := by decide +kernel
theorem dX10_count_104 : decode cX10_count 104 = .ok (.ireturn, 1) := by decide +kernel
theorem dX10_count_105 : decode cX10_count 105 = .ok (.aload_n 0, 1) := by decide +kernel
theorem dX10_count_106 : decode cX10_count 106 = .ok (.getfield 30, 3) := by decide +kernel
theorem dX10_count_109 : decode cX10_count 109 = .ok (.invokevirtual 91, 3) := by decide +kernel
theorem dX10_count_112 : decode cX10_count 112 = .ok (.ireturn, 1) := by decide +kernel
theorem dX10_count_113 : decode cX10_count 113 = .ok (.aload_n 0, 1) := by decide +kernel
theorem dX10_count_114 : decode cX10_count 114 = .ok (.getfield 69, 3) := by decide +kernel
theorem dX10_count_117 : decode cX10_count 117 = .ok (.getfield 366, 3) := by decide +kernel
theorem dX10_count_120 : decode cX10_count 120 = .ok (.ireturn, 1) := by decide +kernel
theorem dX10_count_121 : decode cX10_count 121 = .ok (.bipush (-2), 2) := by decide +kernel
theorem dX10_count_123 : decode cX10_count 123 = .ok (.ireturn, 1) := by decide +kernel
theorem oX10_count_0 : OKI 105 0 (.iload_n 1, 1, [1], 0, 0, []) := And.intro dX10_count_0 (And.intro rfl (rfl))
theorem oX10_count_1 : OKI 105 1 (.tableswitch 120 0 8 #[51, 56, 64, 72, 80, 88, 96, 104, 112], 52, [121], 0, 0, [(0, 52), (1, 57), (2, 65), (3, 73), (4, 81), (5, 89), (6, 97), (7, 105), (8, 113)]) := And.intro ⟨_, dX10_count_1⟩ (by decide +kernel)
theorem oX10_count_52 : OKI 105 52 (.aload_n 0, 53, [0], 0, 0, []) := And.intro dX10_count_52 (And.intro rfl (rfl))
theorem oX10_count_53 : OKI 105 53 (.getfield 73, 56, [11, 12, 0], 0, 0, []) := And.intro dX10_count_53 (And.intro rfl (⟨(RX10, TX10, 15), "SpotTimers", rfl, by decide, tm_2 _ (List.mem_of_getElem? (i := 2) rfl) rfl, Or.inl rfl, Or.inr (Or.inr (And.intro rfl (Or.inl rfl)))⟩))
theorem oX10_count_56 : OKI 105 56 (.ireturn, 57, [0], 0, 0, []) := And.intro dX10_count_56 (Or.inl (And.intro rfl rfl))
theorem oX10_count_57 : OKI 105 57 (.aload_n 0, 58, [0], 0, 0, []) := And.intro dX10_count_57 (And.intro rfl (rfl))
theorem oX10_count_58 : OKI 105 58 (.getfield 12, 61, [11, 0, 2, 0, 1], 0, 0, []) := And.intro dX10_count_58 (And.intro rfl (⟨(RX10, TX10, 15), "SpotTimers", rfl, by decide, tm_1 _ (List.mem_of_getElem? (i := 230) rfl) rfl, Or.inl rfl, rfl, rfl⟩))
theorem oX10_count_61 : OKI 105 61 (.invokevirtual 91, 64, [271, 1, 1, 0, 0, 1], 0, 0, []) := And.intro dX10_count_61 (And.intro rfl (And.intro (by decide) (And.intro (by decide) (And.intro mo_Jx4a65c_size_8abf5 (And.intro (tm_2 _ (List.mem_of_getElem? (i := 50) rfl) rfl) (And.intro (tm_2 _ (List.mem_of_getElem? (i := 51) rfl) rfl) (And.intro (tm_2 _ (List.mem_of_getElem? (i := 52) rfl) rfl) (Or.inl ⟨(RJx4a65c, TJx4a65c, 3), rfl, rfl⟩))))))))
theorem oX10_count_64 : OKI 105 64 (.ireturn, 65, [0], 0, 0, []) := And.intro dX10_count_64 (Or.inl (And.intro rfl rfl))
theorem oX10_count_65 : OKI 105 65 (.aload_n 0, 66, [0], 0, 0, []) := And.intro dX10_count_65 (And.intro rfl (rfl))
theorem oX10_count_66 : OKI 105 66 (.getfield 18, 69, [11, 1, 2, 0, 2], 0, 0, []) := And.intro dX10_count_66 (And.intro rfl (⟨(RX10, TX10, 15), "SpotTimers", rfl, by decide, tm_1 _ (List.mem_of_getElem? (i := 231) rfl) rfl, Or.inl rfl, rfl, rfl⟩))
theorem oX10_count_69 : OKI 105 69 (.invokevirtual 91, 72, [271, 1, 1, 0, 0, 1], 0, 0, []) := And.intro dX10_count_69 (And.intro rfl (And.intro (by decide) (And.intro (by decide) (And.intro mo_Jx4a65c_size_8abf5 (And.intro (tm_2 _ (List.mem_of_getElem? (i := 50) rfl) rfl) (And.intro (tm_2 _ (List.mem_of_getElem? (i := 51) rfl) rfl) (And.intro (tm_2 _ (List.mem_of_getElem? (i := 52) rfl) rfl) (Or.inl ⟨(RJx4a65c, TJx4a65c, 3), rfl, rfl⟩))))))))
theorem oX10_count_72 : OKI 105 72 (.ireturn, 73, [0], 0, 0, []) := And.intro dX10_count_72 (Or.inl (And.intro rfl rfl))
theorem oX10_count_73 : OKI 105 73 (.aload_n 0, 74, [0], 0, 0, []) := And.intro dX10_count_73 (And.intro rfl (rfl))
theorem oX10_count_74 : OKI 105 74 (.getfield 21, 77, [11, 2, 2, 0, 3], 0, 0, []) := And.intro dX10_count_74 (And.intro rfl (⟨(RX10, TX10, 15), "SpotTimers", rfl, by decide, tm_1 _ (List.mem_of_getElem? (i := 232) rfl) rfl, Or.inl rfl, rfl, rfl⟩))
theorem oX10_count_77 : OKI 105 77 (.invokevirtual 91, 80, [271, 1, 1, 0, 0, 1], 0, 0, []) := And.intro dX10_count_77 (And.intro rfl (And.intro (by decide) (And.intro (by decide) (And.intro mo_Jx4a65c_size_8abf5 (And.intro (tm_2 _ (List.mem_of_getElem? (i := 50) rfl) rfl) (And.intro (tm_2 _ (List.mem_of_getElem? (i := 51) rfl) rfl) (And.intro (tm_2 _ (List.mem_of_getElem? (i := 52) rfl) rfl) (Or.inl ⟨(RJx4a65c, TJx4a65c, 3), rfl, rfl⟩))))))))
theorem oX10_count_80 : OKI 105 80 (.ireturn, 81, [0], 0, 0, []) := And.intro dX10_count_80 (Or.inl (And.intro rfl rfl))
theorem oX10_count_81 : OKI 105 81 (.aload_n 0, 82, [0], 0, 0, []) := And.intro dX10_count_81 (And.intro rfl (rfl))
theorem oX10_count_82 : OKI 105 82 (.getfield 24, 85, [11, 3, 2, 0, 4], 0, 0, []) := And.intro dX10_count_82 (And.intro rfl (⟨(RX10, TX10, 15), "SpotTimers", rfl, by decide, tm_1 _ (List.mem_of_getElem? (i := 233) rfl) rfl, Or.inl rfl, rfl, rfl⟩))
theorem oX10_count_85 : OKI 105 85 (.invokevirtual 91, 88, [271, 1, 1, 0, 0, 1], 0, 0, []) := And.intro dX10_count_85 (And.intro rfl (And.intro (by decide) (And.intro (by decide) (And.intro mo_Jx4a65c_size_8abf5 (And.intro (tm_2 _ (List.mem_of_getElem? (i := 50) rfl) rfl) (And.intro (tm_2 _ (List.mem_of_getElem? (i := 51) rfl) rfl) (And.intro (tm_2 _ (List.mem_of_getElem? (i := 52) rfl) rfl) (Or.inl ⟨(RJx4a65c, TJx4a65c, 3), rfl, rfl⟩))))))))
theorem oX10_count_88 : OKI 105 88 (.ireturn, 89, [0], 0, 0, []) := And.intro dX10_count_88 (Or.inl (And.intro rfl rfl))
theorem oX10_count_89 : OKI 105 89 (.aload_n 0, 90, [0], 0, 0, []) := And.intro dX10_count_89 (And.intro rfl (rfl))
theorem oX10_count_90 : OKI 105 90 (.getfield 27, 93, [11, 4, 2, 0, 5], 0, 0, []) := And.intro dX10_count_90 (And.intro rfl (⟨(RX10, TX10, 15), "SpotTimers", rfl, by decide, tm_1 _ (List.mem_of_getElem? (i := 234) rfl) rfl, Or.inl rfl, rfl, rfl⟩))
theorem oX10_count_93 : OKI 105 93 (.invokevirtual 91, 96, [271, 1, 1, 0, 0, 1], 0, 0, []) := And.intro dX10_count_93 (And.intro rfl (And.intro (by decide) (And.intro (by decide) (And.intro mo_Jx4a65c_size_8abf5 (And.intro (tm_2 _ (List.mem_of_getElem? (i := 50) rfl) rfl) (And.intro (tm_2 _ (List.mem_of_getElem? (i := 51) rfl) rfl) (And.intro (tm_2 _ (List.mem_of_getElem? (i := 52) rfl) rfl) (Or.inl ⟨(RJx4a65c, TJx4a65c, 3), rfl, rfl⟩))))))))
theorem oX10_count_96 : OKI 105 96 (.ireturn, 97, [0], 0, 0, []) := And.intro dX10_count_96 (Or.inl (And.intro rfl rfl))
theorem oX10_count_97 : OKI 105 97 (.aload_n 0, 98, [0], 0, 0, []) := And.intro dX10_count_97 (And.intro rfl (rfl))
theorem oX10_count_98 : OKI 105 98 (.getfield 46, 101, [11, 8, 2, 7, 0], 0, 0, []) := And.intro dX10_count_98 (And.intro rfl (⟨(RX10, TX10, 15), "SpotTimers", rfl, by decide, tm_1 _ (List.mem_of_getElem? (i := 238) rfl) rfl, Or.inl rfl, rfl, rfl⟩))
theorem oX10_count_101 : OKI 105 101 (.getfield 243, 104, [7, 1, 0], 0, 0, []) := And.intro dX10_count_101 (And.intro rfl (⟨(RX6, TX6, 3), "SpotTimers$RuleReader", rfl, by decide, tm_1 _ (List.mem_of_getElem? (i := 70) rfl) rfl, Or.inl rfl, Or.inr (Or.inr (And.intro rfl (Or.inl rfl)))⟩))
theorem oX10_count_104 : OKI 105 104 (.ireturn, 105, [0], 0, 0, []) := And.intro dX10_count_104 (Or.inl (And.intro rfl rfl))
theorem oX10_count_105 : OKI 105 105 (.aload_n 0, 106, [0], 0, 0, []) := And.intro dX10_count_105 (And.intro rfl (rfl))
theorem oX10_count_106 : OKI 105 106 (.getfield 30, 109, [11, 5, 2, 0, 6], 0, 0, []) := And.intro dX10_count_106 (And.intro rfl (⟨(RX10, TX10, 15), "SpotTimers", rfl, by decide, tm_1 _ (List.mem_of_getElem? (i := 235) rfl) rfl, Or.inl rfl, rfl, rfl⟩))
theorem oX10_count_109 : OKI 105 109 (.invokevirtual 91, 112, [271, 1, 1, 0, 0, 1], 0, 0, []) := And.intro dX10_count_109 (And.intro rfl (And.intro (by decide) (And.intro (by decide) (And.intro mo_Jx4a65c_size_8abf5 (And.intro (tm_2 _ (List.mem_of_getElem? (i := 50) rfl) rfl) (And.intro (tm_2 _ (List.mem_of_getElem? (i := 51) rfl) rfl) (And.intro (tm_2 _ (List.mem_of_getElem? (i := 52) rfl) rfl) (Or.inl ⟨(RJx4a65c, TJx4a65c, 3), rfl, rfl⟩))))))))
theorem oX10_count_112 : OKI 105 112 (.ireturn, 113, [0], 0, 0, []) := And.intro dX10_count_112 (Or.inl (And.intro rfl rfl))
theorem oX10_count_113 : OKI 105 113 (.aload_n 0, 114, [0], 0, 0, []) := And.intro dX10_count_113 (And.intro rfl (rfl))
theorem oX10_count_114 : OKI 105 114 (.getfield 69, 117, [11, 11, 2, 1, 0], 0, 0, []) := And.intro dX10_count_114 (And.intro rfl (⟨(RX10, TX10, 15), "SpotTimers", rfl, by decide, tm_2 _ (List.mem_of_getElem? (i := 1) rfl) rfl, Or.inl rfl, rfl, rfl⟩))
theorem oX10_count_117 : OKI 105 117 (.getfield 366, 120, [1, 1, 0], 0, 0, []) := And.intro dX10_count_117 (And.intro rfl (⟨(RX0, TX0, 5), "SpotTimers$Acts", rfl, by decide, tm_1 _ (List.mem_of_getElem? (i := 197) rfl) rfl, Or.inl rfl, Or.inr (Or.inr (And.intro rfl (Or.inl rfl)))⟩))
theorem oX10_count_120 : OKI 105 120 (.ireturn, 121, [0], 0, 0, []) := And.intro dX10_count_120 (Or.inl (And.intro rfl rfl))
theorem oX10_count_121 : OKI 105 121 (.bipush (-2), 123, [], (-2), 0, []) := And.intro dX10_count_121 (And.intro rfl (by decide +kernel))
theorem oX10_count_123 : OKI 105 123 (.ireturn, 124, [0], 0, 0, []) := And.intro dX10_count_123 (Or.inl (And.intro rfl rfl))
def pfX10_count (pc : Nat) : Option XE := (bif Nat.blt pc 85 then (bif Nat.blt pc 65 then (bif Nat.blt pc 56 then (bif Nat.blt pc 52 then (bif Nat.blt pc 1 then (bif Nat.beq pc 0 then some (.iload_n 1, 1, [1], 0, 0, []) else none) else (bif Nat.beq pc 1 then some (.tableswitch 120 0 8 #[51, 56, 64, 72, 80, 88, 96, 104, 112], 52, [121], 0, 0, [(0, 52), (1, 57), (2, 65), (3, 73), (4, 81), (5, 89), (6, 97), (7, 105), (8, 113)]) else none)) else (bif Nat.blt pc 53 then (bif Nat.beq pc 52 then some (.aload_n 0, 53, [0], 0, 0, []) else none) else (bif Nat.beq pc 53 then some (.getfield 73, 56, [11, 12, 0], 0, 0, []) else none))) else (bif Nat.blt pc 58 then (bif Nat.blt pc 57 then (bif Nat.beq pc 56 then some (.ireturn, 57, [0], 0, 0, []) else none) else (bif Nat.beq pc 57 then some (.aload_n 0, 58, [0], 0, 0, []) else none)) else (bif Nat.blt pc 61 then (bif Nat.beq pc 58 then some (.getfield 12, 61, [11, 0, 2, 0, 1], 0, 0, []) else none) else (bif Nat.blt pc 64 then (bif Nat.beq pc 61 then some (.invokevirtual 91, 64, [271, 1, 1, 0, 0, 1], 0, 0, []) else none) else (bif Nat.beq pc 64 then some (.ireturn, 65, [0], 0, 0, []) else none))))) else (bif Nat.blt pc 74 then (bif Nat.blt pc 69 then (bif Nat.blt pc 66 then (bif Nat.beq pc 65 then some (.aload_n 0, 66, [0], 0, 0, []) else none) else (bif Nat.beq pc 66 then some (.getfield 18, 69, [11, 1, 2, 0, 2], 0, 0, []) else none)) else (bif Nat.blt pc 72 then (bif Nat.beq pc 69 then some (.invokevirtual 91, 72, [271, 1, 1, 0, 0, 1], 0, 0, []) else none) else (bif Nat.blt pc 73 then (bif Nat.beq pc 72 then some (.ireturn, 73, [0], 0, 0, []) else none) else (bif Nat.beq pc 73 then some (.aload_n 0, 74, [0], 0, 0, []) else none)))) else (bif Nat.blt pc 80 then (bif Nat.blt pc 77 then (bif Nat.beq pc 74 then some (.getfield 21, 77, [11, 2, 2, 0, 3], 0, 0, []) else none) else (bif Nat.beq pc 77 then some (.invokevirtual 91, 80, [271, 1, 1, 0, 0, 1], 0, 0, []) else none)) else (bif Nat.blt pc 81 then (bif Nat.beq pc 80 then some (.ireturn, 81, [0], 0, 0, []) else none) else (bif Nat.blt pc 82 then (bif Nat.beq pc 81 then some (.aload_n 0, 82, [0], 0, 0, []) else none) else (bif Nat.beq pc 82 then some (.getfield 24, 85, [11, 3, 2, 0, 4], 0, 0, []) else none)))))) else (bif Nat.blt pc 105 then (bif Nat.blt pc 96 then (bif Nat.blt pc 89 then (bif Nat.blt pc 88 then (bif Nat.beq pc 85 then some (.invokevirtual 91, 88, [271, 1, 1, 0, 0, 1], 0, 0, []) else none) else (bif Nat.beq pc 88 then some (.ireturn, 89, [0], 0, 0, []) else none)) else (bif Nat.blt pc 90 then (bif Nat.beq pc 89 then some (.aload_n 0, 90, [0], 0, 0, []) else none) else (bif Nat.blt pc 93 then (bif Nat.beq pc 90 then some (.getfield 27, 93, [11, 4, 2, 0, 5], 0, 0, []) else none) else (bif Nat.beq pc 93 then some (.invokevirtual 91, 96, [271, 1, 1, 0, 0, 1], 0, 0, []) else none)))) else (bif Nat.blt pc 98 then (bif Nat.blt pc 97 then (bif Nat.beq pc 96 then some (.ireturn, 97, [0], 0, 0, []) else none) else (bif Nat.beq pc 97 then some (.aload_n 0, 98, [0], 0, 0, []) else none)) else (bif Nat.blt pc 101 then (bif Nat.beq pc 98 then some (.getfield 46, 101, [11, 8, 2, 7, 0], 0, 0, []) else none) else (bif Nat.blt pc 104 then (bif Nat.beq pc 101 then some (.getfield 243, 104, [7, 1, 0], 0, 0, []) else none) else (bif Nat.beq pc 104 then some (.ireturn, 105, [0], 0, 0, []) else none))))) else (bif Nat.blt pc 114 then (bif Nat.blt pc 109 then (bif Nat.blt pc 106 then (bif Nat.beq pc 105 then some (.aload_n 0, 106, [0], 0, 0, []) else none) else (bif Nat.beq pc 106 then some (.getfield 30, 109, [11, 5, 2, 0, 6], 0, 0, []) else none)) else (bif Nat.blt pc 112 then (bif Nat.beq pc 109 then some (.invokevirtual 91, 112, [271, 1, 1, 0, 0, 1], 0, 0, []) else none) else (bif Nat.blt pc 113 then (bif Nat.beq pc 112 then some (.ireturn, 113, [0], 0, 0, []) else none) else (bif Nat.beq pc 113 then some (.aload_n 0, 114, [0], 0, 0, []) else none)))) else (bif Nat.blt pc 120 then (bif Nat.blt pc 117 then (bif Nat.beq pc 114 then some (.getfield 69, 117, [11, 11, 2, 1, 0], 0, 0, []) else none) else (bif Nat.beq pc 117 then some (.getfield 366, 120, [1, 1, 0], 0, 0, []) else none)) else (bif Nat.blt pc 121 then (bif Nat.beq pc 120 then some (.ireturn, 121, [0], 0, 0, []) else none) else (bif Nat.blt pc 123 then (bif Nat.beq pc 121 then some (.bipush (-2), 123, [], (-2), 0, []) else none) else (bif Nat.beq pc 123 then some (.ireturn, 124, [0], 0, 0, []) else none)))))))
theorem okX10_count : ∀ pc Y, pfX10_count pc = some Y → OKI m_X10_count pc Y := fun pc Y => ((bt_node (bt_node (bt_node (bt_node (bt_node (bt_leaf (P := OKI m_X10_count) oX10_count_0) (bt_leaf (P := OKI m_X10_count) oX10_count_1)) (bt_node (bt_leaf (P := OKI m_X10_count) oX10_count_52) (bt_leaf (P := OKI m_X10_count) oX10_count_53))) (bt_node (bt_node (bt_leaf (P := OKI m_X10_count) oX10_count_56) (bt_leaf (P := OKI m_X10_count) oX10_count_57)) (bt_node (bt_leaf (P := OKI m_X10_count) oX10_count_58) (bt_node (bt_leaf (P := OKI m_X10_count) oX10_count_61) (bt_leaf (P := OKI m_X10_count) oX10_count_64))))) (bt_node (bt_node (bt_node (bt_leaf (P := OKI m_X10_count) oX10_count_65) (bt_leaf (P := OKI m_X10_count) oX10_count_66)) (bt_node (bt_leaf (P := OKI m_X10_count) oX10_count_69) (bt_node (bt_leaf (P := OKI m_X10_count) oX10_count_72) (bt_leaf (P := OKI m_X10_count) oX10_count_73)))) (bt_node (bt_node (bt_leaf (P := OKI m_X10_count) oX10_count_74) (bt_leaf (P := OKI m_X10_count) oX10_count_77)) (bt_node (bt_leaf (P := OKI m_X10_count) oX10_count_80) (bt_node (bt_leaf (P := OKI m_X10_count) oX10_count_81) (bt_leaf (P := OKI m_X10_count) oX10_count_82)))))) (bt_node (bt_node (bt_node (bt_node (bt_leaf (P := OKI m_X10_count) oX10_count_85) (bt_leaf (P := OKI m_X10_count) oX10_count_88)) (bt_node (bt_leaf (P := OKI m_X10_count) oX10_count_89) (bt_node (bt_leaf (P := OKI m_X10_count) oX10_count_90) (bt_leaf (P := OKI m_X10_count) oX10_count_93)))) (bt_node (bt_node (bt_leaf (P := OKI m_X10_count) oX10_count_96) (bt_leaf (P := OKI m_X10_count) oX10_count_97)) (bt_node (bt_leaf (P := OKI m_X10_count) oX10_count_98) (bt_node (bt_leaf (P := OKI m_X10_count) oX10_count_101) (bt_leaf (P := OKI m_X10_count) oX10_count_104))))) (bt_node (bt_node (bt_node (bt_leaf (P := OKI m_X10_count) oX10_count_105) (bt_leaf (P := OKI m_X10_count) oX10_count_106)) (bt_node (bt_leaf (P := OKI m_X10_count) oX10_count_109) (bt_node (bt_leaf (P := OKI m_X10_count) oX10_count_112) (bt_leaf (P := OKI m_X10_count) oX10_count_113)))) (bt_node (bt_node (bt_leaf (P := OKI m_X10_count) oX10_count_114) (bt_leaf (P := OKI m_X10_count) oX10_count_117)) (bt_node (bt_leaf (P := OKI m_X10_count) oX10_count_120) (bt_node (bt_leaf (P := OKI m_X10_count) oX10_count_121) (bt_leaf (P := OKI m_X10_count) oX10_count_123))))))) : pfX10_count pc = some Y → OKI m_X10_count pc Y)
def stpX10_count (pc : Nat) : Option (List Bool) := (bif Nat.blt pc 89 then (bif Nat.blt pc 65 then (bif Nat.blt pc 57 then (bif Nat.beq pc 52 then some [true, false] else none) else (bif Nat.beq pc 57 then some [true, false] else none)) else (bif Nat.blt pc 73 then (bif Nat.beq pc 65 then some [true, false] else none) else (bif Nat.blt pc 81 then (bif Nat.beq pc 73 then some [true, false] else none) else (bif Nat.beq pc 81 then some [true, false] else none)))) else (bif Nat.blt pc 105 then (bif Nat.blt pc 97 then (bif Nat.beq pc 89 then some [true, false] else none) else (bif Nat.beq pc 97 then some [true, false] else none)) else (bif Nat.blt pc 113 then (bif Nat.beq pc 105 then some [true, false] else none) else (bif Nat.blt pc 121 then (bif Nat.beq pc 113 then some [true, false] else none) else (bif Nat.beq pc 121 then some [false, false] else none)))))
def bX10_count_0 (d rc rs : Nat) (a1 : Int32) (σ : XH) (Q : XV → XH → Prop) : Prop :=
  ((a1 = 0 → Ex d rc rs m_X10_count 52 [vR (some (11, 0)), vU] [] σ Q) ∧ (¬ a1 = 0 → ((a1 = 1 → Ex d rc rs m_X10_count 57 [vR (some (11, 0)), vU] [] σ Q) ∧ (¬ a1 = 1 → ((a1 = 2 → Ex d rc rs m_X10_count 65 [vR (some (11, 0)), vU] [] σ Q) ∧ (¬ a1 = 2 → ((a1 = 3 → Ex d rc rs m_X10_count 73 [vR (some (11, 0)), vU] [] σ Q) ∧ (¬ a1 = 3 → ((a1 = 4 → Ex d rc rs m_X10_count 81 [vR (some (11, 0)), vU] [] σ Q) ∧ (¬ a1 = 4 → ((a1 = 5 → Ex d rc rs m_X10_count 89 [vR (some (11, 0)), vU] [] σ Q) ∧ (¬ a1 = 5 → ((a1 = 6 → Ex d rc rs m_X10_count 97 [vR (some (11, 0)), vU] [] σ Q) ∧ (¬ a1 = 6 → ((a1 = 7 → Ex d rc rs m_X10_count 105 [vR (some (11, 0)), vU] [] σ Q) ∧ (¬ a1 = 7 → ((a1 = 8 → Ex d rc rs m_X10_count 113 [vR (some (11, 0)), vU] [] σ Q) ∧ (¬ a1 = 8 → Ex d rc rs m_X10_count 121 [vU, vU] [] σ Q))))))))))))))))))
theorem sX10_count_0 {d rc rs : Nat} {a1 : Int32} {σ : XH} {Q : XV → XH → Prop} (h : bX10_count_0 d rc rs a1 σ Q) : Ex d rc rs m_X10_count 0 [vR (some (11, 0)), vI a1] [] σ Q :=
  xtree_sound (stop := stpX10_count) okX10_count 4 _ _ _ _ _ _ h
def bX10_count_52 (d rc rs : Nat)  (σ : XH) (Q : XV → XH → Prop) : Prop :=
  (Q (vI (hi σ 11 0 12)) σ)
theorem sX10_count_52 {d rc rs : Nat}  {σ : XH} {Q : XV → XH → Prop} (h : bX10_count_52 d rc rs  σ Q) : Ex d rc rs m_X10_count 52 [vR (some (11, 0)), vU] [] σ Q :=
  xtree_sound (stop := stpX10_count) okX10_count 5 _ _ _ _ _ _ h
def bX10_count_57 (d rc rs : Nat)  (σ : XH) (Q : XV → XH → Prop) : Prop :=
  ((hr σ 11 0 0 = some (0, 0) ∧ ((1 ≤ d ∧ Ec (d - 1) 0 0 m_Jx4a65c_size_8abf5 [vR (some (0, 0))] σ (kI fun x2 h1 => Q (vI x2) h1)))))
theorem sX10_count_57 {d rc rs : Nat}  {σ : XH} {Q : XV → XH → Prop} (h : bX10_count_57 d rc rs  σ Q) : Ex d rc rs m_X10_count 57 [vR (some (11, 0)), vU] [] σ Q :=
  xtree_sound (stop := stpX10_count) okX10_count 6 _ _ _ _ _ _ h
def bX10_count_65 (d rc rs : Nat)  (σ : XH) (Q : XV → XH → Prop) : Prop :=
  ((hr σ 11 0 1 = some (0, 1) ∧ ((1 ≤ d ∧ Ec (d - 1) 0 0 m_Jx4a65c_size_8abf5 [vR (some (0, 1))] σ (kI fun x2 h1 => Q (vI x2) h1)))))
theorem sX10_count_65 {d rc rs : Nat}  {σ : XH} {Q : XV → XH → Prop} (h : bX10_count_65 d rc rs  σ Q) : Ex d rc rs m_X10_count 65 [vR (some (11, 0)), vU] [] σ Q :=
  xtree_sound (stop := stpX10_count) okX10_count 6 _ _ _ _ _ _ h
def bX10_count_73 (d rc rs : Nat)  (σ : XH) (Q : XV → XH → Prop) : Prop :=
  ((hr σ 11 0 2 = some (0, 2) ∧ ((1 ≤ d ∧ Ec (d - 1) 0 0 m_Jx4a65c_size_8abf5 [vR (some (0, 2))] σ (kI fun x2 h1 => Q (vI x2) h1)))))
theorem sX10_count_73 {d rc rs : Nat}  {σ : XH} {Q : XV → XH → Prop} (h : bX10_count_73 d rc rs  σ Q) : Ex d rc rs m_X10_count 73 [vR (some (11, 0)), vU] [] σ Q :=
  xtree_sound (stop := stpX10_count) okX10_count 6 _ _ _ _ _ _ h
def bX10_count_81 (d rc rs : Nat)  (σ : XH) (Q : XV → XH → Prop) : Prop :=
  ((hr σ 11 0 3 = some (0, 3) ∧ ((1 ≤ d ∧ Ec (d - 1) 0 0 m_Jx4a65c_size_8abf5 [vR (some (0, 3))] σ (kI fun x2 h1 => Q (vI x2) h1)))))
theorem sX10_count_81 {d rc rs : Nat}  {σ : XH} {Q : XV → XH → Prop} (h : bX10_count_81 d rc rs  σ Q) : Ex d rc rs m_X10_count 81 [vR (some (11, 0)), vU] [] σ Q :=
  xtree_sound (stop := stpX10_count) okX10_count 6 _ _ _ _ _ _ h
def bX10_count_89 (d rc rs : Nat)  (σ : XH) (Q : XV → XH → Prop) : Prop :=
  ((hr σ 11 0 4 = some (0, 4) ∧ ((1 ≤ d ∧ Ec (d - 1) 0 0 m_Jx4a65c_size_8abf5 [vR (some (0, 4))] σ (kI fun x2 h1 => Q (vI x2) h1)))))
theorem sX10_count_89 {d rc rs : Nat}  {σ : XH} {Q : XV → XH → Prop} (h : bX10_count_89 d rc rs  σ Q) : Ex d rc rs m_X10_count 89 [vR (some (11, 0)), vU] [] σ Q :=
  xtree_sound (stop := stpX10_count) okX10_count 6 _ _ _ _ _ _ h
def bX10_count_97 (d rc rs : Nat)  (σ : XH) (Q : XV → XH → Prop) : Prop :=
  ((hr σ 11 0 8 = some (7, 0) ∧ (Q (vI (hi σ 7 0 1)) σ)))
theorem sX10_count_97 {d rc rs : Nat}  {σ : XH} {Q : XV → XH → Prop} (h : bX10_count_97 d rc rs  σ Q) : Ex d rc rs m_X10_count 97 [vR (some (11, 0)), vU] [] σ Q :=
  xtree_sound (stop := stpX10_count) okX10_count 6 _ _ _ _ _ _ h
def bX10_count_105 (d rc rs : Nat)  (σ : XH) (Q : XV → XH → Prop) : Prop :=
  ((hr σ 11 0 5 = some (0, 5) ∧ ((1 ≤ d ∧ Ec (d - 1) 0 0 m_Jx4a65c_size_8abf5 [vR (some (0, 5))] σ (kI fun x2 h1 => Q (vI x2) h1)))))
theorem sX10_count_105 {d rc rs : Nat}  {σ : XH} {Q : XV → XH → Prop} (h : bX10_count_105 d rc rs  σ Q) : Ex d rc rs m_X10_count 105 [vR (some (11, 0)), vU] [] σ Q :=
  xtree_sound (stop := stpX10_count) okX10_count 6 _ _ _ _ _ _ h
def bX10_count_113 (d rc rs : Nat)  (σ : XH) (Q : XV → XH → Prop) : Prop :=
  ((hr σ 11 0 11 = some (1, 0) ∧ (Q (vI (hi σ 1 0 1)) σ)))
theorem sX10_count_113 {d rc rs : Nat}  {σ : XH} {Q : XV → XH → Prop} (h : bX10_count_113 d rc rs  σ Q) : Ex d rc rs m_X10_count 113 [vR (some (11, 0)), vU] [] σ Q :=
  xtree_sound (stop := stpX10_count) okX10_count 6 _ _ _ _ _ _ h
def bX10_count_121 (d rc rs : Nat)  (σ : XH) (Q : XV → XH → Prop) : Prop :=
  Q (vI (-2)) σ
theorem sX10_count_121 {d rc rs : Nat}  {σ : XH} {Q : XV → XH → Prop} (h : bX10_count_121 d rc rs  σ Q) : Ex d rc rs m_X10_count 121 [vU, vU] [] σ Q :=
  xtree_sound (stop := stpX10_count) okX10_count 4 _ _ _ _ _ _ h
/-! SpotTimers.tape(III)I -/
theorem dX10_tape_0 : decode cX10_tape 0 = .ok (.aload_n 0, 1) := by decide +kernel
theorem dX10_tape_1 : decode cX10_tape 1 = .ok (.iload_n 1, 1) := by decide +kernel
theorem dX10_tape_2 : decode cX10_tape 2 = .ok (.invokevirtual 205, 3) := by decide +kernel
theorem dX10_tape_5 : decode cX10_tape 5 = .ok (.astore 4, 2) := by decide +kernel
theorem dX10_tape_7 : decode cX10_tape 7 = .ok (.aload 4, 2) := by decide +kernel
theorem dX10_tape_9 : decode cX10_tape 9 = .ok (.ifnonnull 5, 3) := by decide +kernel
theorem dX10_tape_12 : decode cX10_tape 12 = .ok (.iconst (-1), 1) := by decide +kernel
theorem dX10_tape_13 : decode cX10_tape 13 = .ok (.ireturn, 1) := by decide +kernel
theorem dX10_tape_14 : decode cX10_tape 14 = .ok (.iload_n 2, 1) := by decide +kernel
theorem dX10_tape_15 : decode cX10_tape 15 = .ok (.iconst (-1), 1) := by decide +kernel
theorem dX10_tape_16 : decode cX10_tape 16 = .ok (.iconst 3, 1) := by decide +kernel
theorem dX10_tape_17 : decode cX10_tape 17 = .ok (.invokestatic 84, 3) := by decide +kernel
theorem dX10_tape_20 : decode cX10_tape 20 = .ok (.ifCond .ne 6, 3) := by decide +kernel
theorem dX10_tape_23 : decode cX10_tape 23 = .ok (.bipush (-2), 2) := by decide +kernel
theorem dX10_tape_25 : decode cX10_tape 25 = .ok (.ireturn, 1) := by decide +kernel
theorem dX10_tape_26 : decode cX10_tape 26 = .ok (.iload_n 2, 1) := by decide +kernel
theorem dX10_tape_27 : decode cX10_tape 27 = .ok (.ifCond .lt 12, 3) := by decide +kernel
theorem dX10_tape_30 : decode cX10_tape 30 = .ok (.iload_n 3, 1) := by decide +kernel
theorem dX10_tape_31 : decode cX10_tape 31 = .ok (.bipush 60, 2) := by decide +kernel
theorem dX10_tape_33 : decode cX10_tape 33 = .ok (.if_icmp .le 6, 3) := by decide +kernel
theorem dX10_tape_36 : decode cX10_tape 36 = .ok (.bipush (-2), 2) := by decide +kernel
theorem dX10_tape_38 : decode cX10_tape 38 = .ok (.ireturn, 1) := by decide +kernel
theorem dX10_tape_39 : decode cX10_tape 39 = .ok (.iload_n 2, 1) := by decide +kernel
theorem dX10_tape_40 : decode cX10_tape 40 = .ok (.ifCond .lt 10, 3) := by decide +kernel
theorem dX10_tape_43 : decode cX10_tape 43 = .ok (.iload_n 3, 1) := by decide +kernel
theorem dX10_tape_44 : decode cX10_tape 44 = .ok (.ifCond .ge 6, 3) := by decide +kernel
theorem dX10_tape_47 : decode cX10_tape 47 = .ok (.bipush (-14), 2) := by decide +kernel
theorem dX10_tape_49 : decode cX10_tape 49 = .ok (.ireturn, 1) := by decide +kernel
theorem dX10_tape_50 : decode cX10_tape 50 = .ok (.aload 4, 2) := by decide +kernel
theorem dX10_tape_52 : decode cX10_tape 52 = .ok (.iload_n 2, 1) := by decide +kernel
theorem dX10_tape_53 : decode cX10_tape 53 = .ok (.iload_n 3, 1) := by decide +kernel
theorem dX10_tape_54 : decode cX10_tape 54 = .ok (.invokevirtual 382, 3) := by decide +kernel
theorem dX10_tape_57 : decode cX10_tape 57 = .ok (.iconst 1, 1) := by decide +kernel
theorem dX10_tape_58 : decode cX10_tape 58 = .ok (.ireturn, 1) := by decide +kernel
theorem oX10_tape_0 : OKI 106 0 (.aload_n 0, 1, [0], 0, 0, []) := And.intro dX10_tape_0 (And.intro rfl (rfl))
theorem oX10_tape_1 : OKI 106 1 (.iload_n 1, 2, [1], 0, 0, []) := And.intro dX10_tape_1 (And.intro rfl (rfl))
theorem oX10_tape_2 : OKI 106 2 (.invokevirtual 205, 5, [123, 2, 12, 0, 0, 3], 0, 0, []) := And.intro dX10_tape_2 (And.intro rfl (And.intro (by decide) (And.intro (by decide) (And.intro mo_X10_tapeAt (And.intro (tm_3 _ (List.mem_of_getElem? (i := 163) rfl) rfl) (And.intro (tm_3 _ (List.mem_of_getElem? (i := 165) rfl) rfl) (And.intro (pm_1 _ (List.mem_of_getElem? (i := 10) rfl)) (Or.inl ⟨(RX10, TX10, 15), rfl, rfl⟩))))))))
theorem oX10_tape_5 : OKI 106 5 (.astore 4, 7, [4], 0, 0, []) := And.intro dX10_tape_5 (And.intro rfl (And.intro rfl (by decide)))
theorem oX10_tape_7 : OKI 106 7 (.aload 4, 9, [4], 0, 0, []) := And.intro dX10_tape_7 (And.intro rfl (rfl))
theorem oX10_tape_9 : OKI 106 9 (.ifnonnull 5, 12, [14], 0, 0, []) := And.intro dX10_tape_9 (And.intro rfl (by decide))
theorem oX10_tape_12 : OKI 106 12 (.iconst (-1), 13, [], (-1), 0, []) := And.intro dX10_tape_12 (And.intro rfl (by decide +kernel))
theorem oX10_tape_13 : OKI 106 13 (.ireturn, 14, [0], 0, 0, []) := And.intro dX10_tape_13 (Or.inl (And.intro rfl rfl))
theorem oX10_tape_14 : OKI 106 14 (.iload_n 2, 15, [2], 0, 0, []) := And.intro dX10_tape_14 (And.intro rfl (rfl))
theorem oX10_tape_15 : OKI 106 15 (.iconst (-1), 16, [], (-1), 0, []) := And.intro dX10_tape_15 (And.intro rfl (by decide +kernel))
theorem oX10_tape_16 : OKI 106 16 (.iconst 3, 17, [], 3, 0, []) := And.intro dX10_tape_16 (And.intro rfl (by decide +kernel))
theorem oX10_tape_17 : OKI 106 17 (.invokestatic 84, 20, [111, 3, 0, 0, 0, 1], 0, 0, []) := And.intro dX10_tape_17 (And.intro rfl (And.intro rfl (And.intro mo_X10_within (And.intro (Or.inl (tm_2 _ (List.mem_of_getElem? (i := 40) rfl) rfl)) (tm_2 _ (List.mem_of_getElem? (i := 41) rfl) rfl)))))
theorem oX10_tape_20 : OKI 106 20 (.ifCond .ne 6, 23, [26], 0, 0, []) := And.intro dX10_tape_20 (And.intro rfl (by decide))
theorem oX10_tape_23 : OKI 106 23 (.bipush (-2), 25, [], (-2), 0, []) := And.intro dX10_tape_23 (And.intro rfl (by decide +kernel))
theorem oX10_tape_25 : OKI 106 25 (.ireturn, 26, [0], 0, 0, []) := And.intro dX10_tape_25 (Or.inl (And.intro rfl rfl))
theorem oX10_tape_26 : OKI 106 26 (.iload_n 2, 27, [2], 0, 0, []) := And.intro dX10_tape_26 (And.intro rfl (rfl))
theorem oX10_tape_27 : OKI 106 27 (.ifCond .lt 12, 30, [39], 0, 0, []) := And.intro dX10_tape_27 (And.intro rfl (by decide))
theorem oX10_tape_30 : OKI 106 30 (.iload_n 3, 31, [3], 0, 0, []) := And.intro dX10_tape_30 (And.intro rfl (rfl))
theorem oX10_tape_31 : OKI 106 31 (.bipush 60, 33, [], 60, 0, []) := And.intro dX10_tape_31 (And.intro rfl (by decide +kernel))
theorem oX10_tape_33 : OKI 106 33 (.if_icmp .le 6, 36, [39], 0, 0, []) := And.intro dX10_tape_33 (And.intro rfl (by decide))
theorem oX10_tape_36 : OKI 106 36 (.bipush (-2), 38, [], (-2), 0, []) := And.intro dX10_tape_36 (And.intro rfl (by decide +kernel))
theorem oX10_tape_38 : OKI 106 38 (.ireturn, 39, [0], 0, 0, []) := And.intro dX10_tape_38 (Or.inl (And.intro rfl rfl))
theorem oX10_tape_39 : OKI 106 39 (.iload_n 2, 40, [2], 0, 0, []) := And.intro dX10_tape_39 (And.intro rfl (rfl))
theorem oX10_tape_40 : OKI 106 40 (.ifCond .lt 10, 43, [50], 0, 0, []) := And.intro dX10_tape_40 (And.intro rfl (by decide))
theorem oX10_tape_43 : OKI 106 43 (.iload_n 3, 44, [3], 0, 0, []) := And.intro dX10_tape_43 (And.intro rfl (rfl))
theorem oX10_tape_44 : OKI 106 44 (.ifCond .ge 6, 47, [50], 0, 0, []) := And.intro dX10_tape_44 (And.intro rfl (by decide))
theorem oX10_tape_47 : OKI 106 47 (.bipush (-14), 49, [], (-14), 0, []) := And.intro dX10_tape_47 (And.intro rfl (by decide +kernel))
theorem oX10_tape_49 : OKI 106 49 (.ireturn, 50, [0], 0, 0, []) := And.intro dX10_tape_49 (Or.inl (And.intro rfl rfl))
theorem oX10_tape_50 : OKI 106 50 (.aload 4, 52, [4], 0, 0, []) := And.intro dX10_tape_50 (And.intro rfl (rfl))
theorem oX10_tape_52 : OKI 106 52 (.iload_n 2, 53, [2], 0, 0, []) := And.intro dX10_tape_52 (And.intro rfl (rfl))
theorem oX10_tape_53 : OKI 106 53 (.iload_n 3, 54, [3], 0, 0, []) := And.intro dX10_tape_53 (And.intro rfl (rfl))
theorem oX10_tape_54 : OKI 106 54 (.invokevirtual 382, 57, [62, 3, 11, 0, 0, 0], 0, 0, []) := And.intro dX10_tape_54 (And.intro rfl (And.intro (by decide) (And.intro (by decide) (And.intro mo_X9_become (And.intro (tm_5 _ (List.mem_of_getElem? (i := 161) rfl) rfl) (And.intro (tm_5 _ (List.mem_of_getElem? (i := 162) rfl) rfl) (And.intro (tm_5 _ (List.mem_of_getElem? (i := 163) rfl) rfl) (Or.inl ⟨(RX9, TX9, 3), rfl, rfl⟩))))))))
theorem oX10_tape_57 : OKI 106 57 (.iconst 1, 58, [], 1, 0, []) := And.intro dX10_tape_57 (And.intro rfl (by decide +kernel))
theorem oX10_tape_58 : OKI 106 58 (.ireturn, 59, [0], 0, 0, []) := And.intro dX10_tape_58 (Or.inl (And.intro rfl rfl))
def pfX10_tape (pc : Nat) : Option XE := (bif Nat.blt pc 30 then (bif Nat.blt pc 14 then (bif Nat.blt pc 7 then (bif Nat.blt pc 2 then (bif Nat.blt pc 1 then (bif Nat.beq pc 0 then some (.aload_n 0, 1, [0], 0, 0, []) else none) else (bif Nat.beq pc 1 then some (.iload_n 1, 2, [1], 0, 0, []) else none)) else (bif Nat.blt pc 5 then (bif Nat.beq pc 2 then some (.invokevirtual 205, 5, [123, 2, 12, 0, 0, 3], 0, 0, []) else none) else (bif Nat.beq pc 5 then some (.astore 4, 7, [4], 0, 0, []) else none))) else (bif Nat.blt pc 12 then (bif Nat.blt pc 9 then (bif Nat.beq pc 7 then some (.aload 4, 9, [4], 0, 0, []) else none) else (bif Nat.beq pc 9 then some (.ifnonnull 5, 12, [14], 0, 0, []) else none)) else (bif Nat.blt pc 13 then (bif Nat.beq pc 12 then some (.iconst (-1), 13, [], (-1), 0, []) else none) else (bif Nat.beq pc 13 then some (.ireturn, 14, [0], 0, 0, []) else none)))) else (bif Nat.blt pc 20 then (bif Nat.blt pc 16 then (bif Nat.blt pc 15 then (bif Nat.beq pc 14 then some (.iload_n 2, 15, [2], 0, 0, []) else none) else (bif Nat.beq pc 15 then some (.iconst (-1), 16, [], (-1), 0, []) else none)) else (bif Nat.blt pc 17 then (bif Nat.beq pc 16 then some (.iconst 3, 17, [], 3, 0, []) else none) else (bif Nat.beq pc 17 then some (.invokestatic 84, 20, [111, 3, 0, 0, 0, 1], 0, 0, []) else none))) else (bif Nat.blt pc 25 then (bif Nat.blt pc 23 then (bif Nat.beq pc 20 then some (.ifCond .ne 6, 23, [26], 0, 0, []) else none) else (bif Nat.beq pc 23 then some (.bipush (-2), 25, [], (-2), 0, []) else none)) else (bif Nat.blt pc 26 then (bif Nat.beq pc 25 then some (.ireturn, 26, [0], 0, 0, []) else none) else (bif Nat.blt pc 27 then (bif Nat.beq pc 26 then some (.iload_n 2, 27, [2], 0, 0, []) else none) else (bif Nat.beq pc 27 then some (.ifCond .lt 12, 30, [39], 0, 0, []) else none)))))) else (bif Nat.blt pc 44 then (bif Nat.blt pc 38 then (bif Nat.blt pc 33 then (bif Nat.blt pc 31 then (bif Nat.beq pc 30 then some (.iload_n 3, 31, [3], 0, 0, []) else none) else (bif Nat.beq pc 31 then some (.bipush 60, 33, [], 60, 0, []) else none)) else (bif Nat.blt pc 36 then (bif Nat.beq pc 33 then some (.if_icmp .le 6, 36, [39], 0, 0, []) else none) else (bif Nat.beq pc 36 then some (.bipush (-2), 38, [], (-2), 0, []) else none))) else (bif Nat.blt pc 40 then (bif Nat.blt pc 39 then (bif Nat.beq pc 38 then some (.ireturn, 39, [0], 0, 0, []) else none) else (bif Nat.beq pc 39 then some (.iload_n 2, 40, [2], 0, 0, []) else none)) else (bif Nat.blt pc 43 then (bif Nat.beq pc 40 then some (.ifCond .lt 10, 43, [50], 0, 0, []) else none) else (bif Nat.beq pc 43 then some (.iload_n 3, 44, [3], 0, 0, []) else none)))) else (bif Nat.blt pc 52 then (bif Nat.blt pc 49 then (bif Nat.blt pc 47 then (bif Nat.beq pc 44 then some (.ifCond .ge 6, 47, [50], 0, 0, []) else none) else (bif Nat.beq pc 47 then some (.bipush (-14), 49, [], (-14), 0, []) else none)) else (bif Nat.blt pc 50 then (bif Nat.beq pc 49 then some (.ireturn, 50, [0], 0, 0, []) else none) else (bif Nat.beq pc 50 then some (.aload 4, 52, [4], 0, 0, []) else none))) else (bif Nat.blt pc 54 then (bif Nat.blt pc 53 then (bif Nat.beq pc 52 then some (.iload_n 2, 53, [2], 0, 0, []) else none) else (bif Nat.beq pc 53 then some (.iload_n 3, 54, [3], 0, 0, []) else none)) else (bif Nat.blt pc 57 then (bif Nat.beq pc 54 then some (.invokevirtual 382, 57, [62, 3, 11, 0, 0, 0], 0, 0, []) else none) else (bif Nat.blt pc 58 then (bif Nat.beq pc 57 then some (.iconst 1, 58, [], 1, 0, []) else none) else (bif Nat.beq pc 58 then some (.ireturn, 59, [0], 0, 0, []) else none)))))))
theorem okX10_tape : ∀ pc Y, pfX10_tape pc = some Y → OKI m_X10_tape pc Y := fun pc Y => ((bt_node (bt_node (bt_node (bt_node (bt_node (bt_leaf (P := OKI m_X10_tape) oX10_tape_0) (bt_leaf (P := OKI m_X10_tape) oX10_tape_1)) (bt_node (bt_leaf (P := OKI m_X10_tape) oX10_tape_2) (bt_leaf (P := OKI m_X10_tape) oX10_tape_5))) (bt_node (bt_node (bt_leaf (P := OKI m_X10_tape) oX10_tape_7) (bt_leaf (P := OKI m_X10_tape) oX10_tape_9)) (bt_node (bt_leaf (P := OKI m_X10_tape) oX10_tape_12) (bt_leaf (P := OKI m_X10_tape) oX10_tape_13)))) (bt_node (bt_node (bt_node (bt_leaf (P := OKI m_X10_tape) oX10_tape_14) (bt_leaf (P := OKI m_X10_tape) oX10_tape_15)) (bt_node (bt_leaf (P := OKI m_X10_tape) oX10_tape_16) (bt_leaf (P := OKI m_X10_tape) oX10_tape_17))) (bt_node (bt_node (bt_leaf (P := OKI m_X10_tape) oX10_tape_20) (bt_leaf (P := OKI m_X10_tape) oX10_tape_23)) (bt_node (bt_leaf (P := OKI m_X10_tape) oX10_tape_25) (bt_node (bt_leaf (P := OKI m_X10_tape) oX10_tape_26) (bt_leaf (P := OKI m_X10_tape) oX10_tape_27)))))) (bt_node (bt_node (bt_node (bt_node (bt_leaf (P := OKI m_X10_tape) oX10_tape_30) (bt_leaf (P := OKI m_X10_tape) oX10_tape_31)) (bt_node (bt_leaf (P := OKI m_X10_tape) oX10_tape_33) (bt_leaf (P := OKI m_X10_tape) oX10_tape_36))) (bt_node (bt_node (bt_leaf (P := OKI m_X10_tape) oX10_tape_38) (bt_leaf (P := OKI m_X10_tape) oX10_tape_39)) (bt_node (bt_leaf (P := OKI m_X10_tape) oX10_tape_40) (bt_leaf (P := OKI m_X10_tape) oX10_tape_43)))) (bt_node (bt_node (bt_node (bt_leaf (P := OKI m_X10_tape) oX10_tape_44) (bt_leaf (P := OKI m_X10_tape) oX10_tape_47)) (bt_node (bt_leaf (P := OKI m_X10_tape) oX10_tape_49) (bt_leaf (P := OKI m_X10_tape) oX10_tape_50))) (bt_node (bt_node (bt_leaf (P := OKI m_X10_tape) oX10_tape_52) (bt_leaf (P := OKI m_X10_tape) oX10_tape_53)) (bt_node (bt_leaf (P := OKI m_X10_tape) oX10_tape_54) (bt_node (bt_leaf (P := OKI m_X10_tape) oX10_tape_57) (bt_leaf (P := OKI m_X10_tape) oX10_tape_58))))))) : pfX10_tape pc = some Y → OKI m_X10_tape pc Y)
def stpX10_tape (pc : Nat) : Option (List Bool) := (bif Nat.blt pc 50 then (bif Nat.beq pc 39 then some [false, false, true, true, true] else none) else (bif Nat.beq pc 50 then some [false, false, true, true, true] else none))
def bX10_tape_0 (d rc rs : Nat) (a1 : Int32) (a2 : Int32) (a3 : Int32) (σ : XH) (Q : XV → XH → Prop) : Prop :=
  ((1 ≤ d ∧ Ec (d - 1) 0 0 m_X10_tapeAt [vR (some (11, 0)), vI a1] σ (kR fun x2 h1 => (((x2 : Option XO) = none → Q (vI (-1)) h1) ∧ (¬ (x2 : Option XO) = none → (1 ≤ d ∧ Ec (d - 1) 0 0 m_X10_within [vI a2, vI (-1), vI 3] h1 (kI fun x4 h3 => ((x4 = 0 → Q (vI (-2)) h3) ∧ (¬ x4 = 0 → ((a2 < 0 → Ex d rc rs m_X10_tape 39 [vU, vU, vI a2, vI a3, vR x2] [] h3 Q) ∧ (¬ a2 < 0 → ((60 < a3 → Q (vI (-2)) h3) ∧ (¬ 60 < a3 → Ex d rc rs m_X10_tape 39 [vU, vU, vI a2, vI a3, vR x2] [] h3 Q)))))))))))))
theorem sX10_tape_0 {d rc rs : Nat} {a1 : Int32} {a2 : Int32} {a3 : Int32} {σ : XH} {Q : XV → XH → Prop} (h : bX10_tape_0 d rc rs a1 a2 a3 σ Q) : Ex d rc rs m_X10_tape 0 [vR (some (11, 0)), vI a1, vI a2, vI a3, vU] [] σ Q :=
  xtree_sound (stop := stpX10_tape) okX10_tape 20 _ _ _ _ _ _ h
def bX10_tape_39 (d rc rs : Nat) (l2 : Int32) (l3 : Int32) (l4 : Option XO) (σ : XH) (Q : XV → XH → Prop) : Prop :=
  ((l2 < 0 → Ex d rc rs m_X10_tape 50 [vU, vU, vI l2, vI l3, vR l4] [] σ Q) ∧ (¬ l2 < 0 → ((l3 < 0 → Q (vI (-14)) σ) ∧ (¬ l3 < 0 → Ex d rc rs m_X10_tape 50 [vU, vU, vI l2, vI l3, vR l4] [] σ Q))))
theorem sX10_tape_39 {d rc rs : Nat} {l2 : Int32} {l3 : Int32} {l4 : Option XO} {σ : XH} {Q : XV → XH → Prop} (h : bX10_tape_39 d rc rs l2 l3 l4 σ Q) : Ex d rc rs m_X10_tape 39 [vU, vU, vI l2, vI l3, vR l4] [] σ Q :=
  xtree_sound (stop := stpX10_tape) okX10_tape 8 _ _ _ _ _ _ h
def bX10_tape_50 (d rc rs : Nat) (l2 : Int32) (l3 : Int32) (l4 : Option XO) (σ : XH) (Q : XV → XH → Prop) : Prop :=
  (drf l4 10 fun i2 => (1 ≤ d ∧ Ec (d - 1) 0 0 m_X9_become [vR (some (10, i2)), vI l2, vI l3] σ (kU fun h1 => Q (vI 1) h1)))
theorem sX10_tape_50 {d rc rs : Nat} {l2 : Int32} {l3 : Int32} {l4 : Option XO} {σ : XH} {Q : XV → XH → Prop} (h : bX10_tape_50 d rc rs l2 l3 l4 σ Q) : Ex d rc rs m_X10_tape 50 [vU, vU, vI l2, vI l3, vR l4] [] σ Q :=
  xtree_sound (stop := stpX10_tape) okX10_tape 8 _ _ _ _ _ _ h
/-! SpotTimers.item(III)I -/
theorem dX10_item_0 : decode cX10_item 0 = .ok (.aload_n 0, 1) := by decide +kernel
theorem dX10_item_1 : decode cX10_item 1 = .ok (.iload_n 1, 1) := by decide +kernel
theorem dX10_item_2 : decode cX10_item 2 = .ok (.invokevirtual 205, 3) := by decide +kernel
theorem dX10_item_5 : decode cX10_item 5 = .ok (.astore 4, 2) := by decide +kernel
theorem dX10_item_7 : decode cX10_item 7 = .ok (.aload 4, 2) := by decide +kernel
theorem dX10_item_9 : decode cX10_item 9 = .ok (.ifnonnull 5, 3) := by decide +kernel
theorem dX10_item_12 : decode cX10_item 12 = .ok (.iconst (-1), 1) := by decide +kernel
theorem dX10_item_13 : decode cX10_item 13 = .ok (.ireturn, 1) := by decide +kernel
theorem dX10_item_14 : decode cX10_item 14 = .ok (.aload 4, 2) := by decide +kernel
theorem dX10_item_16 : decode cX10_item 16 = .ok (.invokevirtual 209, 3) := by decide +kernel
theorem dX10_item_19 : decode cX10_item 19 = .ok (.ifCond .ne 6, 3) := by decide +kernel
theorem dX10_item_22 : decode cX10_item 22 = .ok (.bipush (-11), 2) := by decide +kernel
theorem dX10_item_24 : decode cX10_item 24 = .ok (.ireturn, 1) := by decide +kernel
theorem dX10_item_25 : decode cX10_item 25 = .ok (.aload 4, 2) := by decide +kernel
theorem dX10_item_27 : decode cX10_item 27 = .ok (.iload_n 2, 1) := by decide +kernel
theorem dX10_item_28 : decode cX10_item 28 = .ok (.invokevirtual 385, 3) := by decide +kernel
theorem dX10_item_31 : decode cX10_item 31 = .ok (.ifCond .ne 6, 3) := by decide +kernel
theorem dX10_item_34 : decode cX10_item 34 = .ok (.bipush (-13), 2) := by decide +kernel
theorem dX10_item_36 : decode cX10_item 36 = .ok (.ireturn, 1) := by decide +kernel
theorem dX10_item_37 : decode cX10_item 37 = .ok (.aload 4, 2) := by decide +kernel
theorem dX10_item_39 : decode cX10_item 39 = .ok (.getfield 212, 3) := by decide +kernel
theorem dX10_item_42 : decode cX10_item 42 = .ok (.iconst 3, 1) := by decide +kernel
theorem dX10_item_43 : decode cX10_item 43 = .ok (.if_icmp .ne 19, 3) := by decide +kernel
theorem dX10_item_46 : decode cX10_item 46 = .ok (.iload_n 3, 1) := by decide +kernel
theorem dX10_item_47 : decode cX10_item 47 = .ok (.ldc_w 388, 3) := by decide +kernel
theorem dX10_item_50 : decode cX10_item 50 = .ok (.ldc_w 389, 3) := by decide +kernel
theorem dX10_item_53 : decode cX10_item 53 = .ok (.invokestatic 84, 3) := by decide +kernel
theorem dX10_item_56 : decode cX10_item 56 = .ok (.ifCond .ne 6, 3) := by decide +kernel
theorem dX10_item_59 : decode cX10_item 59 = .ok (.bipush (-2), 2) := by decide +kernel
theorem dX10_item_61 : decode cX10_item 61 = .ok (.ireturn, 1) := by decide +kernel
theorem dX10_item_62 : decode cX10_item 62 = .ok (.aload 4, 2) := by decide +kernel
theorem dX10_item_64 : decode cX10_item 64 = .ok (.iload_n 2, 1) := by decide +kernel
theorem dX10_item_65 : decode cX10_item 65 = .ok (.iload_n 3, 1) := by decide +kernel
theorem dX10_item_66 : decode cX10_item 66 = .ok (.invokevirtual 390, 3) := by decide +kernel
theorem dX10_item_69 : decode cX10_item 69 = .ok (.iconst 1, 1) := by decide +kernel
theorem dX10_item_70 : decode cX10_item 70 = .ok (.ireturn, 1) := by decide +kernel
theorem oX10_item_0 : OKI 107 0 (.aload_n 0, 1, [0], 0, 0, []) := And.intro dX10_item_0 (And.intro rfl (rfl))
theorem oX10_item_1 : OKI 107 1 (.iload_n 1, 2, [1], 0, 0, []) := And.intro dX10_item_1 (And.intro rfl (rfl))
theorem oX10_item_2 : OKI 107 2 (.invokevirtual 205, 5, [123, 2, 12, 0, 0, 3], 0, 0, []) := And.intro dX10_item_2 (And.intro rfl (And.intro (by decide) (And.intro (by decide) (And.intro mo_X10_tapeAt (And.intro (tm_3 _ (List.mem_of_getElem? (i := 163) rfl) rfl) (And.intro (tm_3 _ (List.mem_of_getElem? (i := 165) rfl) rfl) (And.intro (pm_1 _ (List.mem_of_getElem? (i := 10) rfl)) (Or.inl ⟨(RX10, TX10, 15), rfl, rfl⟩))))))))
theorem oX10_item_5 : OKI 107 5 (.astore 4, 7, [4], 0, 0, []) := And.intro dX10_item_5 (And.intro rfl (And.intro rfl (by decide)))
theorem oX10_item_7 : OKI 107 7 (.aload 4, 9, [4], 0, 0, []) := And.intro dX10_item_7 (And.intro rfl (rfl))
theorem oX10_item_9 : OKI 107 9 (.ifnonnull 5, 12, [14], 0, 0, []) := And.intro dX10_item_9 (And.intro rfl (by decide))
theorem oX10_item_12 : OKI 107 12 (.iconst (-1), 13, [], (-1), 0, []) := And.intro dX10_item_12 (And.intro rfl (by decide +kernel))
theorem oX10_item_13 : OKI 107 13 (.ireturn, 14, [0], 0, 0, []) := And.intro dX10_item_13 (Or.inl (And.intro rfl rfl))
theorem oX10_item_14 : OKI 107 14 (.aload 4, 16, [4], 0, 0, []) := And.intro dX10_item_14 (And.intro rfl (rfl))
theorem oX10_item_16 : OKI 107 16 (.invokevirtual 209, 19, [63, 1, 11, 0, 0, 1], 0, 0, []) := And.intro dX10_item_16 (And.intro rfl (And.intro (by decide) (And.intro (by decide) (And.intro mo_X9_holdsRow (And.intro (tm_3 _ (List.mem_of_getElem? (i := 167) rfl) rfl) (And.intro (tm_3 _ (List.mem_of_getElem? (i := 168) rfl) rfl) (And.intro (tm_3 _ (List.mem_of_getElem? (i := 169) rfl) rfl) (Or.inl ⟨(RX9, TX9, 3), rfl, rfl⟩))))))))
theorem oX10_item_19 : OKI 107 19 (.ifCond .ne 6, 22, [25], 0, 0, []) := And.intro dX10_item_19 (And.intro rfl (by decide))
theorem oX10_item_22 : OKI 107 22 (.bipush (-11), 24, [], (-11), 0, []) := And.intro dX10_item_22 (And.intro rfl (by decide +kernel))
theorem oX10_item_24 : OKI 107 24 (.ireturn, 25, [0], 0, 0, []) := And.intro dX10_item_24 (Or.inl (And.intro rfl rfl))
theorem oX10_item_25 : OKI 107 25 (.aload 4, 27, [4], 0, 0, []) := And.intro dX10_item_25 (And.intro rfl (rfl))
theorem oX10_item_27 : OKI 107 27 (.iload_n 2, 28, [2], 0, 0, []) := And.intro dX10_item_27 (And.intro rfl (rfl))
theorem oX10_item_28 : OKI 107 28 (.invokevirtual 385, 31, [64, 2, 11, 0, 0, 1], 0, 0, []) := And.intro dX10_item_28 (And.intro rfl (And.intro (by decide) (And.intro (by decide) (And.intro mo_X9_hasPlace (And.intro (tm_5 _ (List.mem_of_getElem? (i := 172) rfl) rfl) (And.intro (tm_5 _ (List.mem_of_getElem? (i := 173) rfl) rfl) (And.intro (tm_5 _ (List.mem_of_getElem? (i := 174) rfl) rfl) (Or.inl ⟨(RX9, TX9, 3), rfl, rfl⟩))))))))
theorem oX10_item_31 : OKI 107 31 (.ifCond .ne 6, 34, [37], 0, 0, []) := And.intro dX10_item_31 (And.intro rfl (by decide))
theorem oX10_item_34 : OKI 107 34 (.bipush (-13), 36, [], (-13), 0, []) := And.intro dX10_item_34 (And.intro rfl (by decide +kernel))
theorem oX10_item_36 : OKI 107 36 (.ireturn, 37, [0], 0, 0, []) := And.intro dX10_item_36 (Or.inl (And.intro rfl rfl))
theorem oX10_item_37 : OKI 107 37 (.aload 4, 39, [4], 0, 0, []) := And.intro dX10_item_37 (And.intro rfl (rfl))
theorem oX10_item_39 : OKI 107 39 (.getfield 212, 42, [10, 1, 0], 0, 0, []) := And.intro dX10_item_39 (And.intro rfl (⟨(RX9, TX9, 3), "SpotTimers$Tape", rfl, by decide, tm_1 _ (List.mem_of_getElem? (i := 220) rfl) rfl, Or.inl rfl, Or.inr (Or.inr (And.intro rfl (Or.inl rfl)))⟩))
theorem oX10_item_42 : OKI 107 42 (.iconst 3, 43, [], 3, 0, []) := And.intro dX10_item_42 (And.intro rfl (by decide +kernel))
theorem oX10_item_43 : OKI 107 43 (.if_icmp .ne 19, 46, [62], 0, 0, []) := And.intro dX10_item_43 (And.intro rfl (by decide))
theorem oX10_item_46 : OKI 107 46 (.iload_n 3, 47, [3], 0, 0, []) := And.intro dX10_item_46 (And.intro rfl (rfl))
theorem oX10_item_47 : OKI 107 47 (.ldc_w 388, 50, [], (-8000000), 0, []) := And.intro dX10_item_47 (And.intro rfl (tm_5 _ (List.mem_of_getElem? (i := 176) rfl) rfl))
theorem oX10_item_50 : OKI 107 50 (.ldc_w 389, 53, [], 8000000, 0, []) := And.intro dX10_item_50 (And.intro rfl (tm_5 _ (List.mem_of_getElem? (i := 177) rfl) rfl))
theorem oX10_item_53 : OKI 107 53 (.invokestatic 84, 56, [111, 3, 0, 0, 0, 1], 0, 0, []) := And.intro dX10_item_53 (And.intro rfl (And.intro rfl (And.intro mo_X10_within (And.intro (Or.inl (tm_2 _ (List.mem_of_getElem? (i := 40) rfl) rfl)) (tm_2 _ (List.mem_of_getElem? (i := 41) rfl) rfl)))))
theorem oX10_item_56 : OKI 107 56 (.ifCond .ne 6, 59, [62], 0, 0, []) := And.intro dX10_item_56 (And.intro rfl (by decide))
theorem oX10_item_59 : OKI 107 59 (.bipush (-2), 61, [], (-2), 0, []) := And.intro dX10_item_59 (And.intro rfl (by decide +kernel))
theorem oX10_item_61 : OKI 107 61 (.ireturn, 62, [0], 0, 0, []) := And.intro dX10_item_61 (Or.inl (And.intro rfl rfl))
theorem oX10_item_62 : OKI 107 62 (.aload 4, 64, [4], 0, 0, []) := And.intro dX10_item_62 (And.intro rfl (rfl))
theorem oX10_item_64 : OKI 107 64 (.iload_n 2, 65, [2], 0, 0, []) := And.intro dX10_item_64 (And.intro rfl (rfl))
theorem oX10_item_65 : OKI 107 65 (.iload_n 3, 66, [3], 0, 0, []) := And.intro dX10_item_65 (And.intro rfl (rfl))
theorem oX10_item_66 : OKI 107 66 (.invokevirtual 390, 69, [66, 3, 11, 0, 0, 0], 0, 0, []) := And.intro dX10_item_66 (And.intro rfl (And.intro (by decide) (And.intro (by decide) (And.intro mo_X9_put (And.intro (tm_5 _ (List.mem_of_getElem? (i := 178) rfl) rfl) (And.intro (tm_5 _ (List.mem_of_getElem? (i := 179) rfl) rfl) (And.intro (tm_5 _ (List.mem_of_getElem? (i := 180) rfl) rfl) (Or.inl ⟨(RX9, TX9, 3), rfl, rfl⟩))))))))
theorem oX10_item_69 : OKI 107 69 (.iconst 1, 70, [], 1, 0, []) := And.intro dX10_item_69 (And.intro rfl (by decide +kernel))
theorem oX10_item_70 : OKI 107 70 (.ireturn, 71, [0], 0, 0, []) := And.intro dX10_item_70 (Or.inl (And.intro rfl rfl))
def pfX10_item (pc : Nat) : Option XE := (bif Nat.blt pc 36 then (bif Nat.blt pc 16 then (bif Nat.blt pc 7 then (bif Nat.blt pc 2 then (bif Nat.blt pc 1 then (bif Nat.beq pc 0 then some (.aload_n 0, 1, [0], 0, 0, []) else none) else (bif Nat.beq pc 1 then some (.iload_n 1, 2, [1], 0, 0, []) else none)) else (bif Nat.blt pc 5 then (bif Nat.beq pc 2 then some (.invokevirtual 205, 5, [123, 2, 12, 0, 0, 3], 0, 0, []) else none) else (bif Nat.beq pc 5 then some (.astore 4, 7, [4], 0, 0, []) else none))) else (bif Nat.blt pc 12 then (bif Nat.blt pc 9 then (bif Nat.beq pc 7 then some (.aload 4, 9, [4], 0, 0, []) else none) else (bif Nat.beq pc 9 then some (.ifnonnull 5, 12, [14], 0, 0, []) else none)) else (bif Nat.blt pc 13 then (bif Nat.beq pc 12 then some (.iconst (-1), 13, [], (-1), 0, []) else none) else (bif Nat.blt pc 14 then (bif Nat.beq pc 13 then some (.ireturn, 14, [0], 0, 0, []) else none) else (bif Nat.beq pc 14 then some (.aload 4, 16, [4], 0, 0, []) else none))))) else (bif Nat.blt pc 25 then (bif Nat.blt pc 22 then (bif Nat.blt pc 19 then (bif Nat.beq pc 16 then some (.invokevirtual 209, 19, [63, 1, 11, 0, 0, 1], 0, 0, []) else none) else (bif Nat.beq pc 19 then some (.ifCond .ne 6, 22, [25], 0, 0, []) else none)) else (bif Nat.blt pc 24 then (bif Nat.beq pc 22 then some (.bipush (-11), 24, [], (-11), 0, []) else none) else (bif Nat.beq pc 24 then some (.ireturn, 25, [0], 0, 0, []) else none))) else (bif Nat.blt pc 28 then (bif Nat.blt pc 27 then (bif Nat.beq pc 25 then some (.aload 4, 27, [4], 0, 0, []) else none) else (bif Nat.beq pc 27 then some (.iload_n 2, 28, [2], 0, 0, []) else none)) else (bif Nat.blt pc 31 then (bif Nat.beq pc 28 then some (.invokevirtual 385, 31, [64, 2, 11, 0, 0, 1], 0, 0, []) else none) else (bif Nat.blt pc 34 then (bif Nat.beq pc 31 then some (.ifCond .ne 6, 34, [37], 0, 0, []) else none) else (bif Nat.beq pc 34 then some (.bipush (-13), 36, [], (-13), 0, []) else none)))))) else (bif Nat.blt pc 56 then (bif Nat.blt pc 43 then (bif Nat.blt pc 39 then (bif Nat.blt pc 37 then (bif Nat.beq pc 36 then some (.ireturn, 37, [0], 0, 0, []) else none) else (bif Nat.beq pc 37 then some (.aload 4, 39, [4], 0, 0, []) else none)) else (bif Nat.blt pc 42 then (bif Nat.beq pc 39 then some (.getfield 212, 42, [10, 1, 0], 0, 0, []) else none) else (bif Nat.beq pc 42 then some (.iconst 3, 43, [], 3, 0, []) else none))) else (bif Nat.blt pc 47 then (bif Nat.blt pc 46 then (bif Nat.beq pc 43 then some (.if_icmp .ne 19, 46, [62], 0, 0, []) else none) else (bif Nat.beq pc 46 then some (.iload_n 3, 47, [3], 0, 0, []) else none)) else (bif Nat.blt pc 50 then (bif Nat.beq pc 47 then some (.ldc_w 388, 50, [], (-8000000), 0, []) else none) else (bif Nat.blt pc 53 then (bif Nat.beq pc 50 then some (.ldc_w 389, 53, [], 8000000, 0, []) else none) else (bif Nat.beq pc 53 then some (.invokestatic 84, 56, [111, 3, 0, 0, 0, 1], 0, 0, []) else none))))) else (bif Nat.blt pc 64 then (bif Nat.blt pc 61 then (bif Nat.blt pc 59 then (bif Nat.beq pc 56 then some (.ifCond .ne 6, 59, [62], 0, 0, []) else none) else (bif Nat.beq pc 59 then some (.bipush (-2), 61, [], (-2), 0, []) else none)) else (bif Nat.blt pc 62 then (bif Nat.beq pc 61 then some (.ireturn, 62, [0], 0, 0, []) else none) else (bif Nat.beq pc 62 then some (.aload 4, 64, [4], 0, 0, []) else none))) else (bif Nat.blt pc 66 then (bif Nat.blt pc 65 then (bif Nat.beq pc 64 then some (.iload_n 2, 65, [2], 0, 0, []) else none) else (bif Nat.beq pc 65 then some (.iload_n 3, 66, [3], 0, 0, []) else none)) else (bif Nat.blt pc 69 then (bif Nat.beq pc 66 then some (.invokevirtual 390, 69, [66, 3, 11, 0, 0, 0], 0, 0, []) else none) else (bif Nat.blt pc 70 then (bif Nat.beq pc 69 then some (.iconst 1, 70, [], 1, 0, []) else none) else (bif Nat.beq pc 70 then some (.ireturn, 71, [0], 0, 0, []) else none)))))))
theorem okX10_item : ∀ pc Y, pfX10_item pc = some Y → OKI m_X10_item pc Y := fun pc Y => ((bt_node (bt_node (bt_node (bt_node (bt_node (bt_leaf (P := OKI m_X10_item) oX10_item_0) (bt_leaf (P := OKI m_X10_item) oX10_item_1)) (bt_node (bt_leaf (P := OKI m_X10_item) oX10_item_2) (bt_leaf (P := OKI m_X10_item) oX10_item_5))) (bt_node (bt_node (bt_leaf (P := OKI m_X10_item) oX10_item_7) (bt_leaf (P := OKI m_X10_item) oX10_item_9)) (bt_node (bt_leaf (P := OKI m_X10_item) oX10_item_12) (bt_node (bt_leaf (P := OKI m_X10_item) oX10_item_13) (bt_leaf (P := OKI m_X10_item) oX10_item_14))))) (bt_node (bt_node (bt_node (bt_leaf (P := OKI m_X10_item) oX10_item_16) (bt_leaf (P := OKI m_X10_item) oX10_item_19)) (bt_node (bt_leaf (P := OKI m_X10_item) oX10_item_22) (bt_leaf (P := OKI m_X10_item) oX10_item_24))) (bt_node (bt_node (bt_leaf (P := OKI m_X10_item) oX10_item_25) (bt_leaf (P := OKI m_X10_item) oX10_item_27)) (bt_node (bt_leaf (P := OKI m_X10_item) oX10_item_28) (bt_node (bt_leaf (P := OKI m_X10_item) oX10_item_31) (bt_leaf (P := OKI m_X10_item) oX10_item_34)))))) (bt_node (bt_node (bt_node (bt_node (bt_leaf (P := OKI m_X10_item) oX10_item_36) (bt_leaf (P := OKI m_X10_item) oX10_item_37)) (bt_node (bt_leaf (P := OKI m_X10_item) oX10_item_39) (bt_leaf (P := OKI m_X10_item) oX10_item_42))) (bt_node (bt_node (bt_leaf (P := OKI m_X10_item) oX10_item_43) (bt_leaf (P := OKI m_X10_item) oX10_item_46)) (bt_node (bt_leaf (P := OKI m_X10_item) oX10_item_47) (bt_node (bt_leaf (P := OKI m_X10_item) oX10_item_50) (bt_leaf (P := OKI m_X10_item) oX10_item_53))))) (bt_node (bt_node (bt_node (bt_leaf (P := OKI m_X10_item) oX10_item_56) (bt_leaf (P := OKI m_X10_item) oX10_item_59)) (bt_node (bt_leaf (P := OKI m_X10_item) oX10_item_61) (bt_leaf (P := OKI m_X10_item) oX10_item_62))) (bt_node (bt_node (bt_leaf (P := OKI m_X10_item) oX10_item_64) (bt_leaf (P := OKI m_X10_item) oX10_item_65)) (bt_node (bt_leaf (P := OKI m_X10_item) oX10_item_66) (bt_node (bt_leaf (P := OKI m_X10_item) oX10_item_69) (bt_leaf (P := OKI m_X10_item) oX10_item_70))))))) : pfX10_item pc = some Y → OKI m_X10_item pc Y)
def stpX10_item (pc : Nat) : Option (List Bool) := (bif Nat.blt pc 62 then (bif Nat.beq pc 59 then some [false, false, false, false, false] else none) else (bif Nat.beq pc 62 then some [false, false, true, true, true] else none))
def bX10_item_0 (d rc rs : Nat) (a1 : Int32) (a2 : Int32) (a3 : Int32) (σ : XH) (Q : XV → XH → Prop) : Prop :=
  ((1 ≤ d ∧ Ec (d - 1) 0 0 m_X10_tapeAt [vR (some (11, 0)), vI a1] σ (kR fun x2 h1 => (((x2 : Option XO) = none → Q (vI (-1)) h1) ∧ (¬ (x2 : Option XO) = none → (drf x2 10 fun i11 => (1 ≤ d ∧ Ec (d - 1) 0 0 m_X9_holdsRow [vR (some (10, i11))] h1 (kI fun x4 h3 => ((x4 = 0 → Q (vI (-11)) h3) ∧ (¬ x4 = 0 → (drf x2 10 fun i10 => (1 ≤ d ∧ Ec (d - 1) 0 0 m_X9_hasPlace [vR (some (10, i10)), vI a2] h3 (kI fun x6 h5 => ((x6 = 0 → Q (vI (-13)) h5) ∧ (¬ x6 = 0 → (drf x2 10 fun i7 => (((hi h5 10 i7 1) = 3 → (1 ≤ d ∧ Ec (d - 1) 0 0 m_X10_within [vI a3, vI (-8000000), vI 8000000] h5 (kI fun x9 h8 => ((x9 = 0 → Ex d rc rs m_X10_item 59 [vU, vU, vU, vU, vU] [] h8 Q) ∧ (¬ x9 = 0 → Ex d rc rs m_X10_item 62 [vU, vU, vI a2, vI a3, vR x2] [] h8 Q))))) ∧ (¬ (hi h5 10 i7 1) = 3 → Ex d rc rs m_X10_item 62 [vU, vU, vI a2, vI a3, vR x2] [] h5 Q))))))))))))))))))
theorem sX10_item_0 {d rc rs : Nat} {a1 : Int32} {a2 : Int32} {a3 : Int32} {σ : XH} {Q : XV → XH → Prop} (h : bX10_item_0 d rc rs a1 a2 a3 σ Q) : Ex d rc rs m_X10_item 0 [vR (some (11, 0)), vI a1, vI a2, vI a3, vU] [] σ Q :=
  xtree_sound (stop := stpX10_item) okX10_item 24 _ _ _ _ _ _ h
def bX10_item_59 (d rc rs : Nat)  (σ : XH) (Q : XV → XH → Prop) : Prop :=
  Q (vI (-2)) σ
theorem sX10_item_59 {d rc rs : Nat}  {σ : XH} {Q : XV → XH → Prop} (h : bX10_item_59 d rc rs  σ Q) : Ex d rc rs m_X10_item 59 [vU, vU, vU, vU, vU] [] σ Q :=
  xtree_sound (stop := stpX10_item) okX10_item 4 _ _ _ _ _ _ h
def bX10_item_62 (d rc rs : Nat) (l2 : Int32) (l3 : Int32) (l4 : Option XO) (σ : XH) (Q : XV → XH → Prop) : Prop :=
  (drf l4 10 fun i2 => (1 ≤ d ∧ Ec (d - 1) 0 0 m_X9_put [vR (some (10, i2)), vI l2, vI l3] σ (kU fun h1 => Q (vI 1) h1)))
theorem sX10_item_62 {d rc rs : Nat} {l2 : Int32} {l3 : Int32} {l4 : Option XO} {σ : XH} {Q : XV → XH → Prop} (h : bX10_item_62 d rc rs l2 l3 l4 σ Q) : Ex d rc rs m_X10_item 62 [vU, vU, vI l2, vI l3, vR l4] [] σ Q :=
  xtree_sound (stop := stpX10_item) okX10_item 8 _ _ _ _ _ _ h
/-! SpotTimers.blank(II)I -/
theorem dX10_blank_0 : decode cX10_blank 0 = .ok (.aload_n 0, 1) := by decide +kernel
theorem dX10_blank_1 : decode cX10_blank 1 = .ok (.iload_n 1, 1) := by decide +kernel
theorem dX10_blank_2 : decode cX10_blank 2 = .ok (.invokevirtual 205, 3) := by decide +kernel
theorem dX10_blank_5 : decode cX10_blank 5 = .ok (.astore_n 3, 1) := by decide +kernel
theorem dX10_blank_6 : decode cX10_blank 6 = .ok (.aload_n 3, 1) := by decide +kernel
theorem dX10_blank_7 : decode cX10_blank 7 = .ok (.ifnonnull 5, 3) := by decide +kernel
theorem dX10_blank_10 : decode cX10_blank 10 = .ok (.iconst (-1), 1) := by decide +kernel
theorem dX10_blank_11 : decode cX10_blank 11 = .ok (.ireturn, 1) := by decide +kernel
theorem dX10_blank_12 : decode cX10_blank 12 = .ok (.aload_n 3, 1) := by decide +kernel
theorem dX10_blank_13 : decode cX10_blank 13 = .ok (.invokevirtual 209, 3) := by decide +kernel
theorem dX10_blank_16 : decode cX10_blank 16 = .ok (.ifCond .ne 6, 3) := by decide +kernel
theorem dX10_blank_19 : decode cX10_blank 19 = .ok (.bipush (-11), 2) := by decide +kernel
theorem dX10_blank_21 : decode cX10_blank 21 = .ok (.ireturn, 1) := by decide +kernel
theorem dX10_blank_22 : decode cX10_blank 22 = .ok (.aload_n 3, 1) := by decide +kernel
theorem dX10_blank_23 : decode cX10_blank 23 = .ok (.getfield 212, 3) := by decide +kernel
theorem dX10_blank_26 : decode cX10_blank 26 = .ok (.iconst 3, 1) := by decide +kernel
theorem dX10_blank_27 : decode cX10_blank 27 = .ok (.if_icmp .eq 6, 3) := by decide +kernel
theorem dX10_blank_30 : decode cX10_blank 30 = .ok (.bipush (-12), 2) := by decide +kernel
theorem dX10_blank_32 : decode cX10_blank 32 = .ok (.ireturn, 1) := by decide +kernel
theorem dX10_blank_33 : decode cX10_blank 33 = .ok (.aload_n 3, 1) := by decide +kernel
theorem dX10_blank_34 : decode cX10_blank 34 = .ok (.iload_n 2, 1) := by decide +kernel
theorem dX10_blank_35 : decode cX10_blank 35 = .ok (.invokevirtual 385, 3) := by decide +kernel
theorem dX10_blank_38 : decode cX10_blank 38 = .ok (.ifCond .ne 6, 3) := by decide +kernel
theorem dX10_blank_41 : decode cX10_blank 41 = .ok (.bipush (-13), 2) := by decide +kernel
theorem dX10_blank_43 : decode cX10_blank 43 = .ok (.ireturn, 1) := by decide +kernel
theorem dX10_blank_44 : decode cX10_blank 44 = .ok (.aload_n 3, 1) := by decide +kernel
theorem dX10_blank_45 : decode cX10_blank 45 = .ok (.iload_n 2, 1) := by decide +kernel
theorem dX10_blank_46 : decode cX10_blank 46 = .ok (.ldc_w 393, 3) := by decide +kernel
theorem dX10_blank_49 : decode cX10_blank 49 = .ok (.invokevirtual 390, 3) := by decide +kernel
theorem dX10_blank_52 : decode cX10_blank 52 = .ok (.iconst 1, 1) := by decide +kernel
theorem dX10_blank_53 : decode cX10_blank 53 = .ok (.ireturn, 1) := by decide +kernel
theorem oX10_blank_0 : OKI 108 0 (.aload_n 0, 1, [0], 0, 0, []) := And.intro dX10_blank_0 (And.intro rfl (rfl))
theorem oX10_blank_1 : OKI 108 1 (.iload_n 1, 2, [1], 0, 0, []) := And.intro dX10_blank_1 (And.intro rfl (rfl))
theorem oX10_blank_2 : OKI 108 2 (.invokevirtual 205, 5, [123, 2, 12, 0, 0, 3], 0, 0, []) := And.intro dX10_blank_2 (And.intro rfl (And.intro (by decide) (And.intro (by decide) (And.intro mo_X10_tapeAt (And.intro (tm_3 _ (List.mem_of_getElem? (i := 163) rfl) rfl) (And.intro (tm_3 _ (List.mem_of_getElem? (i := 165) rfl) rfl) (And.intro (pm_1 _ (List.mem_of_getElem? (i := 10) rfl)) (Or.inl ⟨(RX10, TX10, 15), rfl, rfl⟩))))))))
theorem oX10_blank_5 : OKI 108 5 (.astore_n 3, 6, [3], 0, 0, []) := And.intro dX10_blank_5 (And.intro rfl (And.intro rfl (by decide)))
theorem oX10_blank_6 : OKI 108 6 (.aload_n 3, 7, [3], 0, 0, []) := And.intro dX10_blank_6 (And.intro rfl (rfl))
theorem oX10_blank_7 : OKI 108 7 (.ifnonnull 5, 10, [12], 0, 0, []) := And.intro dX10_blank_7 (And.intro rfl (by decide))
theorem oX10_blank_10 : OKI 108 10 (.iconst (-1), 11, [], (-1), 0, []) := And.intro dX10_blank_10 (And.intro rfl (by decide +kernel))
theorem oX10_blank_11 : OKI 108 11 (.ireturn, 12, [0], 0, 0, []) := And.intro dX10_blank_11 (Or.inl (And.intro rfl rfl))
theorem oX10_blank_12 : OKI 108 12 (.aload_n 3, 13, [3], 0, 0, []) := And.intro dX10_blank_12 (And.intro rfl (rfl))
theorem oX10_blank_13 : OKI 108 13 (.invokevirtual 209, 16, [63, 1, 11, 0, 0, 1], 0, 0, []) := And.intro dX10_blank_13 (And.intro rfl (And.intro (by decide) (And.intro (by decide) (And.intro mo_X9_holdsRow (And.intro (tm_3 _ (List.mem_of_getElem? (i := 167) rfl) rfl) (And.intro (tm_3 _ (List.mem_of_getElem? (i := 168) rfl) rfl) (And.intro (tm_3 _ (List.mem_of_getElem? (i := 169) rfl) rfl) (Or.inl ⟨(RX9, TX9, 3), rfl, rfl⟩))))))))
theorem oX10_blank_16 : OKI 108 16 (.ifCond .ne 6, 19, [22], 0, 0, []) := And.intro dX10_blank_16 (And.intro rfl (by decide))
theorem oX10_blank_19 : OKI 108 19 (.bipush (-11), 21, [], (-11), 0, []) := And.intro dX10_blank_19 (And.intro rfl (by decide +kernel))
theorem oX10_blank_21 : OKI 108 21 (.ireturn, 22, [0], 0, 0, []) := And.intro dX10_blank_21 (Or.inl (And.intro rfl rfl))
theorem oX10_blank_22 : OKI 108 22 (.aload_n 3, 23, [3], 0, 0, []) := And.intro dX10_blank_22 (And.intro rfl (rfl))
theorem oX10_blank_23 : OKI 108 23 (.getfield 212, 26, [10, 1, 0], 0, 0, []) := And.intro dX10_blank_23 (And.intro rfl (⟨(RX9, TX9, 3), "SpotTimers$Tape", rfl, by decide, tm_1 _ (List.mem_of_getElem? (i := 220) rfl) rfl, Or.inl rfl, Or.inr (Or.inr (And.intro rfl (Or.inl rfl)))⟩))
theorem oX10_blank_26 : OKI 108 26 (.iconst 3, 27, [], 3, 0, []) := And.intro dX10_blank_26 (And.intro rfl (by decide +kernel))
theorem oX10_blank_27 : OKI 108 27 (.if_icmp .eq 6, 30, [33], 0, 0, []) := And.intro dX10_blank_27 (And.intro rfl (by decide))
theorem oX10_blank_30 : OKI 108 30 (.bipush (-12), 32, [], (-12), 0, []) := And.intro dX10_blank_30 (And.intro rfl (by decide +kernel))
theorem oX10_blank_32 : OKI 108 32 (.ireturn, 33, [0], 0, 0, []) := And.intro dX10_blank_32 (Or.inl (And.intro rfl rfl))
theorem oX10_blank_33 : OKI 108 33 (.aload_n 3, 34, [3], 0, 0, []) := And.intro dX10_blank_33 (And.intro rfl (rfl))
theorem oX10_blank_34 : OKI 108 34 (.iload_n 2, 35, [2], 0, 0, []) := And.intro dX10_blank_34 (And.intro rfl (rfl))
theorem oX10_blank_35 : OKI 108 35 (.invokevirtual 385, 38, [64, 2, 11, 0, 0, 1], 0, 0, []) := And.intro dX10_blank_35 (And.intro rfl (And.intro (by decide) (And.intro (by decide) (And.intro mo_X9_hasPlace (And.intro (tm_5 _ (List.mem_of_getElem? (i := 172) rfl) rfl) (And.intro (tm_5 _ (List.mem_of_getElem? (i := 173) rfl) rfl) (And.intro (tm_5 _ (List.mem_of_getElem? (i := 174) rfl) rfl) (Or.inl ⟨(RX9, TX9, 3), rfl, rfl⟩))))))))
theorem oX10_blank_38 : OKI 108 38 (.ifCond .ne 6, 41, [44], 0, 0, []) := And.intro dX10_blank_38 (And.intro rfl (by decide))
theorem oX10_blank_41 : OKI 108 41 (.bipush (-13), 43, [], (-13), 0, []) := And.intro dX10_blank_41 (And.intro rfl (by decide +kernel))
theorem oX10_blank_43 : OKI 108 43 (.ireturn, 44, [0], 0, 0, []) := And.intro dX10_blank_43 (Or.inl (And.intro rfl rfl))
theorem oX10_blank_44 : OKI 108 44 (.aload_n 3, 45, [3], 0, 0, []) := And.intro dX10_blank_44 (And.intro rfl (rfl))
theorem oX10_blank_45 : OKI 108 45 (.iload_n 2, 46, [2], 0, 0, []) := And.intro dX10_blank_45 (And.intro rfl (rfl))
theorem oX10_blank_46 : OKI 108 46 (.ldc_w 393, 49, [], 999999999, 0, []) := And.intro dX10_blank_46 (And.intro rfl (tm_3 _ (List.mem_of_getElem? (i := 175) rfl) rfl))
theorem oX10_blank_49 : OKI 108 49 (.invokevirtual 390, 52, [66, 3, 11, 0, 0, 0], 0, 0, []) := And.intro dX10_blank_49 (And.intro rfl (And.intro (by decide) (And.intro (by decide) (And.intro mo_X9_put (And.intro (tm_5 _ (List.mem_of_getElem? (i := 178) rfl) rfl) (And.intro (tm_5 _ (List.mem_of_getElem? (i := 179) rfl) rfl) (And.intro (tm_5 _ (List.mem_of_getElem? (i := 180) rfl) rfl) (Or.inl ⟨(RX9, TX9, 3), rfl, rfl⟩))))))))
theorem oX10_blank_52 : OKI 108 52 (.iconst 1, 53, [], 1, 0, []) := And.intro dX10_blank_52 (And.intro rfl (by decide +kernel))
theorem oX10_blank_53 : OKI 108 53 (.ireturn, 54, [0], 0, 0, []) := And.intro dX10_blank_53 (Or.inl (And.intro rfl rfl))
def pfX10_blank (pc : Nat) : Option XE := (bif Nat.blt pc 26 then (bif Nat.blt pc 11 then (bif Nat.blt pc 5 then (bif Nat.blt pc 1 then (bif Nat.beq pc 0 then some (.aload_n 0, 1, [0], 0, 0, []) else none) else (bif Nat.blt pc 2 then (bif Nat.beq pc 1 then some (.iload_n 1, 2, [1], 0, 0, []) else none) else (bif Nat.beq pc 2 then some (.invokevirtual 205, 5, [123, 2, 12, 0, 0, 3], 0, 0, []) else none))) else (bif Nat.blt pc 7 then (bif Nat.blt pc 6 then (bif Nat.beq pc 5 then some (.astore_n 3, 6, [3], 0, 0, []) else none) else (bif Nat.beq pc 6 then some (.aload_n 3, 7, [3], 0, 0, []) else none)) else (bif Nat.blt pc 10 then (bif Nat.beq pc 7 then some (.ifnonnull 5, 10, [12], 0, 0, []) else none) else (bif Nat.beq pc 10 then some (.iconst (-1), 11, [], (-1), 0, []) else none)))) else (bif Nat.blt pc 19 then (bif Nat.blt pc 13 then (bif Nat.blt pc 12 then (bif Nat.beq pc 11 then some (.ireturn, 12, [0], 0, 0, []) else none) else (bif Nat.beq pc 12 then some (.aload_n 3, 13, [3], 0, 0, []) else none)) else (bif Nat.blt pc 16 then (bif Nat.beq pc 13 then some (.invokevirtual 209, 16, [63, 1, 11, 0, 0, 1], 0, 0, []) else none) else (bif Nat.beq pc 16 then some (.ifCond .ne 6, 19, [22], 0, 0, []) else none))) else (bif Nat.blt pc 22 then (bif Nat.blt pc 21 then (bif Nat.beq pc 19 then some (.bipush (-11), 21, [], (-11), 0, []) else none) else (bif Nat.beq pc 21 then some (.ireturn, 22, [0], 0, 0, []) else none)) else (bif Nat.blt pc 23 then (bif Nat.beq pc 22 then some (.aload_n 3, 23, [3], 0, 0, []) else none) else (bif Nat.beq pc 23 then some (.getfield 212, 26, [10, 1, 0], 0, 0, []) else none))))) else (bif Nat.blt pc 41 then (bif Nat.blt pc 33 then (bif Nat.blt pc 30 then (bif Nat.blt pc 27 then (bif Nat.beq pc 26 then some (.iconst 3, 27, [], 3, 0, []) else none) else (bif Nat.beq pc 27 then some (.if_icmp .eq 6, 30, [33], 0, 0, []) else none)) else (bif Nat.blt pc 32 then (bif Nat.beq pc 30 then some (.bipush (-12), 32, [], (-12), 0, []) else none) else (bif Nat.beq pc 32 then some (.ireturn, 33, [0], 0, 0, []) else none))) else (bif Nat.blt pc 35 then (bif Nat.blt pc 34 then (bif Nat.beq pc 33 then some (.aload_n 3, 34, [3], 0, 0, []) else none) else (bif Nat.beq pc 34 then some (.iload_n 2, 35, [2], 0, 0, []) else none)) else (bif Nat.blt pc 38 then (bif Nat.beq pc 35 then some (.invokevirtual 385, 38, [64, 2, 11, 0, 0, 1], 0, 0, []) else none) else (bif Nat.beq pc 38 then some (.ifCond .ne 6, 41, [44], 0, 0, []) else none)))) else (bif Nat.blt pc 46 then (bif Nat.blt pc 44 then (bif Nat.blt pc 43 then (bif Nat.beq pc 41 then some (.bipush (-13), 43, [], (-13), 0, []) else none) else (bif Nat.beq pc 43 then some (.ireturn, 44, [0], 0, 0, []) else none)) else (bif Nat.blt pc 45 then (bif Nat.beq pc 44 then some (.aload_n 3, 45, [3], 0, 0, []) else none) else (bif Nat.beq pc 45 then some (.iload_n 2, 46, [2], 0, 0, []) else none))) else (bif Nat.blt pc 52 then (bif Nat.blt pc 49 then (bif Nat.beq pc 46 then some (.ldc_w 393, 49, [], 999999999, 0, []) else none) else (bif Nat.beq pc 49 then some (.invokevirtual 390, 52, [66, 3, 11, 0, 0, 0], 0, 0, []) else none)) else (bif Nat.blt pc 53 then (bif Nat.beq pc 52 then some (.iconst 1, 53, [], 1, 0, []) else none) else (bif Nat.beq pc 53 then some (.ireturn, 54, [0], 0, 0, []) else none))))))
theorem okX10_blank : ∀ pc Y, pfX10_blank pc = some Y → OKI m_X10_blank pc Y := fun pc Y => ((bt_node (bt_node (bt_node (bt_node (bt_leaf (P := OKI m_X10_blank) oX10_blank_0) (bt_node (bt_leaf (P := OKI m_X10_blank) oX10_blank_1) (bt_leaf (P := OKI m_X10_blank) oX10_blank_2))) (bt_node (bt_node (bt_leaf (P := OKI m_X10_blank) oX10_blank_5) (bt_leaf (P := OKI m_X10_blank) oX10_blank_6)) (bt_node (bt_leaf (P := OKI m_X10_blank) oX10_blank_7) (bt_leaf (P := OKI m_X10_blank) oX10_blank_10)))) (bt_node (bt_node (bt_node (bt_leaf (P := OKI m_X10_blank) oX10_blank_11) (bt_leaf (P := OKI m_X10_blank) oX10_blank_12)) (bt_node (bt_leaf (P := OKI m_X10_blank) oX10_blank_13) (bt_leaf (P := OKI m_X10_blank) oX10_blank_16))) (bt_node (bt_node (bt_leaf (P := OKI m_X10_blank) oX10_blank_19) (bt_leaf (P := OKI m_X10_blank) oX10_blank_21)) (bt_node (bt_leaf (P := OKI m_X10_blank) oX10_blank_22) (bt_leaf (P := OKI m_X10_blank) oX10_blank_23))))) (bt_node (bt_node (bt_node (bt_node (bt_leaf (P := OKI m_X10_blank) oX10_blank_26) (bt_leaf (P := OKI m_X10_blank) oX10_blank_27)) (bt_node (bt_leaf (P := OKI m_X10_blank) oX10_blank_30) (bt_leaf (P := OKI m_X10_blank) oX10_blank_32))) (bt_node (bt_node (bt_leaf (P := OKI m_X10_blank) oX10_blank_33) (bt_leaf (P := OKI m_X10_blank) oX10_blank_34)) (bt_node (bt_leaf (P := OKI m_X10_blank) oX10_blank_35) (bt_leaf (P := OKI m_X10_blank) oX10_blank_38)))) (bt_node (bt_node (bt_node (bt_leaf (P := OKI m_X10_blank) oX10_blank_41) (bt_leaf (P := OKI m_X10_blank) oX10_blank_43)) (bt_node (bt_leaf (P := OKI m_X10_blank) oX10_blank_44) (bt_leaf (P := OKI m_X10_blank) oX10_blank_45))) (bt_node (bt_node (bt_leaf (P := OKI m_X10_blank) oX10_blank_46) (bt_leaf (P := OKI m_X10_blank) oX10_blank_49)) (bt_node (bt_leaf (P := OKI m_X10_blank) oX10_blank_52) (bt_leaf (P := OKI m_X10_blank) oX10_blank_53)))))) : pfX10_blank pc = some Y → OKI m_X10_blank pc Y)
def stpX10_blank (pc : Nat) : Option (List Bool) := (bif Nat.beq pc 52 then some [false, false, false, false] else none)
def bX10_blank_0 (d rc rs : Nat) (a1 : Int32) (a2 : Int32) (σ : XH) (Q : XV → XH → Prop) : Prop :=
  ((1 ≤ d ∧ Ec (d - 1) 0 0 m_X10_tapeAt [vR (some (11, 0)), vI a1] σ (kR fun x2 h1 => (((x2 : Option XO) = none → Q (vI (-1)) h1) ∧ (¬ (x2 : Option XO) = none → (drf x2 10 fun i11 => (1 ≤ d ∧ Ec (d - 1) 0 0 m_X9_holdsRow [vR (some (10, i11))] h1 (kI fun x4 h3 => ((x4 = 0 → Q (vI (-11)) h3) ∧ (¬ x4 = 0 → (drf x2 10 fun i5 => (((hi h3 10 i5 1) = 3 → (drf x2 10 fun i10 => (1 ≤ d ∧ Ec (d - 1) 0 0 m_X9_hasPlace [vR (some (10, i10)), vI a2] h3 (kI fun x7 h6 => ((x7 = 0 → Q (vI (-13)) h6) ∧ (¬ x7 = 0 → (drf x2 10 fun i9 => (1 ≤ d ∧ Ec (d - 1) 0 0 m_X9_put [vR (some (10, i9)), vI a2, vI 999999999] h6 (kU fun h8 => Ex d rc rs m_X10_blank 52 [vU, vU, vU, vU] [] h8 Q))))))))) ∧ (¬ (hi h3 10 i5 1) = 3 → Q (vI (-12)) h3)))))))))))))
theorem sX10_blank_0 {d rc rs : Nat} {a1 : Int32} {a2 : Int32} {σ : XH} {Q : XV → XH → Prop} (h : bX10_blank_0 d rc rs a1 a2 σ Q) : Ex d rc rs m_X10_blank 0 [vR (some (11, 0)), vI a1, vI a2, vU] [] σ Q :=
  xtree_sound (stop := stpX10_blank) okX10_blank 23 _ _ _ _ _ _ h
def bX10_blank_52 (d rc rs : Nat)  (σ : XH) (Q : XV → XH → Prop) : Prop :=
  Q (vI 1) σ
theorem sX10_blank_52 {d rc rs : Nat}  {σ : XH} {Q : XV → XH → Prop} (h : bX10_blank_52 d rc rs  σ Q) : Ex d rc rs m_X10_blank 52 [vU, vU, vU, vU] [] σ Q :=
  xtree_sound (stop := stpX10_blank) okX10_blank 4 _ _ _ _ _ _ h
/-! SpotTimers.read(II)I -/
theorem dX10_read_0 : decode cX10_read 0 = .ok (.aload_n 0, 1) := by decide +kernel
theorem dX10_read_1 : decode cX10_read 1 = .ok (.iload_n 1, 1) := by decide +kernel
theorem dX10_read_2 : decode cX10_read 2 = .ok (.invokevirtual 205, 3) := by decide +kernel
theorem dX10_read_5 : decode cX10_read 5 = .ok (.astore_n 3, 1) := by decide +kernel
theorem dX10_read_6 : decode cX10_read 6 = .ok (.aload_n 3, 1) := by decide +kernel
theorem dX10_read_7 : decode cX10_read 7 = .ok (.ifnull 11, 3) := by decide +kernel
theorem dX10_read_10 : decode cX10_read 10 = .ok (.aload_n 3, 1) := by decide +kernel
theorem dX10_read_11 : decode cX10_read 11 = .ok (.iload_n 2, 1) := by decide +kernel
theorem dX10_read_12 : decode cX10_read 12 = .ok (.invokevirtual 385, 3) := by decide +kernel
theorem dX10_read_15 : decode cX10_read 15 = .ok (.ifCond .ne 8, 3) := by decide +kernel
theorem dX10_read_18 : decode cX10_read 18 = .ok (.ldc 179, 2) := by decide +kernel
theorem dX10_read_20 : decode cX10_read 20 = .ok (.goto 9, 3) := by decide +kernel
theorem dX10_read_23 : decode cX10_read 23 = .ok (.aload_n 3, 1) := by decide +kernel
theorem dX10_read_24 : decode cX10_read 24 = .ok (.getfield 394, 3) := by decide +kernel
theorem dX10_read_27 : decode cX10_read 27 = .ok (.iload_n 2, 1) := by decide +kernel
theorem dX10_read_28 : decode cX10_read 28 = .ok (.iaload, 1) := by decide +kernel
theorem dX10_read_29 : decode cX10_read 29 = .ok (.ireturn, 1) := by decide +kernel
theorem oX10_read_0 : OKI 109 0 (.aload_n 0, 1, [0], 0, 0, []) := And.intro dX10_read_0 (And.intro rfl (rfl))
theorem oX10_read_1 : OKI 109 1 (.iload_n 1, 2, [1], 0, 0, []) := And.intro dX10_read_1 (And.intro rfl (rfl))
theorem oX10_read_2 : OKI 109 2 (.invokevirtual 205, 5, [123, 2, 12, 0, 0, 3], 0, 0, []) := And.intro dX10_read_2 (And.intro rfl (And.intro (by decide) (And.intro (by decide) (And.intro mo_X10_tapeAt (And.intro (tm_3 _ (List.mem_of_getElem? (i := 163) rfl) rfl) (And.intro (tm_3 _ (List.mem_of_getElem? (i := 165) rfl) rfl) (And.intro (pm_1 _ (List.mem_of_getElem? (i := 10) rfl)) (Or.inl ⟨(RX10, TX10, 15), rfl, rfl⟩))))))))
theorem oX10_read_5 : OKI 109 5 (.astore_n 3, 6, [3], 0, 0, []) := And.intro dX10_read_5 (And.intro rfl (And.intro rfl (by decide)))
theorem oX10_read_6 : OKI 109 6 (.aload_n 3, 7, [3], 0, 0, []) := And.intro dX10_read_6 (And.intro rfl (rfl))
theorem oX10_read_7 : OKI 109 7 (.ifnull 11, 10, [18], 0, 0, []) := And.intro dX10_read_7 (And.intro rfl (by decide))
theorem oX10_read_10 : OKI 109 10 (.aload_n 3, 11, [3], 0, 0, []) := And.intro dX10_read_10 (And.intro rfl (rfl))
theorem oX10_read_11 : OKI 109 11 (.iload_n 2, 12, [2], 0, 0, []) := And.intro dX10_read_11 (And.intro rfl (rfl))
theorem oX10_read_12 : OKI 109 12 (.invokevirtual 385, 15, [64, 2, 11, 0, 0, 1], 0, 0, []) := And.intro dX10_read_12 (And.intro rfl (And.intro (by decide) (And.intro (by decide) (And.intro mo_X9_hasPlace (And.intro (tm_5 _ (List.mem_of_getElem? (i := 172) rfl) rfl) (And.intro (tm_5 _ (List.mem_of_getElem? (i := 173) rfl) rfl) (And.intro (tm_5 _ (List.mem_of_getElem? (i := 174) rfl) rfl) (Or.inl ⟨(RX9, TX9, 3), rfl, rfl⟩))))))))
theorem oX10_read_15 : OKI 109 15 (.ifCond .ne 8, 18, [23], 0, 0, []) := And.intro dX10_read_15 (And.intro rfl (by decide))
theorem oX10_read_18 : OKI 109 18 (.ldc 179, 20, [], (-1000000000), 0, []) := And.intro dX10_read_18 (And.intro rfl (tm_3 _ (List.mem_of_getElem? (i := 23) rfl) rfl))
theorem oX10_read_20 : OKI 109 20 (.goto 9, 23, [29], 0, 0, []) := And.intro dX10_read_20 (And.intro rfl (by decide))
theorem oX10_read_23 : OKI 109 23 (.aload_n 3, 24, [3], 0, 0, []) := And.intro dX10_read_23 (And.intro rfl (rfl))
theorem oX10_read_24 : OKI 109 24 (.getfield 394, 27, [10, 0, 2, 114, 0], 0, 0, []) := And.intro dX10_read_24 (And.intro rfl (⟨(RX9, TX9, 3), "SpotTimers$Tape", rfl, by decide, tm_1 _ (List.mem_of_getElem? (i := 218) rfl) rfl, Or.inl rfl, rfl, rfl⟩))
theorem oX10_read_27 : OKI 109 27 (.iload_n 2, 28, [2], 0, 0, []) := And.intro dX10_read_27 (And.intro rfl (rfl))
theorem oX10_read_28 : OKI 109 28 (.iaload, 29, [], 0, 0, []) := And.intro dX10_read_28 rfl
theorem oX10_read_29 : OKI 109 29 (.ireturn, 30, [0], 0, 0, []) := And.intro dX10_read_29 (Or.inl (And.intro rfl rfl))
def pfX10_read (pc : Nat) : Option XE := (bif Nat.blt pc 12 then (bif Nat.blt pc 6 then (bif Nat.blt pc 2 then (bif Nat.blt pc 1 then (bif Nat.beq pc 0 then some (.aload_n 0, 1, [0], 0, 0, []) else none) else (bif Nat.beq pc 1 then some (.iload_n 1, 2, [1], 0, 0, []) else none)) else (bif Nat.blt pc 5 then (bif Nat.beq pc 2 then some (.invokevirtual 205, 5, [123, 2, 12, 0, 0, 3], 0, 0, []) else none) else (bif Nat.beq pc 5 then some (.astore_n 3, 6, [3], 0, 0, []) else none))) else (bif Nat.blt pc 10 then (bif Nat.blt pc 7 then (bif Nat.beq pc 6 then some (.aload_n 3, 7, [3], 0, 0, []) else none) else (bif Nat.beq pc 7 then some (.ifnull 11, 10, [18], 0, 0, []) else none)) else (bif Nat.blt pc 11 then (bif Nat.beq pc 10 then some (.aload_n 3, 11, [3], 0, 0, []) else none) else (bif Nat.beq pc 11 then some (.iload_n 2, 12, [2], 0, 0, []) else none)))) else (bif Nat.blt pc 23 then (bif Nat.blt pc 18 then (bif Nat.blt pc 15 then (bif Nat.beq pc 12 then some (.invokevirtual 385, 15, [64, 2, 11, 0, 0, 1], 0, 0, []) else none) else (bif Nat.beq pc 15 then some (.ifCond .ne 8, 18, [23], 0, 0, []) else none)) else (bif Nat.blt pc 20 then (bif Nat.beq pc 18 then some (.ldc 179, 20, [], (-1000000000), 0, []) else none) else (bif Nat.beq pc 20 then some (.goto 9, 23, [29], 0, 0, []) else none))) else (bif Nat.blt pc 27 then (bif Nat.blt pc 24 then (bif Nat.beq pc 23 then some (.aload_n 3, 24, [3], 0, 0, []) else none) else (bif Nat.beq pc 24 then some (.getfield 394, 27, [10, 0, 2, 114, 0], 0, 0, []) else none)) else (bif Nat.blt pc 28 then (bif Nat.beq pc 27 then some (.iload_n 2, 28, [2], 0, 0, []) else none) else (bif Nat.blt pc 29 then (bif Nat.beq pc 28 then some (.iaload, 29, [], 0, 0, []) else none) else (bif Nat.beq pc 29 then some (.ireturn, 30, [0], 0, 0, []) else none))))))
theorem okX10_read : ∀ pc Y, pfX10_read pc = some Y → OKI m_X10_read pc Y := fun pc Y => ((bt_node (bt_node (bt_node (bt_node (bt_leaf (P := OKI m_X10_read) oX10_read_0) (bt_leaf (P := OKI m_X10_read) oX10_read_1)) (bt_node (bt_leaf (P := OKI m_X10_read) oX10_read_2) (bt_leaf (P := OKI m_X10_read) oX10_read_5))) (bt_node (bt_node (bt_leaf (P := OKI m_X10_read) oX10_read_6) (bt_leaf (P := OKI m_X10_read) oX10_read_7)) (bt_node (bt_leaf (P := OKI m_X10_read) oX10_read_10) (bt_leaf (P := OKI m_X10_read) oX10_read_11)))) (bt_node (bt_node (bt_node (bt_leaf (P := OKI m_X10_read) oX10_read_12) (bt_leaf (P := OKI m_X10_read) oX10_read_15)) (bt_node (bt_leaf (P := OKI m_X10_read) oX10_read_18) (bt_leaf (P := OKI m_X10_read) oX10_read_20))) (bt_node (bt_node (bt_leaf (P := OKI m_X10_read) oX10_read_23) (bt_leaf (P := OKI m_X10_read) oX10_read_24)) (bt_node (bt_leaf (P := OKI m_X10_read) oX10_read_27) (bt_node (bt_leaf (P := OKI m_X10_read) oX10_read_28) (bt_leaf (P := OKI m_X10_read) oX10_read_29)))))) : pfX10_read pc = some Y → OKI m_X10_read pc Y)
def stpX10_read (pc : Nat) : Option (List Bool) := (bif Nat.blt pc 29 then (bif Nat.beq pc 18 then some [false, false, false, false] else none) else (bif Nat.beq pc 29 then some [false, false, false, false] else none))
def bX10_read_0 (d rc rs : Nat) (a1 : Int32) (a2 : Int32) (σ : XH) (Q : XV → XH → Prop) : Prop :=
  ((1 ≤ d ∧ Ec (d - 1) 0 0 m_X10_tapeAt [vR (some (11, 0)), vI a1] σ (kR fun x2 h1 => (((x2 : Option XO) = none → Ex d rc rs m_X10_read 18 [vU, vU, vU, vU] [] h1 Q) ∧ (¬ (x2 : Option XO) = none → (drf x2 10 fun i6 => (1 ≤ d ∧ Ec (d - 1) 0 0 m_X9_hasPlace [vR (some (10, i6)), vI a2] h1 (kI fun x4 h3 => ((x4 = 0 → Ex d rc rs m_X10_read 18 [vU, vU, vU, vU] [] h3 Q) ∧ (¬ x4 = 0 → (drf x2 10 fun i5 => (hr h3 10 i5 0 = some (114, i5) ∧ ((vp_in a2 (hn h3 114 i5) ∧ Ex d rc rs m_X10_read 29 [vU, vU, vU, vU] [vI (hi h3 114 i5 a2.toNatClampNeg)] h3 Q))))))))))))))
theorem sX10_read_0 {d rc rs : Nat} {a1 : Int32} {a2 : Int32} {σ : XH} {Q : XV → XH → Prop} (h : bX10_read_0 d rc rs a1 a2 σ Q) : Ex d rc rs m_X10_read 0 [vR (some (11, 0)), vI a1, vI a2, vU] [] σ Q :=
  xtree_sound (stop := stpX10_read) okX10_read 16 _ _ _ _ _ _ h
def bX10_read_18 (d rc rs : Nat)  (σ : XH) (Q : XV → XH → Prop) : Prop :=
  Ex d rc rs m_X10_read 29 [vU, vU, vU, vU] [vI (-1000000000)] σ Q
theorem sX10_read_18 {d rc rs : Nat}  {σ : XH} {Q : XV → XH → Prop} (h : bX10_read_18 d rc rs  σ Q) : Ex d rc rs m_X10_read 18 [vU, vU, vU, vU] [] σ Q :=
  xtree_sound (stop := stpX10_read) okX10_read 4 _ _ _ _ _ _ h
def bX10_read_29 (d rc rs : Nat) (q0 : Int32) (σ : XH) (Q : XV → XH → Prop) : Prop :=
  Q (vI q0) σ
theorem sX10_read_29 {d rc rs : Nat} {q0 : Int32} {σ : XH} {Q : XV → XH → Prop} (h : bX10_read_29 d rc rs q0 σ Q) : Ex d rc rs m_X10_read 29 [vU, vU, vU, vU] [vI q0] σ Q :=
  xtree_sound (stop := stpX10_read) okX10_read 3 _ _ _ _ _ _ h
/-! SpotTimers.shift(IIIII)I -/
theorem dX10_shift_0 : decode cX10_shift 0 = .ok (.aload_n 0, 1) := by decide +kernel
theorem dX10_shift_1 : decode cX10_shift 1 = .ok (.iload_n 1, 1) := by decide +kernel
theorem dX10_shift_2 : decode cX10_shift 2 = .ok (.invokevirtual 205, 3) := by decide +kernel
theorem dX10_shift_5 : decode cX10_shift 5 = .ok (.astore 6, 2) := by decide +kernel
theorem dX10_shift_7 : decode cX10_shift 7 = .ok (.aload_n 0, 1) := by decide +kernel
theorem dX10_shift_8 : decode cX10_shift 8 = .ok (.iload_n 3, 1) := by decide +kernel
theorem dX10_shift_9 : decode cX10_shift 9 = .ok (.invokevirtual 205, 3) := by decide +kernel
theorem dX10_shift_12 : decode cX10_shift 12 = .ok (.astore 7, 2) := by decide +kernel
theorem dX10_shift_14 : decode cX10_shift 14 = .ok (.aload 6, 2) := by decide +kernel
theorem dX10_shift_16 : decode cX10_shift 16 = .ok (.ifnull 8, 3) := by decide +kernel
theorem dX10_shift_19 : decode cX10_shift 19 = .ok (.aload 7, 2) := by decide +kernel
theorem dX10_shift_21 : decode cX10_shift 21 = .ok (.ifnonnull 5, 3) := by decide +kernel
theorem dX10_shift_24 : decode cX10_shift 24 = .ok (.iconst (-1), 1) := by decide +kernel
theorem dX10_shift_25 : decode cX10_shift 25 = .ok (.ireturn, 1) := by decide +kernel
theorem dX10_shift_26 : decode cX10_shift 26 = .ok (.aload 6, 2) := by decide +kernel
theorem dX10_shift_28 : decode cX10_shift 28 = .ok (.invokevirtual 209, 3) := by decide +kernel
theorem dX10_shift_31 : decode cX10_shift 31 = .ok (.ifCond .eq 11, 3) := by decide +kernel
theorem dX10_shift_34 : decode cX10_shift 34 = .ok (.aload 7, 2) := by decide +kernel
theorem dX10_shift_36 : decode cX10_shift 36 = .ok (.invokevirtual 209, 3) := by decide +kernel
theorem dX10_shift_39 : decode cX10_shift 39 = .ok (.ifCond .ne 6, 3) := by decide +kernel
theorem dX10_shift_42 : decode cX10_shift 42 = .ok (.bipush (-11), 2) := by decide +kernel
theorem dX10_shift_44 : decode cX10_shift 44 = .ok (.ireturn, 1) := by decide +kernel
theorem dX10_shift_45 : decode cX10_shift 45 = .ok (.aload 6, 2) := by decide +kernel
theorem dX10_shift_47 : decode cX10_shift 47 = .ok (.getfield 212, 3) := by decide +kernel
theorem dX10_shift_50 : decode cX10_shift 50 = .ok (.aload 7, 2) := by decide +kernel
theorem dX10_shift_52 : decode cX10_shift 52 = .ok (.getfield 212, 3) := by decide +kernel
theorem dX10_shift_55 : decode cX10_shift 55 = .ok (.if_icmp .eq 6, 3) := by decide +kernel
theorem dX10_shift_58 : decode cX10_shift 58 = .ok (.bipush (-12), 2) := by decide +kernel
theorem dX10_shift_60 : decode cX10_shift 60 = .ok (.ireturn, 1) := by decide +kernel
theorem dX10_shift_61 : decode cX10_shift 61 = .ok (.aload 6, 2) := by decide +kernel
theorem dX10_shift_63 : decode cX10_shift 63 = .ok (.iload_n 2, 1) := by decide +kernel
theorem dX10_shift_64 : decode cX10_shift 64 = .ok (.iload 5, 2) := by decide +kernel
theorem dX10_shift_66 : decode cX10_shift 66 = .ok (.invokevirtual 397, 3) := by decide +kernel
theorem dX10_shift_69 : decode cX10_shift 69 = .ok (.ifCond .eq 15, 3) := by decide +kernel
theorem dX10_shift_72 : decode cX10_shift 72 = .ok (.aload 7, 2) := by decide +kernel
theorem dX10_shift_74 : decode cX10_shift 74 = .ok (.iload 4, 2) := by decide +kernel
theorem dX10_shift_76 : decode cX10_shift 76 = .ok (.iload 5, 2) := by decide +kernel
theorem dX10_shift_78 : decode cX10_shift 78 = .ok (.invokevirtual 397, 3) := by decide +kernel
theorem dX10_shift_81 : decode cX10_shift 81 = .ok (.ifCond .ne 6, 3) := by decide +kernel
theorem dX10_shift_84 : decode cX10_shift 84 = .ok (.bipush (-13), 2) := by decide +kernel
theorem dX10_shift_86 : decode cX10_shift 86 = .ok (.ireturn, 1) := by decide +kernel
theorem dX10_shift_87 : decode cX10_shift 87 = .ok (.aload 6, 2) := by decide +kernel
theorem dX10_shift_89 : decode cX10_shift 89 = .ok (.getfield 394, 3) := by decide +kernel
theorem dX10_shift_92 : decode cX10_shift 92 = .ok (.iload_n 2, 1) := by decide +kernel
theorem dX10_shift_93 : decode cX10_shift 93 = .ok (.aload 7, 2) := by decide +kernel
theorem dX10_shift_95 : decode cX10_shift 95 = .ok (.getfield 394, 3) := by decide +kernel
theorem dX10_shift_98 : decode cX10_shift 98 = .ok (.iload 4, 2) := by decide +kernel
theorem dX10_shift_100 : decode cX10_shift 100 = .ok (.iload 5, 2) := by decide +kernel
theorem dX10_shift_102 : decode cX10_shift 102 = .ok (.invokestatic 400, 3) := by decide +kernel
theorem dX10_shift_105 : decode cX10_shift 105 = .ok (.iload 5, 2) := by decide +kernel
theorem dX10_shift_107 : decode cX10_shift 107 = .ok (.ireturn, 1) := by decide +kernel
theorem oX10_shift_0 : OKI 110 0 (.aload_n 0, 1, [0], 0, 0, []) := And.intro dX10_shift_0 (And.intro rfl (rfl))
theorem oX10_shift_1 : OKI 110 1 (.iload_n 1, 2, [1], 0, 0, []) := And.intro dX10_shift_1 (And.intro rfl (rfl))
theorem oX10_shift_2 : OKI 110 2 (.invokevirtual 205, 5, [123, 2, 12, 0, 0, 3], 0, 0, []) := And.intro dX10_shift_2 (And.intro rfl (And.intro (by decide) (And.intro (by decide) (And.intro mo_X10_tapeAt (And.intro (tm_3 _ (List.mem_of_getElem? (i := 163) rfl) rfl) (And.intro (tm_3 _ (List.mem_of_getElem? (i := 165) rfl) rfl) (And.intro (pm_1 _ (List.mem_of_getElem? (i := 10) rfl)) (Or.inl ⟨(RX10, TX10, 15), rfl, rfl⟩))))))))
theorem oX10_shift_5 : OKI 110 5 (.astore 6, 7, [6], 0, 0, []) := And.intro dX10_shift_5 (And.intro rfl (And.intro rfl (by decide)))
theorem oX10_shift_7 : OKI 110 7 (.aload_n 0, 8, [0], 0, 0, []) := And.intro dX10_shift_7 (And.intro rfl (rfl))
theorem oX10_shift_8 : OKI 110 8 (.iload_n 3, 9, [3], 0, 0, []) := And.intro dX10_shift_8 (And.intro rfl (rfl))
theorem oX10_shift_9 : OKI 110 9 (.invokevirtual 205, 12, [123, 2, 12, 0, 0, 3], 0, 0, []) := And.intro dX10_shift_9 (And.intro rfl (And.intro (by decide) (And.intro (by decide) (And.intro mo_X10_tapeAt (And.intro (tm_3 _ (List.mem_of_getElem? (i := 163) rfl) rfl) (And.intro (tm_3 _ (List.mem_of_getElem? (i := 165) rfl) rfl) (And.intro (pm_1 _ (List.mem_of_getElem? (i := 10) rfl)) (Or.inl ⟨(RX10, TX10, 15), rfl, rfl⟩))))))))
theorem oX10_shift_12 : OKI 110 12 (.astore 7, 14, [7], 0, 0, []) := And.intro dX10_shift_12 (And.intro rfl (And.intro rfl (by decide)))
theorem oX10_shift_14 : OKI 110 14 (.aload 6, 16, [6], 0, 0, []) := And.intro dX10_shift_14 (And.intro rfl (rfl))
theorem oX10_shift_16 : OKI 110 16 (.ifnull 8, 19, [24], 0, 0, []) := And.intro dX10_shift_16 (And.intro rfl (by decide))
theorem oX10_shift_19 : OKI 110 19 (.aload 7, 21, [7], 0, 0, []) := And.intro dX10_shift_19 (And.intro rfl (rfl))
theorem oX10_shift_21 : OKI 110 21 (.ifnonnull 5, 24, [26], 0, 0, []) := And.intro dX10_shift_21 (And.intro rfl (by decide))
theorem oX10_shift_24 : OKI 110 24 (.iconst (-1), 25, [], (-1), 0, []) := And.intro dX10_shift_24 (And.intro rfl (by decide +kernel))
theorem oX10_shift_25 : OKI 110 25 (.ireturn, 26, [0], 0, 0, []) := And.intro dX10_shift_25 (Or.inl (And.intro rfl rfl))
theorem oX10_shift_26 : OKI 110 26 (.aload 6, 28, [6], 0, 0, []) := And.intro dX10_shift_26 (And.intro rfl (rfl))
theorem oX10_shift_28 : OKI 110 28 (.invokevirtual 209, 31, [63, 1, 11, 0, 0, 1], 0, 0, []) := And.intro dX10_shift_28 (And.intro rfl (And.intro (by decide) (And.intro (by decide) (And.intro mo_X9_holdsRow (And.intro (tm_3 _ (List.mem_of_getElem? (i := 167) rfl) rfl) (And.intro (tm_3 _ (List.mem_of_getElem? (i := 168) rfl) rfl) (And.intro (tm_3 _ (List.mem_of_getElem? (i := 169) rfl) rfl) (Or.inl ⟨(RX9, TX9, 3), rfl, rfl⟩))))))))
theorem oX10_shift_31 : OKI 110 31 (.ifCond .eq 11, 34, [42], 0, 0, []) := And.intro dX10_shift_31 (And.intro rfl (by decide))
theorem oX10_shift_34 : OKI 110 34 (.aload 7, 36, [7], 0, 0, []) := And.intro dX10_shift_34 (And.intro rfl (rfl))
theorem oX10_shift_36 : OKI 110 36 (.invokevirtual 209, 39, [63, 1, 11, 0, 0, 1], 0, 0, []) := And.intro dX10_shift_36 (And.intro rfl (And.intro (by decide) (And.intro (by decide) (And.intro mo_X9_holdsRow (And.intro (tm_3 _ (List.mem_of_getElem? (i := 167) rfl) rfl) (And.intro (tm_3 _ (List.mem_of_getElem? (i := 168) rfl) rfl) (And.intro (tm_3 _ (List.mem_of_getElem? (i := 169) rfl) rfl) (Or.inl ⟨(RX9, TX9, 3), rfl, rfl⟩))))))))
theorem oX10_shift_39 : OKI 110 39 (.ifCond .ne 6, 42, [45], 0, 0, []) := And.intro dX10_shift_39 (And.intro rfl (by decide))
theorem oX10_shift_42 : OKI 110 42 (.bipush (-11), 44, [], (-11), 0, []) := And.intro dX10_shift_42 (And.intro rfl (by decide +kernel))
theorem oX10_shift_44 : OKI 110 44 (.ireturn, 45, [0], 0, 0, []) := And.intro dX10_shift_44 (Or.inl (And.intro rfl rfl))
theorem oX10_shift_45 : OKI 110 45 (.aload 6, 47, [6], 0, 0, []) := And.intro dX10_shift_45 (And.intro rfl (rfl))
theorem oX10_shift_47 : OKI 110 47 (.getfield 212, 50, [10, 1, 0], 0, 0, []) := And.intro dX10_shift_47 (And.intro rfl (⟨(RX9, TX9, 3), "SpotTimers$Tape", rfl, by decide, tm_1 _ (List.mem_of_getElem? (i := 220) rfl) rfl, Or.inl rfl, Or.inr (Or.inr (And.intro rfl (Or.inl rfl)))⟩))
theorem oX10_shift_50 : OKI 110 50 (.aload 7, 52, [7], 0, 0, []) := And.intro dX10_shift_50 (And.intro rfl (rfl))
theorem oX10_shift_52 : OKI 110 52 (.getfield 212, 55, [10, 1, 0], 0, 0, []) := And.intro dX10_shift_52 (And.intro rfl (⟨(RX9, TX9, 3), "SpotTimers$Tape", rfl, by decide, tm_1 _ (List.mem_of_getElem? (i := 220) rfl) rfl, Or.inl rfl, Or.inr (Or.inr (And.intro rfl (Or.inl rfl)))⟩))
theorem oX10_shift_55 : OKI 110 55 (.if_icmp .eq 6, 58, [61], 0, 0, []) := And.intro dX10_shift_55 (And.intro rfl (by decide))
theorem oX10_shift_58 : OKI 110 58 (.bipush (-12), 60, [], (-12), 0, []) := And.intro dX10_shift_58 (And.intro rfl (by decide +kernel))
theorem oX10_shift_60 : OKI 110 60 (.ireturn, 61, [0], 0, 0, []) := And.intro dX10_shift_60 (Or.inl (And.intro rfl rfl))
theorem oX10_shift_61 : OKI 110 61 (.aload 6, 63, [6], 0, 0, []) := And.intro dX10_shift_61 (And.intro rfl (rfl))
theorem oX10_shift_63 : OKI 110 63 (.iload_n 2, 64, [2], 0, 0, []) := And.intro dX10_shift_63 (And.intro rfl (rfl))
theorem oX10_shift_64 : OKI 110 64 (.iload 5, 66, [5], 0, 0, []) := And.intro dX10_shift_64 (And.intro rfl (rfl))
theorem oX10_shift_66 : OKI 110 66 (.invokevirtual 397, 69, [65, 3, 11, 0, 0, 1], 0, 0, []) := And.intro dX10_shift_66 (And.intro rfl (And.intro (by decide) (And.intro (by decide) (And.intro mo_X9_hasPlaces (And.intro (tm_5 _ (List.mem_of_getElem? (i := 195) rfl) rfl) (And.intro (tm_5 _ (List.mem_of_getElem? (i := 196) rfl) rfl) (And.intro (tm_5 _ (List.mem_of_getElem? (i := 197) rfl) rfl) (Or.inl ⟨(RX9, TX9, 3), rfl, rfl⟩))))))))
theorem oX10_shift_69 : OKI 110 69 (.ifCond .eq 15, 72, [84], 0, 0, []) := And.intro dX10_shift_69 (And.intro rfl (by decide))
theorem oX10_shift_72 : OKI 110 72 (.aload 7, 74, [7], 0, 0, []) := And.intro dX10_shift_72 (And.intro rfl (rfl))
theorem oX10_shift_74 : OKI 110 74 (.iload 4, 76, [4], 0, 0, []) := And.intro dX10_shift_74 (And.intro rfl (rfl))
theorem oX10_shift_76 : OKI 110 76 (.iload 5, 78, [5], 0, 0, []) := And.intro dX10_shift_76 (And.intro rfl (rfl))
theorem oX10_shift_78 : OKI 110 78 (.invokevirtual 397, 81, [65, 3, 11, 0, 0, 1], 0, 0, []) := And.intro dX10_shift_78 (And.intro rfl (And.intro (by decide) (And.intro (by decide) (And.intro mo_X9_hasPlaces (And.intro (tm_5 _ (List.mem_of_getElem? (i := 195) rfl) rfl) (And.intro (tm_5 _ (List.mem_of_getElem? (i := 196) rfl) rfl) (And.intro (tm_5 _ (List.mem_of_getElem? (i := 197) rfl) rfl) (Or.inl ⟨(RX9, TX9, 3), rfl, rfl⟩))))))))
theorem oX10_shift_81 : OKI 110 81 (.ifCond .ne 6, 84, [87], 0, 0, []) := And.intro dX10_shift_81 (And.intro rfl (by decide))
theorem oX10_shift_84 : OKI 110 84 (.bipush (-13), 86, [], (-13), 0, []) := And.intro dX10_shift_84 (And.intro rfl (by decide +kernel))
theorem oX10_shift_86 : OKI 110 86 (.ireturn, 87, [0], 0, 0, []) := And.intro dX10_shift_86 (Or.inl (And.intro rfl rfl))
theorem oX10_shift_87 : OKI 110 87 (.aload 6, 89, [6], 0, 0, []) := And.intro dX10_shift_87 (And.intro rfl (rfl))
theorem oX10_shift_89 : OKI 110 89 (.getfield 394, 92, [10, 0, 2, 114, 0], 0, 0, []) := And.intro dX10_shift_89 (And.intro rfl (⟨(RX9, TX9, 3), "SpotTimers$Tape", rfl, by decide, tm_1 _ (List.mem_of_getElem? (i := 218) rfl) rfl, Or.inl rfl, rfl, rfl⟩))
theorem oX10_shift_92 : OKI 110 92 (.iload_n 2, 93, [2], 0, 0, []) := And.intro dX10_shift_92 (And.intro rfl (rfl))
theorem oX10_shift_93 : OKI 110 93 (.aload 7, 95, [7], 0, 0, []) := And.intro dX10_shift_93 (And.intro rfl (rfl))
theorem oX10_shift_95 : OKI 110 95 (.getfield 394, 98, [10, 0, 2, 114, 0], 0, 0, []) := And.intro dX10_shift_95 (And.intro rfl (⟨(RX9, TX9, 3), "SpotTimers$Tape", rfl, by decide, tm_1 _ (List.mem_of_getElem? (i := 218) rfl) rfl, Or.inl rfl, rfl, rfl⟩))
theorem oX10_shift_98 : OKI 110 98 (.iload 4, 100, [4], 0, 0, []) := And.intro dX10_shift_98 (And.intro rfl (rfl))
theorem oX10_shift_100 : OKI 110 100 (.iload 5, 102, [5], 0, 0, []) := And.intro dX10_shift_100 (And.intro rfl (rfl))
theorem oX10_shift_102 : OKI 110 102 (.invokestatic 400, 105, [9002], 0, 0, []) := And.intro dX10_shift_102 (And.intro rfl (And.intro (Or.inl rfl) (tm_5 _ (List.mem_of_getElem? (i := 199) rfl) rfl)))
theorem oX10_shift_105 : OKI 110 105 (.iload 5, 107, [5], 0, 0, []) := And.intro dX10_shift_105 (And.intro rfl (rfl))
theorem oX10_shift_107 : OKI 110 107 (.ireturn, 108, [0], 0, 0, []) := And.intro dX10_shift_107 (Or.inl (And.intro rfl rfl))
def pfX10_shift (pc : Nat) : Option XE := (bif Nat.blt pc 52 then (bif Nat.blt pc 24 then (bif Nat.blt pc 9 then (bif Nat.blt pc 5 then (bif Nat.blt pc 1 then (bif Nat.beq pc 0 then some (.aload_n 0, 1, [0], 0, 0, []) else none) else (bif Nat.blt pc 2 then (bif Nat.beq pc 1 then some (.iload_n 1, 2, [1], 0, 0, []) else none) else (bif Nat.beq pc 2 then some (.invokevirtual 205, 5, [123, 2, 12, 0, 0, 3], 0, 0, []) else none))) else (bif Nat.blt pc 7 then (bif Nat.beq pc 5 then some (.astore 6, 7, [6], 0, 0, []) else none) else (bif Nat.blt pc 8 then (bif Nat.beq pc 7 then some (.aload_n 0, 8, [0], 0, 0, []) else none) else (bif Nat.beq pc 8 then some (.iload_n 3, 9, [3], 0, 0, []) else none)))) else (bif Nat.blt pc 16 then (bif Nat.blt pc 12 then (bif Nat.beq pc 9 then some (.invokevirtual 205, 12, [123, 2, 12, 0, 0, 3], 0, 0, []) else none) else (bif Nat.blt pc 14 then (bif Nat.beq pc 12 then some (.astore 7, 14, [7], 0, 0, []) else none) else (bif Nat.beq pc 14 then some (.aload 6, 16, [6], 0, 0, []) else none))) else (bif Nat.blt pc 19 then (bif Nat.beq pc 16 then some (.ifnull 8, 19, [24], 0, 0, []) else none) else (bif Nat.blt pc 21 then (bif Nat.beq pc 19 then some (.aload 7, 21, [7], 0, 0, []) else none) else (bif Nat.beq pc 21 then some (.ifnonnull 5, 24, [26], 0, 0, []) else none))))) else (bif Nat.blt pc 36 then (bif Nat.blt pc 28 then (bif Nat.blt pc 25 then (bif Nat.beq pc 24 then some (.iconst (-1), 25, [], (-1), 0, []) else none) else (bif Nat.blt pc 26 then (bif Nat.beq pc 25 then some (.ireturn, 26, [0], 0, 0, []) else none) else (bif Nat.beq pc 26 then some (.aload 6, 28, [6], 0, 0, []) else none))) else (bif Nat.blt pc 31 then (bif Nat.beq pc 28 then some (.invokevirtual 209, 31, [63, 1, 11, 0, 0, 1], 0, 0, []) else none) else (bif Nat.blt pc 34 then (bif Nat.beq pc 31 then some (.ifCond .eq 11, 34, [42], 0, 0, []) else none) else (bif Nat.beq pc 34 then some (.aload 7, 36, [7], 0, 0, []) else none)))) else (bif Nat.blt pc 44 then (bif Nat.blt pc 39 then (bif Nat.beq pc 36 then some (.invokevirtual 209, 39, [63, 1, 11, 0, 0, 1], 0, 0, []) else none) else (bif Nat.blt pc 42 then (bif Nat.beq pc 39 then some (.ifCond .ne 6, 42, [45], 0, 0, []) else none) else (bif Nat.beq pc 42 then some (.bipush (-11), 44, [], (-11), 0, []) else none))) else (bif Nat.blt pc 47 then (bif Nat.blt pc 45 then (bif Nat.beq pc 44 then some (.ireturn, 45, [0], 0, 0, []) else none) else (bif Nat.beq pc 45 then some (.aload 6, 47, [6], 0, 0, []) else none)) else (bif Nat.blt pc 50 then (bif Nat.beq pc 47 then some (.getfield 212, 50, [10, 1, 0], 0, 0, []) else none) else (bif Nat.beq pc 50 then some (.aload 7, 52, [7], 0, 0, []) else none)))))) else (bif Nat.blt pc 81 then (bif Nat.blt pc 64 then (bif Nat.blt pc 60 then (bif Nat.blt pc 55 then (bif Nat.beq pc 52 then some (.getfield 212, 55, [10, 1, 0], 0, 0, []) else none) else (bif Nat.blt pc 58 then (bif Nat.beq pc 55 then some (.if_icmp .eq 6, 58, [61], 0, 0, []) else none) else (bif Nat.beq pc 58 then some (.bipush (-12), 60, [], (-12), 0, []) else none))) else (bif Nat.blt pc 61 then (bif Nat.beq pc 60 then some (.ireturn, 61, [0], 0, 0, []) else none) else (bif Nat.blt pc 63 then (bif Nat.beq pc 61 then some (.aload 6, 63, [6], 0, 0, []) else none) else (bif Nat.beq pc 63 then some (.iload_n 2, 64, [2], 0, 0, []) else none)))) else (bif Nat.blt pc 72 then (bif Nat.blt pc 66 then (bif Nat.beq pc 64 then some (.iload 5, 66, [5], 0, 0, []) else none) else (bif Nat.blt pc 69 then (bif Nat.beq pc 66 then some (.invokevirtual 397, 69, [65, 3, 11, 0, 0, 1], 0, 0, []) else none) else (bif Nat.beq pc 69 then some (.ifCond .eq 15, 72, [84], 0, 0, []) else none))) else (bif Nat.blt pc 76 then (bif Nat.blt pc 74 then (bif Nat.beq pc 72 then some (.aload 7, 74, [7], 0, 0, []) else none) else (bif Nat.beq pc 74 then some (.iload 4, 76, [4], 0, 0, []) else none)) else (bif Nat.blt pc 78 then (bif Nat.beq pc 76 then some (.iload 5, 78, [5], 0, 0, []) else none) else (bif Nat.beq pc 78 then some (.invokevirtual 397, 81, [65, 3, 11, 0, 0, 1], 0, 0, []) else none))))) else (bif Nat.blt pc 93 then (bif Nat.blt pc 87 then (bif Nat.blt pc 84 then (bif Nat.beq pc 81 then some (.ifCond .ne 6, 84, [87], 0, 0, []) else none) else (bif Nat.blt pc 86 then (bif Nat.beq pc 84 then some (.bipush (-13), 86, [], (-13), 0, []) else none) else (bif Nat.beq pc 86 then some (.ireturn, 87, [0], 0, 0, []) else none))) else (bif Nat.blt pc 89 then (bif Nat.beq pc 87 then some (.aload 6, 89, [6], 0, 0, []) else none) else (bif Nat.blt pc 92 then (bif Nat.beq pc 89 then some (.getfield 394, 92, [10, 0, 2, 114, 0], 0, 0, []) else none) else (bif Nat.beq pc 92 then some (.iload_n 2, 93, [2], 0, 0, []) else none)))) else (bif Nat.blt pc 100 then (bif Nat.blt pc 95 then (bif Nat.beq pc 93 then some (.aload 7, 95, [7], 0, 0, []) else none) else (bif Nat.blt pc 98 then (bif Nat.beq pc 95 then some (.getfield 394, 98, [10, 0, 2, 114, 0], 0, 0, []) else none) else (bif Nat.beq pc 98 then some (.iload 4, 100, [4], 0, 0, []) else none))) else (bif Nat.blt pc 105 then (bif Nat.blt pc 102 then (bif Nat.beq pc 100 then some (.iload 5, 102, [5], 0, 0, []) else none) else (bif Nat.beq pc 102 then some (.invokestatic 400, 105, [9002], 0, 0, []) else none)) else (bif Nat.blt pc 107 then (bif Nat.beq pc 105 then some (.iload 5, 107, [5], 0, 0, []) else none) else (bif Nat.beq pc 107 then some (.ireturn, 108, [0], 0, 0, []) else none)))))))
theorem okX10_shift : ∀ pc Y, pfX10_shift pc = some Y → OKI m_X10_shift pc Y := fun pc Y => ((bt_node (bt_node (bt_node (bt_node (bt_node (bt_leaf (P := OKI m_X10_shift) oX10_shift_0) (bt_node (bt_leaf (P := OKI m_X10_shift) oX10_shift_1) (bt_leaf (P := OKI m_X10_shift) oX10_shift_2))) (bt_node (bt_leaf (P := OKI m_X10_shift) oX10_shift_5) (bt_node (bt_leaf (P := OKI m_X10_shift) oX10_shift_7) (bt_leaf (P := OKI m_X10_shift) oX10_shift_8)))) (bt_node (bt_node (bt_leaf (P := OKI m_X10_shift) oX10_shift_9) (bt_node (bt_leaf (P := OKI m_X10_shift) oX10_shift_12) (bt_leaf (P := OKI m_X10_shift) oX10_shift_14))) (bt_node (bt_leaf (P := OKI m_X10_shift) oX10_shift_16) (bt_node (bt_leaf (P := OKI m_X10_shift) oX10_shift_19) (bt_leaf (P := OKI m_X10_shift) oX10_shift_21))))) (bt_node (bt_node (bt_node (bt_leaf (P := OKI m_X10_shift) oX10_shift_24) (bt_node (bt_leaf (P := OKI m_X10_shift) oX10_shift_25) (bt_leaf (P := OKI m_X10_shift) oX10_shift_26))) (bt_node (bt_leaf (P := OKI m_X10_shift) oX10_shift_28) (bt_node (bt_leaf (P := OKI m_X10_shift) oX10_shift_31) (bt_leaf (P := OKI m_X10_shift) oX10_shift_34)))) (bt_node (bt_node (bt_leaf (P := OKI m_X10_shift) oX10_shift_36) (bt_node (bt_leaf (P := OKI m_X10_shift) oX10_shift_39) (bt_leaf (P := OKI m_X10_shift) oX10_shift_42))) (bt_node (bt_node (bt_leaf (P := OKI m_X10_shift) oX10_shift_44) (bt_leaf (P := OKI m_X10_shift) oX10_shift_45)) (bt_node (bt_leaf (P := OKI m_X10_shift) oX10_shift_47) (bt_leaf (P := OKI m_X10_shift) oX10_shift_50)))))) (bt_node (bt_node (bt_node (bt_node (bt_leaf (P := OKI m_X10_shift) oX10_shift_52) (bt_node (bt_leaf (P := OKI m_X10_shift) oX10_shift_55) (bt_leaf (P := OKI m_X10_shift) oX10_shift_58))) (bt_node (bt_leaf (P := OKI m_X10_shift) oX10_shift_60) (bt_node (bt_leaf (P := OKI m_X10_shift) oX10_shift_61) (bt_leaf (P := OKI m_X10_shift) oX10_shift_63)))) (bt_node (bt_node (bt_leaf (P := OKI m_X10_shift) oX10_shift_64) (bt_node (bt_leaf (P := OKI m_X10_shift) oX10_shift_66) (bt_leaf (P := OKI m_X10_shift) oX10_shift_69))) (bt_node (bt_node (bt_leaf (P := OKI m_X10_shift) oX10_shift_72) (bt_leaf (P := OKI m_X10_shift) oX10_shift_74)) (bt_node (bt_leaf (P := OKI m_X10_shift) oX10_shift_76) (bt_leaf (P := OKI m_X10_shift) oX10_shift_78))))) (bt_node (bt_node (bt_node (bt_leaf (P := OKI m_X10_shift) oX10_shift_81) (bt_node (bt_leaf (P := OKI m_X10_shift) oX10_shift_84) (bt_leaf (P := OKI m_X10_shift) oX10_shift_86))) (bt_node (bt_leaf (P := OKI m_X10_shift) oX10_shift_87) (bt_node (bt_leaf (P := OKI m_X10_shift) oX10_shift_89) (bt_leaf (P := OKI m_X10_shift) oX10_shift_92)))) (bt_node (bt_node (bt_leaf (P := OKI m_X10_shift) oX10_shift_93) (bt_node (bt_leaf (P := OKI m_X10_shift) oX10_shift_95) (bt_leaf (P := OKI m_X10_shift) oX10_shift_98))) (bt_node (bt_node (bt_leaf (P := OKI m_X10_shift) oX10_shift_100) (bt_leaf (P := OKI m_X10_shift) oX10_shift_102)) (bt_node (bt_leaf (P := OKI m_X10_shift) oX10_shift_105) (bt_leaf (P := OKI m_X10_shift) oX10_shift_107))))))) : pfX10_shift pc = some Y → OKI m_X10_shift pc Y)
def stpX10_shift (pc : Nat) : Option (List Bool) := (bif Nat.blt pc 42 then (bif Nat.beq pc 24 then some [false, false, false, false, false, false, false, false] else none) else (bif Nat.blt pc 84 then (bif Nat.beq pc 42 then some [false, false, false, false, false, false, false, false] else none) else (bif Nat.beq pc 84 then some [false, false, false, false, false, false, false, false] else none)))
def bX10_shift_0 (d rc rs : Nat) (a1 : Int32) (a2 : Int32) (a3 : Int32) (a4 : Int32) (a5 : Int32) (σ : XH) (Q : XV → XH → Prop) : Prop :=
  ((1 ≤ d ∧ Ec (d - 1) 0 0 m_X10_tapeAt [vR (some (11, 0)), vI a1] σ (kR fun x2 h1 => ((1 ≤ d ∧ Ec (d - 1) 0 0 m_X10_tapeAt [vR (some (11, 0)), vI a3] h1 (kR fun x4 h3 => (((x2 : Option XO) = none → Ex d rc rs m_X10_shift 24 [vU, vU, vU, vU, vU, vU, vU, vU] [] h3 Q) ∧ (¬ (x2 : Option XO) = none → (((x4 : Option XO) = none → Ex d rc rs m_X10_shift 24 [vU, vU, vU, vU, vU, vU, vU, vU] [] h3 Q) ∧ (¬ (x4 : Option XO) = none → (drf x2 10 fun i21 => (1 ≤ d ∧ Ec (d - 1) 0 0 m_X9_holdsRow [vR (some (10, i21))] h3 (kI fun x6 h5 => ((x6 = 0 → Ex d rc rs m_X10_shift 42 [vU, vU, vU, vU, vU, vU, vU, vU] [] h5 Q) ∧ (¬ x6 = 0 → (drf x4 10 fun i20 => (1 ≤ d ∧ Ec (d - 1) 0 0 m_X9_holdsRow [vR (some (10, i20))] h5 (kI fun x8 h7 => ((x8 = 0 → Ex d rc rs m_X10_shift 42 [vU, vU, vU, vU, vU, vU, vU, vU] [] h7 Q) ∧ (¬ x8 = 0 → (drf x2 10 fun i9 => (drf x4 10 fun i10 => (((hi h7 10 i9 1) = (hi h7 10 i10 1) → (drf x2 10 fun i19 => (1 ≤ d ∧ Ec (d - 1) 0 0 m_X9_hasPlaces [vR (some (10, i19)), vI a2, vI a5] h7 (kI fun x12 h11 => ((x12 = 0 → Ex d rc rs m_X10_shift 84 [vU, vU, vU, vU, vU, vU, vU, vU] [] h11 Q) ∧ (¬ x12 = 0 → (drf x4 10 fun i18 => (1 ≤ d ∧ Ec (d - 1) 0 0 m_X9_hasPlaces [vR (some (10, i18)), vI a4, vI a5] h11 (kI fun x14 h13 => ((x14 = 0 → Ex d rc rs m_X10_shift 84 [vU, vU, vU, vU, vU, vU, vU, vU] [] h13 Q) ∧ (¬ x14 = 0 → (drf x2 10 fun i15 => (hr h13 10 i15 0 = some (114, i15) ∧ (drf x4 10 fun i16 => (hr h13 10 i16 0 = some (114, i16) ∧ (((1 ≤ d ∧ ¬ a2 < 0 ∧ ¬ a4 < 0 ∧ ¬ a5 < 0 ∧ a2.toNatClampNeg + a5.toNatClampNeg ≤ hn h13 114 i15 ∧ a4.toNatClampNeg + a5.toNatClampNeg ≤ hn h13 114 i16 ∧ (∀ h17, h17 = cpI h13 (114, i15) a2.toNatClampNeg (114, i16) a4.toNatClampNeg a5.toNatClampNeg → Q (vI a5) h17))))))))))))))))))) ∧ (¬ (hi h7 10 i9 1) = (hi h7 10 i10 1) → Q (vI (-12)) h7))))))))))))))))))))))))
set_option maxRecDepth 40000 in
set_option maxHeartbeats 4000000 in
theorem sX10_shift_0 {d rc rs : Nat} {a1 : Int32} {a2 : Int32} {a3 : Int32} {a4 : Int32} {a5 : Int32} {σ : XH} {Q : XV → XH → Prop} (h : bX10_shift_0 d rc rs a1 a2 a3 a4 a5 σ Q) : Ex d rc rs m_X10_shift 0 [vR (some (11, 0)), vI a1, vI a2, vI a3, vI a4, vI a5, vU, vU] [] σ Q :=
  xtree_sound (stop := stpX10_shift) okX10_shift 45 _ _ _ _ _ _ h
def bX10_shift_24 (d rc rs : Nat)  (σ : XH) (Q : XV → XH → Prop) : Prop :=
  Q (vI (-1)) σ
theorem sX10_shift_24 {d rc rs : Nat}  {σ : XH} {Q : XV → XH → Prop} (h : bX10_shift_24 d rc rs  σ Q) : Ex d rc rs m_X10_shift 24 [vU, vU, vU, vU, vU, vU, vU, vU] [] σ Q :=
  xtree_sound (stop := stpX10_shift) okX10_shift 4 _ _ _ _ _ _ h
def bX10_shift_42 (d rc rs : Nat)  (σ : XH) (Q : XV → XH → Prop) : Prop :=
  Q (vI (-11)) σ
theorem sX10_shift_42 {d rc rs : Nat}  {σ : XH} {Q : XV → XH → Prop} (h : bX10_shift_42 d rc rs  σ Q) : Ex d rc rs m_X10_shift 42 [vU, vU, vU, vU, vU, vU, vU, vU] [] σ Q :=
  xtree_sound (stop := stpX10_shift) okX10_shift 4 _ _ _ _ _ _ h
def bX10_shift_84 (d rc rs : Nat)  (σ : XH) (Q : XV → XH → Prop) : Prop :=
  Q (vI (-13)) σ
theorem sX10_shift_84 {d rc rs : Nat}  {σ : XH} {Q : XV → XH → Prop} (h : bX10_shift_84 d rc rs  σ Q) : Ex d rc rs m_X10_shift 84 [vU, vU, vU, vU, vU, vU, vU, vU] [] σ Q :=
  xtree_sound (stop := stpX10_shift) okX10_shift 4 _ _ _ _ _ _ h
/-! SpotTimers.within(III)Z -/
theorem dX10_within_0 : decode cX10_within 0 = .ok (.iload_n 0, 1) := by decide +kernel
theorem dX10_within_1 : decode cX10_within 1 = .ok (.iload_n 1, 1) := by decide +kernel
theorem dX10_within_2 : decode cX10_within 2 = .ok (.if_icmp .lt 12, 3) := by decide +kernel
theorem dX10_within_5 : decode cX10_within 5 = .ok (.iload_n 0, 1) := by decide +kernel
theorem dX10_within_6 : decode cX10_within 6 = .ok (.iload_n 2, 1) := by decide +kernel
theorem dX10_within_7 : decode cX10_within 7 = .ok (.if_icmp .gt 7, 3) := by decide +kernel
theorem dX10_within_10 : decode cX10_within 10 = .ok (.iconst 1, 1) := by decide +kernel
theorem dX10_within_11 : decode cX10_within 11 = .ok (.goto 4, 3) := by decide +kernel
theorem dX10_within_14 : decode cX10_within 14 = .ok (.iconst 0, 1) := by decide +kernel
theorem dX10_within_15 : decode cX10_within 15 = .ok (.ireturn, 1) := by decide +kernel
theorem oX10_within_0 : OKI 111 0 (.iload_n 0, 1, [0], 0, 0, []) := And.intro dX10_within_0 (And.intro rfl (rfl))
theorem oX10_within_1 : OKI 111 1 (.iload_n 1, 2, [1], 0, 0, []) := And.intro dX10_within_1 (And.intro rfl (rfl))
theorem oX10_within_2 : OKI 111 2 (.if_icmp .lt 12, 5, [14], 0, 0, []) := And.intro dX10_within_2 (And.intro rfl (by decide))
theorem oX10_within_5 : OKI 111 5 (.iload_n 0, 6, [0], 0, 0, []) := And.intro dX10_within_5 (And.intro rfl (rfl))
theorem oX10_within_6 : OKI 111 6 (.iload_n 2, 7, [2], 0, 0, []) := And.intro dX10_within_6 (And.intro rfl (rfl))
theorem oX10_within_7 : OKI 111 7 (.if_icmp .gt 7, 10, [14], 0, 0, []) := And.intro dX10_within_7 (And.intro rfl (by decide))
theorem oX10_within_10 : OKI 111 10 (.iconst 1, 11, [], 1, 0, []) := And.intro dX10_within_10 (And.intro rfl (by decide +kernel))
theorem oX10_within_11 : OKI 111 11 (.goto 4, 14, [15], 0, 0, []) := And.intro dX10_within_11 (And.intro rfl (by decide))
theorem oX10_within_14 : OKI 111 14 (.iconst 0, 15, [], 0, 0, []) := And.intro dX10_within_14 (And.intro rfl (by decide +kernel))
theorem oX10_within_15 : OKI 111 15 (.ireturn, 16, [3], 0, 0, []) := And.intro dX10_within_15 (Or.inr (Or.inl (And.intro rfl rfl)))
def pfX10_within (pc : Nat) : Option XE := (bif Nat.blt pc 7 then (bif Nat.blt pc 2 then (bif Nat.blt pc 1 then (bif Nat.beq pc 0 then some (.iload_n 0, 1, [0], 0, 0, []) else none) else (bif Nat.beq pc 1 then some (.iload_n 1, 2, [1], 0, 0, []) else none)) else (bif Nat.blt pc 5 then (bif Nat.beq pc 2 then some (.if_icmp .lt 12, 5, [14], 0, 0, []) else none) else (bif Nat.blt pc 6 then (bif Nat.beq pc 5 then some (.iload_n 0, 6, [0], 0, 0, []) else none) else (bif Nat.beq pc 6 then some (.iload_n 2, 7, [2], 0, 0, []) else none)))) else (bif Nat.blt pc 11 then (bif Nat.blt pc 10 then (bif Nat.beq pc 7 then some (.if_icmp .gt 7, 10, [14], 0, 0, []) else none) else (bif Nat.beq pc 10 then some (.iconst 1, 11, [], 1, 0, []) else none)) else (bif Nat.blt pc 14 then (bif Nat.beq pc 11 then some (.goto 4, 14, [15], 0, 0, []) else none) else (bif Nat.blt pc 15 then (bif Nat.beq pc 14 then some (.iconst 0, 15, [], 0, 0, []) else none) else (bif Nat.beq pc 15 then some (.ireturn, 16, [3], 0, 0, []) else none)))))
theorem okX10_within : ∀ pc Y, pfX10_within pc = some Y → OKI m_X10_within pc Y := fun pc Y => ((bt_node (bt_node (bt_node (bt_leaf (P := OKI m_X10_within) oX10_within_0) (bt_leaf (P := OKI m_X10_within) oX10_within_1)) (bt_node (bt_leaf (P := OKI m_X10_within) oX10_within_2) (bt_node (bt_leaf (P := OKI m_X10_within) oX10_within_5) (bt_leaf (P := OKI m_X10_within) oX10_within_6)))) (bt_node (bt_node (bt_leaf (P := OKI m_X10_within) oX10_within_7) (bt_leaf (P := OKI m_X10_within) oX10_within_10)) (bt_node (bt_leaf (P := OKI m_X10_within) oX10_within_11) (bt_node (bt_leaf (P := OKI m_X10_within) oX10_within_14) (bt_leaf (P := OKI m_X10_within) oX10_within_15))))) : pfX10_within pc = some Y → OKI m_X10_within pc Y)
def stpX10_within (pc : Nat) : Option (List Bool) := (bif Nat.blt pc 15 then (bif Nat.beq pc 14 then some [false, false, false] else none) else (bif Nat.beq pc 15 then some [false, false, false] else none))
def bX10_within_0 (d rc rs : Nat) (a1 : Int32) (a2 : Int32) (a3 : Int32) (σ : XH) (Q : XV → XH → Prop) : Prop :=
  ((a1 < a2 → Ex d rc rs m_X10_within 14 [vU, vU, vU] [] σ Q) ∧ (¬ a1 < a2 → ((a3 < a1 → Ex d rc rs m_X10_within 14 [vU, vU, vU] [] σ Q) ∧ (¬ a3 < a1 → Ex d rc rs m_X10_within 15 [vU, vU, vU] [vI 1] σ Q))))
theorem sX10_within_0 {d rc rs : Nat} {a1 : Int32} {a2 : Int32} {a3 : Int32} {σ : XH} {Q : XV → XH → Prop} (h : bX10_within_0 d rc rs a1 a2 a3 σ Q) : Ex d rc rs m_X10_within 0 [vI a1, vI a2, vI a3] [] σ Q :=
  xtree_sound (stop := stpX10_within) okX10_within 10 _ _ _ _ _ _ h
def bX10_within_14 (d rc rs : Nat)  (σ : XH) (Q : XV → XH → Prop) : Prop :=
  Ex d rc rs m_X10_within 15 [vU, vU, vU] [vI 0] σ Q
theorem sX10_within_14 {d rc rs : Nat}  {σ : XH} {Q : XV → XH → Prop} (h : bX10_within_14 d rc rs  σ Q) : Ex d rc rs m_X10_within 14 [vU, vU, vU] [] σ Q :=
  xtree_sound (stop := stpX10_within) okX10_within 3 _ _ _ _ _ _ h
def bX10_within_15 (d rc rs : Nat) (q0 : Int32) (σ : XH) (Q : XV → XH → Prop) : Prop :=
  ((q0 = 0 ∨ q0 = 1) ∧ Q (vI q0) σ)
theorem sX10_within_15 {d rc rs : Nat} {q0 : Int32} {σ : XH} {Q : XV → XH → Prop} (h : bX10_within_15 d rc rs q0 σ Q) : Ex d rc rs m_X10_within 15 [vU, vU, vU] [vI q0] σ Q :=
  xtree_sound (stop := stpX10_within) okX10_within 3 _ _ _ _ _ _ h
/-! SpotTimers.isTime(I)Z -/
theorem dX10_isTime_0 : decode cX10_isTime 0 = .ok (.iload_n 0, 1) := by decide +kernel
theorem dX10_isTime_1 : decode cX10_isTime 1 = .ok (.iconst 0, 1) := by decide +kernel
theorem dX10_isTime_2 : decode cX10_isTime 2 = .ok (.ldc_w 406, 3) := by decide +kernel
theorem dX10_isTime_5 : decode cX10_isTime 5 = .ok (.invokestatic 84, 3) := by decide +kernel
theorem dX10_isTime_8 : decode cX10_isTime 8 = .ok (.ireturn, 1) := by decide +kernel
theorem oX10_isTime_0 : OKI 112 0 (.iload_n 0, 1, [0], 0, 0, []) := And.intro dX10_isTime_0 (And.intro rfl (rfl))
theorem oX10_isTime_1 : OKI 112 1 (.iconst 0, 2, [], 0, 0, []) := And.intro dX10_isTime_1 (And.intro rfl (by decide +kernel))
theorem oX10_isTime_2 : OKI 112 2 (.ldc_w 406, 5, [], 999999, 0, []) := And.intro dX10_isTime_2 (And.intro rfl (tm_2 _ (List.mem_of_getElem? (i := 213) rfl) rfl))
theorem oX10_isTime_5 : OKI 112 5 (.invokestatic 84, 8, [111, 3, 0, 0, 0, 1], 0, 0, []) := And.intro dX10_isTime_5 (And.intro rfl (And.intro rfl (And.intro mo_X10_within (And.intro (Or.inl (tm_2 _ (List.mem_of_getElem? (i := 40) rfl) rfl)) (tm_2 _ (List.mem_of_getElem? (i := 41) rfl) rfl)))))
theorem oX10_isTime_8 : OKI 112 8 (.ireturn, 9, [3], 0, 0, []) := And.intro dX10_isTime_8 (Or.inr (Or.inl (And.intro rfl rfl)))
def pfX10_isTime (pc : Nat) : Option XE := (bif Nat.blt pc 2 then (bif Nat.blt pc 1 then (bif Nat.beq pc 0 then some (.iload_n 0, 1, [0], 0, 0, []) else none) else (bif Nat.beq pc 1 then some (.iconst 0, 2, [], 0, 0, []) else none)) else (bif Nat.blt pc 5 then (bif Nat.beq pc 2 then some (.ldc_w 406, 5, [], 999999, 0, []) else none) else (bif Nat.blt pc 8 then (bif Nat.beq pc 5 then some (.invokestatic 84, 8, [111, 3, 0, 0, 0, 1], 0, 0, []) else none) else (bif Nat.beq pc 8 then some (.ireturn, 9, [3], 0, 0, []) else none))))
theorem okX10_isTime : ∀ pc Y, pfX10_isTime pc = some Y → OKI m_X10_isTime pc Y := fun pc Y => ((bt_node (bt_node (bt_leaf (P := OKI m_X10_isTime) oX10_isTime_0) (bt_leaf (P := OKI m_X10_isTime) oX10_isTime_1)) (bt_node (bt_leaf (P := OKI m_X10_isTime) oX10_isTime_2) (bt_node (bt_leaf (P := OKI m_X10_isTime) oX10_isTime_5) (bt_leaf (P := OKI m_X10_isTime) oX10_isTime_8)))) : pfX10_isTime pc = some Y → OKI m_X10_isTime pc Y)
def stpX10_isTime (_ : Nat) : Option (List Bool) := none
def bX10_isTime_0 (d rc rs : Nat) (a1 : Int32) (σ : XH) (Q : XV → XH → Prop) : Prop :=
  (1 ≤ d ∧ Ec (d - 1) 0 0 m_X10_within [vI a1, vI 0, vI 999999] σ (kI fun x2 h1 => ((x2 = 0 ∨ x2 = 1) ∧ Q (vI x2) h1)))
theorem sX10_isTime_0 {d rc rs : Nat} {a1 : Int32} {σ : XH} {Q : XV → XH → Prop} (h : bX10_isTime_0 d rc rs a1 σ Q) : Ex d rc rs m_X10_isTime 0 [vI a1] [] σ Q :=
  xtree_sound (stop := stpX10_isTime) okX10_isTime 7 _ _ _ _ _ _ h
/-! SpotTimers.isDay(I)Z -/
theorem dX10_isDay_0 : decode cX10_isDay 0 = .ok (.iload_n 0, 1) := by decide +kernel
theorem dX10_isDay_1 : decode cX10_isDay 1 = .ok (.iconst 0, 1) := by decide +kernel
theorem dX10_isDay_2 : decode cX10_isDay 2 = .ok (.sipush 9999, 3) := by decide +kernel
theorem dX10_isDay_5 : decode cX10_isDay 5 = .ok (.invokestatic 84, 3) := by decide +kernel
theorem dX10_isDay_8 : decode cX10_isDay 8 = .ok (.ireturn, 1) := by decide +kernel
theorem oX10_isDay_0 : OKI 113 0 (.iload_n 0, 1, [0], 0, 0, []) := And.intro dX10_isDay_0 (And.intro rfl (rfl))
theorem oX10_isDay_1 : OKI 113 1 (.iconst 0, 2, [], 0, 0, []) := And.intro dX10_isDay_1 (And.intro rfl (by decide +kernel))
theorem oX10_isDay_2 : OKI 113 2 (.sipush 9999, 5, [], 9999, 0, []) := And.intro dX10_isDay_2 (And.intro rfl (by decide +kernel))
theorem oX10_isDay_5 : OKI 113 5 (.invokestatic 84, 8, [111, 3, 0, 0, 0, 1], 0, 0, []) := And.intro dX10_isDay_5 (And.intro rfl (And.intro rfl (And.intro mo_X10_within (And.intro (Or.inl (tm_2 _ (List.mem_of_getElem? (i := 40) rfl) rfl)) (tm_2 _ (List.mem_of_getElem? (i := 41) rfl) rfl)))))
theorem oX10_isDay_8 : OKI 113 8 (.ireturn, 9, [3], 0, 0, []) := And.intro dX10_isDay_8 (Or.inr (Or.inl (And.intro rfl rfl)))
def pfX10_isDay (pc : Nat) : Option XE := (bif Nat.blt pc 2 then (bif Nat.blt pc 1 then (bif Nat.beq pc 0 then some (.iload_n 0, 1, [0], 0, 0, []) else none) else (bif Nat.beq pc 1 then some (.iconst 0, 2, [], 0, 0, []) else none)) else (bif Nat.blt pc 5 then (bif Nat.beq pc 2 then some (.sipush 9999, 5, [], 9999, 0, []) else none) else (bif Nat.blt pc 8 then (bif Nat.beq pc 5 then some (.invokestatic 84, 8, [111, 3, 0, 0, 0, 1], 0, 0, []) else none) else (bif Nat.beq pc 8 then some (.ireturn, 9, [3], 0, 0, []) else none))))
theorem okX10_isDay : ∀ pc Y, pfX10_isDay pc = some Y → OKI m_X10_isDay pc Y := fun pc Y => ((bt_node (bt_node (bt_leaf (P := OKI m_X10_isDay) oX10_isDay_0) (bt_leaf (P := OKI m_X10_isDay) oX10_isDay_1)) (bt_node (bt_leaf (P := OKI m_X10_isDay) oX10_isDay_2) (bt_node (bt_leaf (P := OKI m_X10_isDay) oX10_isDay_5) (bt_leaf (P := OKI m_X10_isDay) oX10_isDay_8)))) : pfX10_isDay pc = some Y → OKI m_X10_isDay pc Y)
def stpX10_isDay (_ : Nat) : Option (List Bool) := none
def bX10_isDay_0 (d rc rs : Nat) (a1 : Int32) (σ : XH) (Q : XV → XH → Prop) : Prop :=
  (1 ≤ d ∧ Ec (d - 1) 0 0 m_X10_within [vI a1, vI 0, vI 9999] σ (kI fun x2 h1 => ((x2 = 0 ∨ x2 = 1) ∧ Q (vI x2) h1)))
theorem sX10_isDay_0 {d rc rs : Nat} {a1 : Int32} {σ : XH} {Q : XV → XH → Prop} (h : bX10_isDay_0 d rc rs a1 σ Q) : Ex d rc rs m_X10_isDay 0 [vI a1] [] σ Q :=
  xtree_sound (stop := stpX10_isDay) okX10_isDay 7 _ _ _ _ _ _ h
/-! SpotTimers.isHand(I)Z -/
theorem dX10_isHand_0 : decode cX10_isHand 0 = .ok (.iload_n 0, 1) := by decide +kernel
theorem dX10_isHand_1 : decode cX10_isHand 1 = .ok (.iconst 0, 1) := by decide +kernel
theorem dX10_isHand_2 : decode cX10_isHand 2 = .ok (.iconst 5, 1) := by decide +kernel
theorem dX10_isHand_3 : decode cX10_isHand 3 = .ok (.invokestatic 84, 3) := by decide +kernel
theorem dX10_isHand_6 : decode cX10_isHand 6 = .ok (.ireturn, 1) := by decide +kernel
theorem oX10_isHand_0 : OKI 114 0 (.iload_n 0, 1, [0], 0, 0, []) := And.intro dX10_isHand_0 (And.intro rfl (rfl))
theorem oX10_isHand_1 : OKI 114 1 (.iconst 0, 2, [], 0, 0, []) := And.intro dX10_isHand_1 (And.intro rfl (by decide +kernel))
theorem oX10_isHand_2 : OKI 114 2 (.iconst 5, 3, [], 5, 0, []) := And.intro dX10_isHand_2 (And.intro rfl (by decide +kernel))
theorem oX10_isHand_3 : OKI 114 3 (.invokestatic 84, 6, [111, 3, 0, 0, 0, 1], 0, 0, []) := And.intro dX10_isHand_3 (And.intro rfl (And.intro rfl (And.intro mo_X10_within (And.intro (Or.inl (tm_2 _ (List.mem_of_getElem? (i := 40) rfl) rfl)) (tm_2 _ (List.mem_of_getElem? (i := 41) rfl) rfl)))))
theorem oX10_isHand_6 : OKI 114 6 (.ireturn, 7, [3], 0, 0, []) := And.intro dX10_isHand_6 (Or.inr (Or.inl (And.intro rfl rfl)))
def pfX10_isHand (pc : Nat) : Option XE := (bif Nat.blt pc 2 then (bif Nat.blt pc 1 then (bif Nat.beq pc 0 then some (.iload_n 0, 1, [0], 0, 0, []) else none) else (bif Nat.beq pc 1 then some (.iconst 0, 2, [], 0, 0, []) else none)) else (bif Nat.blt pc 3 then (bif Nat.beq pc 2 then some (.iconst 5, 3, [], 5, 0, []) else none) else (bif Nat.blt pc 6 then (bif Nat.beq pc 3 then some (.invokestatic 84, 6, [111, 3, 0, 0, 0, 1], 0, 0, []) else none) else (bif Nat.beq pc 6 then some (.ireturn, 7, [3], 0, 0, []) else none))))
theorem okX10_isHand : ∀ pc Y, pfX10_isHand pc = some Y → OKI m_X10_isHand pc Y := fun pc Y => ((bt_node (bt_node (bt_leaf (P := OKI m_X10_isHand) oX10_isHand_0) (bt_leaf (P := OKI m_X10_isHand) oX10_isHand_1)) (bt_node (bt_leaf (P := OKI m_X10_isHand) oX10_isHand_2) (bt_node (bt_leaf (P := OKI m_X10_isHand) oX10_isHand_3) (bt_leaf (P := OKI m_X10_isHand) oX10_isHand_6)))) : pfX10_isHand pc = some Y → OKI m_X10_isHand pc Y)
def stpX10_isHand (_ : Nat) : Option (List Bool) := none
def bX10_isHand_0 (d rc rs : Nat) (a1 : Int32) (σ : XH) (Q : XV → XH → Prop) : Prop :=
  (1 ≤ d ∧ Ec (d - 1) 0 0 m_X10_within [vI a1, vI 0, vI 5] σ (kI fun x2 h1 => ((x2 = 0 ∨ x2 = 1) ∧ Q (vI x2) h1)))
theorem sX10_isHand_0 {d rc rs : Nat} {a1 : Int32} {σ : XH} {Q : XV → XH → Prop} (h : bX10_isHand_0 d rc rs a1 σ Q) : Ex d rc rs m_X10_isHand 0 [vI a1] [] σ Q :=
  xtree_sound (stop := stpX10_isHand) okX10_isHand 7 _ _ _ _ _ _ h
/-! SpotTimers.isHouse(I)Z -/
theorem dX10_isHouse_0 : decode cX10_isHouse 0 = .ok (.iload_n 0, 1) := by decide +kernel
theorem dX10_isHouse_1 : decode cX10_isHouse 1 = .ok (.iconst 0, 1) := by decide +kernel
theorem dX10_isHouse_2 : decode cX10_isHouse 2 = .ok (.iconst 2, 1) := by decide +kernel
theorem dX10_isHouse_3 : decode cX10_isHouse 3 = .ok (.invokestatic 84, 3) := by decide +kernel
theorem dX10_isHouse_6 : decode cX10_isHouse 6 = .ok (.ireturn, 1) := by decide +kernel
theorem oX10_isHouse_0 : OKI 115 0 (.iload_n 0, 1, [0], 0, 0, []) := And.intro dX10_isHouse_0 (And.intro rfl (rfl))
theorem oX10_isHouse_1 : OKI 115 1 (.iconst 0, 2, [], 0, 0, []) := And.intro dX10_isHouse_1 (And.intro rfl (by decide +kernel))
theorem oX10_isHouse_2 : OKI 115 2 (.iconst 2, 3, [], 2, 0, []) := And.intro dX10_isHouse_2 (And.intro rfl (by decide +kernel))
theorem oX10_isHouse_3 : OKI 115 3 (.invokestatic 84, 6, [111, 3, 0, 0, 0, 1], 0, 0, []) := And.intro dX10_isHouse_3 (And.intro rfl (And.intro rfl (And.intro mo_X10_within (And.intro (Or.inl (tm_2 _ (List.mem_of_getElem? (i := 40) rfl) rfl)) (tm_2 _ (List.mem_of_getElem? (i := 41) rfl) rfl)))))
theorem oX10_isHouse_6 : OKI 115 6 (.ireturn, 7, [3], 0, 0, []) := And.intro dX10_isHouse_6 (Or.inr (Or.inl (And.intro rfl rfl)))
def pfX10_isHouse (pc : Nat) : Option XE := (bif Nat.blt pc 2 then (bif Nat.blt pc 1 then (bif Nat.beq pc 0 then some (.iload_n 0, 1, [0], 0, 0, []) else none) else (bif Nat.beq pc 1 then some (.iconst 0, 2, [], 0, 0, []) else none)) else (bif Nat.blt pc 3 then (bif Nat.beq pc 2 then some (.iconst 2, 3, [], 2, 0, []) else none) else (bif Nat.blt pc 6 then (bif Nat.beq pc 3 then some (.invokestatic 84, 6, [111, 3, 0, 0, 0, 1], 0, 0, []) else none) else (bif Nat.beq pc 6 then some (.ireturn, 7, [3], 0, 0, []) else none))))
theorem okX10_isHouse : ∀ pc Y, pfX10_isHouse pc = some Y → OKI m_X10_isHouse pc Y := fun pc Y => ((bt_node (bt_node (bt_leaf (P := OKI m_X10_isHouse) oX10_isHouse_0) (bt_leaf (P := OKI m_X10_isHouse) oX10_isHouse_1)) (bt_node (bt_leaf (P := OKI m_X10_isHouse) oX10_isHouse_2) (bt_node (bt_leaf (P := OKI m_X10_isHouse) oX10_isHouse_3) (bt_leaf (P := OKI m_X10_isHouse) oX10_isHouse_6)))) : pfX10_isHouse pc = some Y → OKI m_X10_isHouse pc Y)
def stpX10_isHouse (_ : Nat) : Option (List Bool) := none
def bX10_isHouse_0 (d rc rs : Nat) (a1 : Int32) (σ : XH) (Q : XV → XH → Prop) : Prop :=
  (1 ≤ d ∧ Ec (d - 1) 0 0 m_X10_within [vI a1, vI 0, vI 2] σ (kI fun x2 h1 => ((x2 = 0 ∨ x2 = 1) ∧ Q (vI x2) h1)))
theorem sX10_isHouse_0 {d rc rs : Nat} {a1 : Int32} {σ : XH} {Q : XV → XH → Prop} (h : bX10_isHouse_0 d rc rs a1 σ Q) : Ex d rc rs m_X10_isHouse 0 [vI a1] [] σ Q :=
  xtree_sound (stop := stpX10_isHouse) okX10_isHouse 7 _ _ _ _ _ _ h
/-! SpotTimers.isEdgeNumber(I)Z -/
theorem dX10_isEdgeNumber_0 : decode cX10_isEdgeNumber 0 = .ok (.iload_n 0, 1) := by decide +kernel
theorem dX10_isEdgeNumber_1 : decode cX10_isEdgeNumber 1 = .ok (.iconst 1, 1) := by decide +kernel
theorem dX10_isEdgeNumber_2 : decode cX10_isEdgeNumber 2 = .ok (.iconst 4, 1) := by decide +kernel
theorem dX10_isEdgeNumber_3 : decode cX10_isEdgeNumber 3 = .ok (.invokestatic 84, 3) := by decide +kernel
theorem dX10_isEdgeNumber_6 : decode cX10_isEdgeNumber 6 = .ok (.ireturn, 1) := by decide +kernel
theorem oX10_isEdgeNumber_0 : OKI 116 0 (.iload_n 0, 1, [0], 0, 0, []) := And.intro dX10_isEdgeNumber_0 (And.intro rfl (rfl))
theorem oX10_isEdgeNumber_1 : OKI 116 1 (.iconst 1, 2, [], 1, 0, []) := And.intro dX10_isEdgeNumber_1 (And.intro rfl (by decide +kernel))
theorem oX10_isEdgeNumber_2 : OKI 116 2 (.iconst 4, 3, [], 4, 0, []) := And.intro dX10_isEdgeNumber_2 (And.intro rfl (by decide +kernel))
theorem oX10_isEdgeNumber_3 : OKI 116 3 (.invokestatic 84, 6, [111, 3, 0, 0, 0, 1], 0, 0, []) := And.intro dX10_isEdgeNumber_3 (And.intro rfl (And.intro rfl (And.intro mo_X10_within (And.intro (Or.inl (tm_2 _ (List.mem_of_getElem? (i := 40) rfl) rfl)) (tm_2 _ (List.mem_of_getElem? (i := 41) rfl) rfl)))))
theorem oX10_isEdgeNumber_6 : OKI 116 6 (.ireturn, 7, [3], 0, 0, []) := And.intro dX10_isEdgeNumber_6 (Or.inr (Or.inl (And.intro rfl rfl)))
def pfX10_isEdgeNumber (pc : Nat) : Option XE := (bif Nat.blt pc 2 then (bif Nat.blt pc 1 then (bif Nat.beq pc 0 then some (.iload_n 0, 1, [0], 0, 0, []) else none) else (bif Nat.beq pc 1 then some (.iconst 1, 2, [], 1, 0, []) else none)) else (bif Nat.blt pc 3 then (bif Nat.beq pc 2 then some (.iconst 4, 3, [], 4, 0, []) else none) else (bif Nat.blt pc 6 then (bif Nat.beq pc 3 then some (.invokestatic 84, 6, [111, 3, 0, 0, 0, 1], 0, 0, []) else none) else (bif Nat.beq pc 6 then some (.ireturn, 7, [3], 0, 0, []) else none))))
theorem okX10_isEdgeNumber : ∀ pc Y, pfX10_isEdgeNumber pc = some Y → OKI m_X10_isEdgeNumber pc Y := fun pc Y => ((bt_node (bt_node (bt_leaf (P := OKI m_X10_isEdgeNumber) oX10_isEdgeNumber_0) (bt_leaf (P := OKI m_X10_isEdgeNumber) oX10_isEdgeNumber_1)) (bt_node (bt_leaf (P := OKI m_X10_isEdgeNumber) oX10_isEdgeNumber_2) (bt_node (bt_leaf (P := OKI m_X10_isEdgeNumber) oX10_isEdgeNumber_3) (bt_leaf (P := OKI m_X10_isEdgeNumber) oX10_isEdgeNumber_6)))) : pfX10_isEdgeNumber pc = some Y → OKI m_X10_isEdgeNumber pc Y)
def stpX10_isEdgeNumber (_ : Nat) : Option (List Bool) := none
def bX10_isEdgeNumber_0 (d rc rs : Nat) (a1 : Int32) (σ : XH) (Q : XV → XH → Prop) : Prop :=
  (1 ≤ d ∧ Ec (d - 1) 0 0 m_X10_within [vI a1, vI 1, vI 4] σ (kI fun x2 h1 => ((x2 = 0 ∨ x2 = 1) ∧ Q (vI x2) h1)))
theorem sX10_isEdgeNumber_0 {d rc rs : Nat} {a1 : Int32} {σ : XH} {Q : XV → XH → Prop} (h : bX10_isEdgeNumber_0 d rc rs a1 σ Q) : Ex d rc rs m_X10_isEdgeNumber 0 [vI a1] [] σ Q :=
  xtree_sound (stop := stpX10_isEdgeNumber) okX10_isEdgeNumber 7 _ _ _ _ _ _ h
/-! SpotTimers.isUnder(II)Z -/
theorem dX10_isUnder_0 : decode cX10_isUnder 0 = .ok (.iload_n 0, 1) := by decide +kernel
theorem dX10_isUnder_1 : decode cX10_isUnder 1 = .ok (.istore_n 2, 1) := by decide +kernel
theorem dX10_isUnder_2 : decode cX10_isUnder 2 = .ok (.iconst 0, 1) := by decide +kernel
theorem dX10_isUnder_3 : decode cX10_isUnder 3 = .ok (.istore_n 3, 1) := by decide +kernel
theorem dX10_isUnder_4 : decode cX10_isUnder 4 = .ok (.iload_n 3, 1) := by decide +kernel
theorem dX10_isUnder_5 : decode cX10_isUnder 5 = .ok (.bipush 8, 2) := by decide +kernel
theorem dX10_isUnder_7 : decode cX10_isUnder 7 = .ok (.if_icmp .ge 32, 3) := by decide +kernel
theorem dX10_isUnder_10 : decode cX10_isUnder 10 = .ok (.iload_n 2, 1) := by decide +kernel
theorem dX10_isUnder_11 : decode cX10_isUnder 11 = .ok (.ifCond .lt 28, 3) := by decide +kernel
theorem dX10_isUnder_14 : decode cX10_isUnder 14 = .ok (.iload_n 2, 1) := by decide +kernel
theorem dX10_isUnder_15 : decode cX10_isUnder 15 = .ok (.bipush 8, 2) := by decide +kernel
theorem dX10_isUnder_17 : decode cX10_isUnder 17 = .ok (.if_icmp .ge 22, 3) := by decide +kernel
theorem dX10_isUnder_20 : decode cX10_isUnder 20 = .ok (.iload_n 2, 1) := by decide +kernel
theorem dX10_isUnder_21 : decode cX10_isUnder 21 = .ok (.iload_n 1, 1) := by decide +kernel
theorem dX10_isUnder_22 : decode cX10_isUnder 22 = .ok (.if_icmp .ne 5, 3) := by decide +kernel
theorem dX10_isUnder_25 : decode cX10_isUnder 25 = .ok (.iconst 1, 1) := by decide +kernel
theorem dX10_isUnder_26 : decode cX10_isUnder 26 = .ok (.ireturn, 1) := by decide +kernel
theorem dX10_isUnder_27 : decode cX10_isUnder 27 = .ok (.getstatic 407, 3) := by decide +kernel
theorem dX10_isUnder_30 : decode cX10_isUnder 30 = .ok (.iload_n 2, 1) := by decide +kernel
theorem dX10_isUnder_31 : decode cX10_isUnder 31 = .ok (.iaload, 1) := by decide +kernel
theorem dX10_isUnder_32 : decode cX10_isUnder 32 = .ok (.istore_n 2, 1) := by decide +kernel
theorem dX10_isUnder_33 : decode cX10_isUnder 33 = .ok (.iinc 3 1, 3) := by decide +kernel
theorem dX10_isUnder_36 : decode cX10_isUnder 36 = .ok (.goto (-32), 3) := by decide +kernel
theorem dX10_isUnder_39 : decode cX10_isUnder 39 = .ok (.iconst 0, 1) := by decide +kernel
theorem dX10_isUnder_40 : decode cX10_isUnder 40 = .ok (.ireturn, 1) := by decide +kernel
theorem oX10_isUnder_0 : OKI 117 0 (.iload_n 0, 1, [0], 0, 0, []) := And.intro dX10_isUnder_0 (And.intro rfl (rfl))
theorem oX10_isUnder_1 : OKI 117 1 (.istore_n 2, 2, [2], 0, 0, []) := And.intro dX10_isUnder_1 (And.intro rfl (And.intro rfl (by decide)))
theorem oX10_isUnder_2 : OKI 117 2 (.iconst 0, 3, [], 0, 0, []) := And.intro dX10_isUnder_2 (And.intro rfl (by decide +kernel))
theorem oX10_isUnder_3 : OKI 117 3 (.istore_n 3, 4, [3], 0, 0, []) := And.intro dX10_isUnder_3 (And.intro rfl (And.intro rfl (by decide)))
theorem oX10_isUnder_4 : OKI 117 4 (.iload_n 3, 5, [3], 0, 0, []) := And.intro dX10_isUnder_4 (And.intro rfl (rfl))
theorem oX10_isUnder_5 : OKI 117 5 (.bipush 8, 7, [], 8, 0, []) := And.intro dX10_isUnder_5 (And.intro rfl (by decide +kernel))
theorem oX10_isUnder_7 : OKI 117 7 (.if_icmp .ge 32, 10, [39], 0, 0, []) := And.intro dX10_isUnder_7 (And.intro rfl (by decide))
theorem oX10_isUnder_10 : OKI 117 10 (.iload_n 2, 11, [2], 0, 0, []) := And.intro dX10_isUnder_10 (And.intro rfl (rfl))
theorem oX10_isUnder_11 : OKI 117 11 (.ifCond .lt 28, 14, [39], 0, 0, []) := And.intro dX10_isUnder_11 (And.intro rfl (by decide))
theorem oX10_isUnder_14 : OKI 117 14 (.iload_n 2, 15, [2], 0, 0, []) := And.intro dX10_isUnder_14 (And.intro rfl (rfl))
theorem oX10_isUnder_15 : OKI 117 15 (.bipush 8, 17, [], 8, 0, []) := And.intro dX10_isUnder_15 (And.intro rfl (by decide +kernel))
theorem oX10_isUnder_17 : OKI 117 17 (.if_icmp .ge 22, 20, [39], 0, 0, []) := And.intro dX10_isUnder_17 (And.intro rfl (by decide))
theorem oX10_isUnder_20 : OKI 117 20 (.iload_n 2, 21, [2], 0, 0, []) := And.intro dX10_isUnder_20 (And.intro rfl (rfl))
theorem oX10_isUnder_21 : OKI 117 21 (.iload_n 1, 22, [1], 0, 0, []) := And.intro dX10_isUnder_21 (And.intro rfl (rfl))
theorem oX10_isUnder_22 : OKI 117 22 (.if_icmp .ne 5, 25, [27], 0, 0, []) := And.intro dX10_isUnder_22 (And.intro rfl (by decide))
theorem oX10_isUnder_25 : OKI 117 25 (.iconst 1, 26, [], 1, 0, []) := And.intro dX10_isUnder_25 (And.intro rfl (by decide +kernel))
theorem oX10_isUnder_26 : OKI 117 26 (.ireturn, 27, [3], 0, 0, []) := And.intro dX10_isUnder_26 (Or.inr (Or.inl (And.intro rfl rfl)))
theorem oX10_isUnder_27 : OKI 117 27 (.getstatic 407, 30, [500], 0, 0, []) := And.intro dX10_isUnder_27 (And.intro rfl (Or.inr ⟨"ABOVE", Or.inl (And.intro rfl rfl), Or.inl (tm_3 _ (List.mem_of_getElem? (i := 150) rfl) rfl)⟩))
theorem oX10_isUnder_30 : OKI 117 30 (.iload_n 2, 31, [2], 0, 0, []) := And.intro dX10_isUnder_30 (And.intro rfl (rfl))
theorem oX10_isUnder_31 : OKI 117 31 (.iaload, 32, [], 0, 0, []) := And.intro dX10_isUnder_31 rfl
theorem oX10_isUnder_32 : OKI 117 32 (.istore_n 2, 33, [2], 0, 0, []) := And.intro dX10_isUnder_32 (And.intro rfl (And.intro rfl (by decide)))
theorem oX10_isUnder_33 : OKI 117 33 (.iinc 3 1, 36, [3], 1, 0, []) := And.intro dX10_isUnder_33 (And.intro rfl (And.intro rfl (And.intro (by decide +kernel) (by decide))))
theorem oX10_isUnder_36 : OKI 117 36 (.goto (-32), 39, [4], 0, 0, []) := And.intro dX10_isUnder_36 (And.intro rfl (by decide))
theorem oX10_isUnder_39 : OKI 117 39 (.iconst 0, 40, [], 0, 0, []) := And.intro dX10_isUnder_39 (And.intro rfl (by decide +kernel))
theorem oX10_isUnder_40 : OKI 117 40 (.ireturn, 41, [3], 0, 0, []) := And.intro dX10_isUnder_40 (Or.inr (Or.inl (And.intro rfl rfl)))
def pfX10_isUnder (pc : Nat) : Option XE := (bif Nat.blt pc 20 then (bif Nat.blt pc 7 then (bif Nat.blt pc 3 then (bif Nat.blt pc 1 then (bif Nat.beq pc 0 then some (.iload_n 0, 1, [0], 0, 0, []) else none) else (bif Nat.blt pc 2 then (bif Nat.beq pc 1 then some (.istore_n 2, 2, [2], 0, 0, []) else none) else (bif Nat.beq pc 2 then some (.iconst 0, 3, [], 0, 0, []) else none))) else (bif Nat.blt pc 4 then (bif Nat.beq pc 3 then some (.istore_n 3, 4, [3], 0, 0, []) else none) else (bif Nat.blt pc 5 then (bif Nat.beq pc 4 then some (.iload_n 3, 5, [3], 0, 0, []) else none) else (bif Nat.beq pc 5 then some (.bipush 8, 7, [], 8, 0, []) else none)))) else (bif Nat.blt pc 14 then (bif Nat.blt pc 10 then (bif Nat.beq pc 7 then some (.if_icmp .ge 32, 10, [39], 0, 0, []) else none) else (bif Nat.blt pc 11 then (bif Nat.beq pc 10 then some (.iload_n 2, 11, [2], 0, 0, []) else none) else (bif Nat.beq pc 11 then some (.ifCond .lt 28, 14, [39], 0, 0, []) else none))) else (bif Nat.blt pc 15 then (bif Nat.beq pc 14 then some (.iload_n 2, 15, [2], 0, 0, []) else none) else (bif Nat.blt pc 17 then (bif Nat.beq pc 15 then some (.bipush 8, 17, [], 8, 0, []) else none) else (bif Nat.beq pc 17 then some (.if_icmp .ge 22, 20, [39], 0, 0, []) else none))))) else (bif Nat.blt pc 30 then (bif Nat.blt pc 25 then (bif Nat.blt pc 21 then (bif Nat.beq pc 20 then some (.iload_n 2, 21, [2], 0, 0, []) else none) else (bif Nat.blt pc 22 then (bif Nat.beq pc 21 then some (.iload_n 1, 22, [1], 0, 0, []) else none) else (bif Nat.beq pc 22 then some (.if_icmp .ne 5, 25, [27], 0, 0, []) else none))) else (bif Nat.blt pc 26 then (bif Nat.beq pc 25 then some (.iconst 1, 26, [], 1, 0, []) else none) else (bif Nat.blt pc 27 then (bif Nat.beq pc 26 then some (.ireturn, 27, [3], 0, 0, []) else none) else (bif Nat.beq pc 27 then some (.getstatic 407, 30, [500], 0, 0, []) else none)))) else (bif Nat.blt pc 33 then (bif Nat.blt pc 31 then (bif Nat.beq pc 30 then some (.iload_n 2, 31, [2], 0, 0, []) else none) else (bif Nat.blt pc 32 then (bif Nat.beq pc 31 then some (.iaload, 32, [], 0, 0, []) else none) else (bif Nat.beq pc 32 then some (.istore_n 2, 33, [2], 0, 0, []) else none))) else (bif Nat.blt pc 39 then (bif Nat.blt pc 36 then (bif Nat.beq pc 33 then some (.iinc 3 1, 36, [3], 1, 0, []) else none) else (bif Nat.beq pc 36 then some (.goto (-32), 39, [4], 0, 0, []) else none)) else (bif Nat.blt pc 40 then (bif Nat.beq pc 39 then some (.iconst 0, 40, [], 0, 0, []) else none) else (bif Nat.beq pc 40 then some (.ireturn, 41, [3], 0, 0, []) else none))))))
theorem okX10_isUnder : ∀ pc Y, pfX10_isUnder pc = some Y → OKI m_X10_isUnder pc Y := fun pc Y => ((bt_node (bt_node (bt_node (bt_node (bt_leaf (P := OKI m_X10_isUnder) oX10_isUnder_0) (bt_node (bt_leaf (P := OKI m_X10_isUnder) oX10_isUnder_1) (bt_leaf (P := OKI m_X10_isUnder) oX10_isUnder_2))) (bt_node (bt_leaf (P := OKI m_X10_isUnder) oX10_isUnder_3) (bt_node (bt_leaf (P := OKI m_X10_isUnder) oX10_isUnder_4) (bt_leaf (P := OKI m_X10_isUnder) oX10_isUnder_5)))) (bt_node (bt_node (bt_leaf (P := OKI m_X10_isUnder) oX10_isUnder_7) (bt_node (bt_leaf (P := OKI m_X10_isUnder) oX10_isUnder_10) (bt_leaf (P := OKI m_X10_isUnder) oX10_isUnder_11))) (bt_node (bt_leaf (P := OKI m_X10_isUnder) oX10_isUnder_14) (bt_node (bt_leaf (P := OKI m_X10_isUnder) oX10_isUnder_15) (bt_leaf (P := OKI m_X10_isUnder) oX10_isUnder_17))))) (bt_node (bt_node (bt_node (bt_leaf (P := OKI m_X10_isUnder) oX10_isUnder_20) (bt_node (bt_leaf (P := OKI m_X10_isUnder) oX10_isUnder_21) (bt_leaf (P := OKI m_X10_isUnder) oX10_isUnder_22))) (bt_node (bt_leaf (P := OKI m_X10_isUnder) oX10_isUnder_25) (bt_node (bt_leaf (P := OKI m_X10_isUnder) oX10_isUnder_26) (bt_leaf (P := OKI m_X10_isUnder) oX10_isUnder_27)))) (bt_node (bt_node (bt_leaf (P := OKI m_X10_isUnder) oX10_isUnder_30) (bt_node (bt_leaf (P := OKI m_X10_isUnder) oX10_isUnder_31) (bt_leaf (P := OKI m_X10_isUnder) oX10_isUnder_32))) (bt_node (bt_node (bt_leaf (P := OKI m_X10_isUnder) oX10_isUnder_33) (bt_leaf (P := OKI m_X10_isUnder) oX10_isUnder_36)) (bt_node (bt_leaf (P := OKI m_X10_isUnder) oX10_isUnder_39) (bt_leaf (P := OKI m_X10_isUnder) oX10_isUnder_40)))))) : pfX10_isUnder pc = some Y → OKI m_X10_isUnder pc Y)
def stpX10_isUnder (pc : Nat) : Option (List Bool) := (bif Nat.blt pc 39 then (bif Nat.beq pc 4 then some [false, true, true, true] else none) else (bif Nat.beq pc 39 then some [false, false, false, false] else none))
def bX10_isUnder_0 (d rc rs : Nat) (a1 : Int32) (a2 : Int32) (σ : XH) (Q : XV → XH → Prop) : Prop :=
  Ex d rc rs m_X10_isUnder 4 [vU, vI a2, vI a1, vI 0] [] σ Q
theorem sX10_isUnder_0 {d rc rs : Nat} {a1 : Int32} {a2 : Int32} {σ : XH} {Q : XV → XH → Prop} (h : bX10_isUnder_0 d rc rs a1 a2 σ Q) : Ex d rc rs m_X10_isUnder 0 [vI a1, vI a2, vU, vU] [] σ Q :=
  xtree_sound (stop := stpX10_isUnder) okX10_isUnder 6 _ _ _ _ _ _ h
def bX10_isUnder_4 (d rc rs : Nat) (l1 : Int32) (l2 : Int32) (l3 : Int32) (σ : XH) (Q : XV → XH → Prop) : Prop :=
  ((l3 < 8 → ((l2 < 0 → Ex d rc rs m_X10_isUnder 39 [vU, vU, vU, vU] [] σ Q) ∧ (¬ l2 < 0 → ((l2 < 8 → ((l2 = l1 → (((1 : Int32) = 0 ∨ (1 : Int32) = 1) ∧ Q (vI 1) σ)) ∧ (¬ l2 = l1 → ((vp_in l2 (hn σ 500 0) ∧ Ex d rc rs m_X10_isUnder 4 [vU, vI l1, vI (hi σ 500 0 l2.toNatClampNeg), vI (l3 + 1)] [] σ Q))))) ∧ (¬ l2 < 8 → Ex d rc rs m_X10_isUnder 39 [vU, vU, vU, vU] [] σ Q))))) ∧ (¬ l3 < 8 → Ex d rc rs m_X10_isUnder 39 [vU, vU, vU, vU] [] σ Q))
theorem sX10_isUnder_4 {d rc rs : Nat} {l1 : Int32} {l2 : Int32} {l3 : Int32} {σ : XH} {Q : XV → XH → Prop} (h : bX10_isUnder_4 d rc rs l1 l2 l3 σ Q) : Ex d rc rs m_X10_isUnder 4 [vU, vI l1, vI l2, vI l3] [] σ Q :=
  xtree_sound (stop := stpX10_isUnder) okX10_isUnder 19 _ _ _ _ _ _ h
def bX10_isUnder_39 (d rc rs : Nat)  (σ : XH) (Q : XV → XH → Prop) : Prop :=
  (((0 : Int32) = 0 ∨ (0 : Int32) = 1) ∧ Q (vI 0) σ)
theorem sX10_isUnder_39 {d rc rs : Nat}  {σ : XH} {Q : XV → XH → Prop} (h : bX10_isUnder_39 d rc rs  σ Q) : Ex d rc rs m_X10_isUnder 39 [vU, vU, vU, vU] [] σ Q :=
  xtree_sound (stop := stpX10_isUnder) okX10_isUnder 4 _ _ _ _ _ _ h
/-! SpotTimers.fitsKind(III)Z -/
theorem dX10_fitsKind_0 : decode cX10_fitsKind 0 = .ok (.iload_n 0, 1) := by decide +kernel
theorem dX10_fitsKind_1 : decode cX10_fitsKind 1 = .ok (.tableswitch 92 1 5 #[35, 35, 40, 45, 54], 35) := by decide +kernel
theorem dX10_fitsKind_36 : decode cX10_fitsKind 36 = .ok (.iload_n 2, 1) := by decide +kernel
theorem dX10_fitsKind_37 : decode cX10_fitsKind 37 = .ok (.invokestatic 117, 3) := by decide +kernel
theorem dX10_fitsKind_40 : decode cX10_fitsKind 40 = .ok (.ireturn, 1) := by decide +kernel
theorem dX10_fitsKind_41 : decode cX10_fitsKind 41 = .ok (.iload_n 2, 1) := by decide +kernel
theorem dX10_fitsKind_42 : decode cX10_fitsKind 42 = .ok (.invokestatic 160, 3) := by decide +kernel
theorem dX10_fitsKind_45 : decode cX10_fitsKind 45 = .ok (.ireturn, 1) := by decide +kernel
theorem dX10_fitsKind_46 : decode cX10_fitsKind 46 = .ok (.iload_n 2, 1) := by decide +kernel
theorem dX10_fitsKind_47 : decode cX10_fitsKind 47 = .ok (.iload_n 1, 1) := by decide +kernel
theorem dX10_fitsKind_48 : decode cX10_fitsKind 48 = .ok (.ldc_w 406, 3) := by decide +kernel
theorem dX10_fitsKind_51 : decode cX10_fitsKind 51 = .ok (.invokestatic 84, 3) := by decide +kernel
theorem dX10_fitsKind_54 : decode cX10_fitsKind 54 = .ok (.ireturn, 1) := by decide +kernel
theorem dX10_fitsKind_55 : decode cX10_fitsKind 55 = .ok (.iload_n 2, 1) := by decide +kernel
theorem dX10_fitsKind_56 : decode cX10_fitsKind 56 = .ok (.ifCond .le 35, 3) := by decide +kernel
theorem dX10_fitsKind_59 : decode cX10_fitsKind 59 = .ok (.iload_n 2, 1) := by decide +kernel
theorem dX10_fitsKind_60 : decode cX10_fitsKind 60 = .ok (.sipush 1000, 3) := by decide +kernel
theorem dX10_fitsKind_63 : decode cX10_fitsKind 63 = .ok (.idiv, 1) := by decide +kernel
theorem dX10_fitsKind_64 : decode cX10_fitsKind 64 = .ok (.invokestatic 160, 3) := by decide +kernel
theorem dX10_fitsKind_67 : decode cX10_fitsKind 67 = .ok (.ifCond .eq 24, 3) := by decide +kernel
theorem dX10_fitsKind_70 : decode cX10_fitsKind 70 = .ok (.iload_n 2, 1) := by decide +kernel
theorem dX10_fitsKind_71 : decode cX10_fitsKind 71 = .ok (.sipush 1000, 3) := by decide +kernel
theorem dX10_fitsKind_74 : decode cX10_fitsKind 74 = .ok (.irem, 1) := by decide +kernel
theorem dX10_fitsKind_75 : decode cX10_fitsKind 75 = .ok (.sipush 401, 3) := by decide +kernel
theorem dX10_fitsKind_78 : decode cX10_fitsKind 78 = .ok (.sipush 599, 3) := by decide +kernel
theorem dX10_fitsKind_81 : decode cX10_fitsKind 81 = .ok (.invokestatic 84, 3) := by decide +kernel
theorem dX10_fitsKind_84 : decode cX10_fitsKind 84 = .ok (.ifCond .eq 7, 3) := by decide +kernel
theorem dX10_fitsKind_87 : decode cX10_fitsKind 87 = .ok (.iconst 1, 1) := by decide +kernel
theorem dX10_fitsKind_88 : decode cX10_fitsKind 88 = .ok (.goto 4, 3) := by decide +kernel
theorem dX10_fitsKind_91 : decode cX10_fitsKind 91 = .ok (.iconst 0, 1) := by decide +kernel
theorem dX10_fitsKind_92 : decode cX10_fitsKind 92 = .ok (.ireturn, 1) := by decide +kernel
theorem dX10_fitsKind_93 : decode cX10_fitsKind 93 = .ok (.iconst 0, 1) := by decide +kernel
theorem dX10_fitsKind_94 : decode cX10_fitsKind 94 = .ok (.ireturn, 1) := by decide +kernel
theorem oX10_fitsKind_0 : OKI 118 0 (.iload_n 0, 1, [0], 0, 0, []) := And.intro dX10_fitsKind_0 (And.intro rfl (rfl))
theorem oX10_fitsKind_1 : OKI 118 1 (.tableswitch 92 1 5 #[35, 35, 40, 45, 54], 36, [93], 0, 0, [(1, 36), (2, 36), (3, 41), (4, 46), (5, 55)]) := And.intro ⟨_, dX10_fitsKind_1⟩ (by decide +kernel)
theorem oX10_fitsKind_36 : OKI 118 36 (.iload_n 2, 37, [2], 0, 0, []) := And.intro dX10_fitsKind_36 (And.intro rfl (rfl))
theorem oX10_fitsKind_37 : OKI 118 37 (.invokestatic 117, 40, [112, 1, 0, 0, 0, 1], 0, 0, []) := And.intro dX10_fitsKind_37 (And.intro rfl (And.intro rfl (And.intro mo_X10_isTime (And.intro (Or.inl (tm_2 _ (List.mem_of_getElem? (i := 210) rfl) rfl)) (tm_2 _ (List.mem_of_getElem? (i := 211) rfl) rfl)))))
theorem oX10_fitsKind_40 : OKI 118 40 (.ireturn, 41, [3], 0, 0, []) := And.intro dX10_fitsKind_40 (Or.inr (Or.inl (And.intro rfl rfl)))
theorem oX10_fitsKind_41 : OKI 118 41 (.iload_n 2, 42, [2], 0, 0, []) := And.intro dX10_fitsKind_41 (And.intro rfl (rfl))
theorem oX10_fitsKind_42 : OKI 118 42 (.invokestatic 160, 45, [116, 1, 0, 0, 0, 1], 0, 0, []) := And.intro dX10_fitsKind_42 (And.intro rfl (And.intro rfl (And.intro mo_X10_isEdgeNumber (And.intro (Or.inl (tm_3 _ (List.mem_of_getElem? (i := 35) rfl) rfl)) (tm_3 _ (List.mem_of_getElem? (i := 36) rfl) rfl)))))
theorem oX10_fitsKind_45 : OKI 118 45 (.ireturn, 46, [3], 0, 0, []) := And.intro dX10_fitsKind_45 (Or.inr (Or.inl (And.intro rfl rfl)))
theorem oX10_fitsKind_46 : OKI 118 46 (.iload_n 2, 47, [2], 0, 0, []) := And.intro dX10_fitsKind_46 (And.intro rfl (rfl))
theorem oX10_fitsKind_47 : OKI 118 47 (.iload_n 1, 48, [1], 0, 0, []) := And.intro dX10_fitsKind_47 (And.intro rfl (rfl))
theorem oX10_fitsKind_48 : OKI 118 48 (.ldc_w 406, 51, [], 999999, 0, []) := And.intro dX10_fitsKind_48 (And.intro rfl (tm_2 _ (List.mem_of_getElem? (i := 213) rfl) rfl))
theorem oX10_fitsKind_51 : OKI 118 51 (.invokestatic 84, 54, [111, 3, 0, 0, 0, 1], 0, 0, []) := And.intro dX10_fitsKind_51 (And.intro rfl (And.intro rfl (And.intro mo_X10_within (And.intro (Or.inl (tm_2 _ (List.mem_of_getElem? (i := 40) rfl) rfl)) (tm_2 _ (List.mem_of_getElem? (i := 41) rfl) rfl)))))
theorem oX10_fitsKind_54 : OKI 118 54 (.ireturn, 55, [3], 0, 0, []) := And.intro dX10_fitsKind_54 (Or.inr (Or.inl (And.intro rfl rfl)))
theorem oX10_fitsKind_55 : OKI 118 55 (.iload_n 2, 56, [2], 0, 0, []) := And.intro dX10_fitsKind_55 (And.intro rfl (rfl))
theorem oX10_fitsKind_56 : OKI 118 56 (.ifCond .le 35, 59, [91], 0, 0, []) := And.intro dX10_fitsKind_56 (And.intro rfl (by decide))
theorem oX10_fitsKind_59 : OKI 118 59 (.iload_n 2, 60, [2], 0, 0, []) := And.intro dX10_fitsKind_59 (And.intro rfl (rfl))
theorem oX10_fitsKind_60 : OKI 118 60 (.sipush 1000, 63, [], 1000, 0, []) := And.intro dX10_fitsKind_60 (And.intro rfl (by decide +kernel))
theorem oX10_fitsKind_63 : OKI 118 63 (.idiv, 64, [], 0, 0, []) := And.intro dX10_fitsKind_63 rfl
theorem oX10_fitsKind_64 : OKI 118 64 (.invokestatic 160, 67, [116, 1, 0, 0, 0, 1], 0, 0, []) := And.intro dX10_fitsKind_64 (And.intro rfl (And.intro rfl (And.intro mo_X10_isEdgeNumber (And.intro (Or.inl (tm_3 _ (List.mem_of_getElem? (i := 35) rfl) rfl)) (tm_3 _ (List.mem_of_getElem? (i := 36) rfl) rfl)))))
theorem oX10_fitsKind_67 : OKI 118 67 (.ifCond .eq 24, 70, [91], 0, 0, []) := And.intro dX10_fitsKind_67 (And.intro rfl (by decide))
theorem oX10_fitsKind_70 : OKI 118 70 (.iload_n 2, 71, [2], 0, 0, []) := And.intro dX10_fitsKind_70 (And.intro rfl (rfl))
theorem oX10_fitsKind_71 : OKI 118 71 (.sipush 1000, 74, [], 1000, 0, []) := And.intro dX10_fitsKind_71 (And.intro rfl (by decide +kernel))
theorem oX10_fitsKind_74 : OKI 118 74 (.irem, 75, [], 0, 0, []) := And.intro dX10_fitsKind_74 rfl
theorem oX10_fitsKind_75 : OKI 118 75 (.sipush 401, 78, [], 401, 0, []) := And.intro dX10_fitsKind_75 (And.intro rfl (by decide +kernel))
theorem oX10_fitsKind_78 : OKI 118 78 (.sipush 599, 81, [], 599, 0, []) := And.intro dX10_fitsKind_78 (And.intro rfl (by decide +kernel))
theorem oX10_fitsKind_81 : OKI 118 81 (.invokestatic 84, 84, [111, 3, 0, 0, 0, 1], 0, 0, []) := And.intro dX10_fitsKind_81 (And.intro rfl (And.intro rfl (And.intro mo_X10_within (And.intro (Or.inl (tm_2 _ (List.mem_of_getElem? (i := 40) rfl) rfl)) (tm_2 _ (List.mem_of_getElem? (i := 41) rfl) rfl)))))
theorem oX10_fitsKind_84 : OKI 118 84 (.ifCond .eq 7, 87, [91], 0, 0, []) := And.intro dX10_fitsKind_84 (And.intro rfl (by decide))
theorem oX10_fitsKind_87 : OKI 118 87 (.iconst 1, 88, [], 1, 0, []) := And.intro dX10_fitsKind_87 (And.intro rfl (by decide +kernel))
theorem oX10_fitsKind_88 : OKI 118 88 (.goto 4, 91, [92], 0, 0, []) := And.intro dX10_fitsKind_88 (And.intro rfl (by decide))
theorem oX10_fitsKind_91 : OKI 118 91 (.iconst 0, 92, [], 0, 0, []) := And.intro dX10_fitsKind_91 (And.intro rfl (by decide +kernel))
theorem oX10_fitsKind_92 : OKI 118 92 (.ireturn, 93, [3], 0, 0, []) := And.intro dX10_fitsKind_92 (Or.inr (Or.inl (And.intro rfl rfl)))
theorem oX10_fitsKind_93 : OKI 118 93 (.iconst 0, 94, [], 0, 0, []) := And.intro dX10_fitsKind_93 (And.intro rfl (by decide +kernel))
theorem oX10_fitsKind_94 : OKI 118 94 (.ireturn, 95, [3], 0, 0, []) := And.intro dX10_fitsKind_94 (Or.inr (Or.inl (And.intro rfl rfl)))
def pfX10_fitsKind (pc : Nat) : Option XE := (bif Nat.blt pc 60 then (bif Nat.blt pc 46 then (bif Nat.blt pc 40 then (bif Nat.blt pc 36 then (bif Nat.blt pc 1 then (bif Nat.beq pc 0 then some (.iload_n 0, 1, [0], 0, 0, []) else none) else (bif Nat.beq pc 1 then some (.tableswitch 92 1 5 #[35, 35, 40, 45, 54], 36, [93], 0, 0, [(1, 36), (2, 36), (3, 41), (4, 46), (5, 55)]) else none)) else (bif Nat.blt pc 37 then (bif Nat.beq pc 36 then some (.iload_n 2, 37, [2], 0, 0, []) else none) else (bif Nat.beq pc 37 then some (.invokestatic 117, 40, [112, 1, 0, 0, 0, 1], 0, 0, []) else none))) else (bif Nat.blt pc 42 then (bif Nat.blt pc 41 then (bif Nat.beq pc 40 then some (.ireturn, 41, [3], 0, 0, []) else none) else (bif Nat.beq pc 41 then some (.iload_n 2, 42, [2], 0, 0, []) else none)) else (bif Nat.blt pc 45 then (bif Nat.beq pc 42 then some (.invokestatic 160, 45, [116, 1, 0, 0, 0, 1], 0, 0, []) else none) else (bif Nat.beq pc 45 then some (.ireturn, 46, [3], 0, 0, []) else none)))) else (bif Nat.blt pc 54 then (bif Nat.blt pc 48 then (bif Nat.blt pc 47 then (bif Nat.beq pc 46 then some (.iload_n 2, 47, [2], 0, 0, []) else none) else (bif Nat.beq pc 47 then some (.iload_n 1, 48, [1], 0, 0, []) else none)) else (bif Nat.blt pc 51 then (bif Nat.beq pc 48 then some (.ldc_w 406, 51, [], 999999, 0, []) else none) else (bif Nat.beq pc 51 then some (.invokestatic 84, 54, [111, 3, 0, 0, 0, 1], 0, 0, []) else none))) else (bif Nat.blt pc 56 then (bif Nat.blt pc 55 then (bif Nat.beq pc 54 then some (.ireturn, 55, [3], 0, 0, []) else none) else (bif Nat.beq pc 55 then some (.iload_n 2, 56, [2], 0, 0, []) else none)) else (bif Nat.blt pc 59 then (bif Nat.beq pc 56 then some (.ifCond .le 35, 59, [91], 0, 0, []) else none) else (bif Nat.beq pc 59 then some (.iload_n 2, 60, [2], 0, 0, []) else none))))) else (bif Nat.blt pc 78 then (bif Nat.blt pc 70 then (bif Nat.blt pc 64 then (bif Nat.blt pc 63 then (bif Nat.beq pc 60 then some (.sipush 1000, 63, [], 1000, 0, []) else none) else (bif Nat.beq pc 63 then some (.idiv, 64, [], 0, 0, []) else none)) else (bif Nat.blt pc 67 then (bif Nat.beq pc 64 then some (.invokestatic 160, 67, [116, 1, 0, 0, 0, 1], 0, 0, []) else none) else (bif Nat.beq pc 67 then some (.ifCond .eq 24, 70, [91], 0, 0, []) else none))) else (bif Nat.blt pc 74 then (bif Nat.blt pc 71 then (bif Nat.beq pc 70 then some (.iload_n 2, 71, [2], 0, 0, []) else none) else (bif Nat.beq pc 71 then some (.sipush 1000, 74, [], 1000, 0, []) else none)) else (bif Nat.blt pc 75 then (bif Nat.beq pc 74 then some (.irem, 75, [], 0, 0, []) else none) else (bif Nat.beq pc 75 then some (.sipush 401, 78, [], 401, 0, []) else none)))) else (bif Nat.blt pc 88 then (bif Nat.blt pc 84 then (bif Nat.blt pc 81 then (bif Nat.beq pc 78 then some (.sipush 599, 81, [], 599, 0, []) else none) else (bif Nat.beq pc 81 then some (.invokestatic 84, 84, [111, 3, 0, 0, 0, 1], 0, 0, []) else none)) else (bif Nat.blt pc 87 then (bif Nat.beq pc 84 then some (.ifCond .eq 7, 87, [91], 0, 0, []) else none) else (bif Nat.beq pc 87 then some (.iconst 1, 88, [], 1, 0, []) else none))) else (bif Nat.blt pc 92 then (bif Nat.blt pc 91 then (bif Nat.beq pc 88 then some (.goto 4, 91, [92], 0, 0, []) else none) else (bif Nat.beq pc 91 then some (.iconst 0, 92, [], 0, 0, []) else none)) else (bif Nat.blt pc 93 then (bif Nat.beq pc 92 then some (.ireturn, 93, [3], 0, 0, []) else none) else (bif Nat.blt pc 94 then (bif Nat.beq pc 93 then some (.iconst 0, 94, [], 0, 0, []) else none) else (bif Nat.beq pc 94 then some (.ireturn, 95, [3], 0, 0, []) else none)))))))
theorem okX10_fitsKind : ∀ pc Y, pfX10_fitsKind pc = some Y → OKI m_X10_fitsKind pc Y := fun pc Y => ((bt_node (bt_node (bt_node (bt_node (bt_node (bt_leaf (P := OKI m_X10_fitsKind) oX10_fitsKind_0) (bt_leaf (P := OKI m_X10_fitsKind) oX10_fitsKind_1)) (bt_node (bt_leaf (P := OKI m_X10_fitsKind) oX10_fitsKind_36) (bt_leaf (P := OKI m_X10_fitsKind) oX10_fitsKind_37))) (bt_node (bt_node (bt_leaf (P := OKI m_X10_fitsKind) oX10_fitsKind_40) (bt_leaf (P := OKI m_X10_fitsKind) oX10_fitsKind_41)) (bt_node (bt_leaf (P := OKI m_X10_fitsKind) oX10_fitsKind_42) (bt_leaf (P := OKI m_X10_fitsKind) oX10_fitsKind_45)))) (bt_node (bt_node (bt_node (bt_leaf (P := OKI m_X10_fitsKind) oX10_fitsKind_46) (bt_leaf (P := OKI m_X10_fitsKind) oX10_fitsKind_47)) (bt_node (bt_leaf (P := OKI m_X10_fitsKind) oX10_fitsKind_48) (bt_leaf (P := OKI m_X10_fitsKind) oX10_fitsKind_51))) (bt_node (bt_node (bt_leaf (P := OKI m_X10_fitsKind) oX10_fitsKind_54) (bt_leaf (P := OKI m_X10_fitsKind) oX10_fitsKind_55)) (bt_node (bt_leaf (P := OKI m_X10_fitsKind) oX10_fitsKind_56) (bt_leaf (P := OKI m_X10_fitsKind) oX10_fitsKind_59))))) (bt_node (bt_node (bt_node (bt_node (bt_leaf (P := OKI m_X10_fitsKind) oX10_fitsKind_60) (bt_leaf (P := OKI m_X10_fitsKind) oX10_fitsKind_63)) (bt_node (bt_leaf (P := OKI m_X10_fitsKind) oX10_fitsKind_64) (bt_leaf (P := OKI m_X10_fitsKind) oX10_fitsKind_67))) (bt_node (bt_node (bt_leaf (P := OKI m_X10_fitsKind) oX10_fitsKind_70) (bt_leaf (P := OKI m_X10_fitsKind) oX10_fitsKind_71)) (bt_node (bt_leaf (P := OKI m_X10_fitsKind) oX10_fitsKind_74) (bt_leaf (P := OKI m_X10_fitsKind) oX10_fitsKind_75)))) (bt_node (bt_node (bt_node (bt_leaf (P := OKI m_X10_fitsKind) oX10_fitsKind_78) (bt_leaf (P := OKI m_X10_fitsKind) oX10_fitsKind_81)) (bt_node (bt_leaf (P := OKI m_X10_fitsKind) oX10_fitsKind_84) (bt_leaf (P := OKI m_X10_fitsKind) oX10_fitsKind_87))) (bt_node (bt_node (bt_leaf (P := OKI m_X10_fitsKind) oX10_fitsKind_88) (bt_leaf (P := OKI m_X10_fitsKind) oX10_fitsKind_91)) (bt_node (bt_leaf (P := OKI m_X10_fitsKind) oX10_fitsKind_92) (bt_node (bt_leaf (P := OKI m_X10_fitsKind) oX10_fitsKind_93) (bt_leaf (P := OKI m_X10_fitsKind) oX10_fitsKind_94))))))) : pfX10_fitsKind pc = some Y → OKI m_X10_fitsKind pc Y)
def stpX10_fitsKind (pc : Nat) : Option (List Bool) := (bif Nat.blt pc 91 then (bif Nat.beq pc 70 then some [false, false, true] else none) else (bif Nat.blt pc 92 then (bif Nat.beq pc 91 then some [false, false, false] else none) else (bif Nat.beq pc 92 then some [false, false, false] else none)))
def bX10_fitsKind_0 (d rc rs : Nat) (a1 : Int32) (a2 : Int32) (a3 : Int32) (σ : XH) (Q : XV → XH → Prop) : Prop :=
  ((a1 = 1 → (1 ≤ d ∧ Ec (d - 1) 0 0 m_X10_isTime [vI a3] σ (kI fun x10 h9 => ((x10 = 0 ∨ x10 = 1) ∧ Q (vI x10) h9)))) ∧ (¬ a1 = 1 → ((a1 = 2 → (1 ≤ d ∧ Ec (d - 1) 0 0 m_X10_isTime [vI a3] σ (kI fun x8 h7 => ((x8 = 0 ∨ x8 = 1) ∧ Q (vI x8) h7)))) ∧ (¬ a1 = 2 → ((a1 = 3 → (1 ≤ d ∧ Ec (d - 1) 0 0 m_X10_isEdgeNumber [vI a3] σ (kI fun x6 h5 => ((x6 = 0 ∨ x6 = 1) ∧ Q (vI x6) h5)))) ∧ (¬ a1 = 3 → ((a1 = 4 → (1 ≤ d ∧ Ec (d - 1) 0 0 m_X10_within [vI a3, vI a2, vI 999999] σ (kI fun x4 h3 => ((x4 = 0 ∨ x4 = 1) ∧ Q (vI x4) h3)))) ∧ (¬ a1 = 4 → ((a1 = 5 → ((0 < a3 → (¬ (1000 : Int32) = 0 ∧ (1 ≤ d ∧ Ec (d - 1) 0 0 m_X10_isEdgeNumber [vI (a3 / 1000)] σ (kI fun x2 h1 => ((x2 = 0 → Ex d rc rs m_X10_fitsKind 91 [vU, vU, vU] [] h1 Q) ∧ (¬ x2 = 0 → Ex d rc rs m_X10_fitsKind 70 [vU, vU, vI a3] [] h1 Q)))))) ∧ (¬ 0 < a3 → Ex d rc rs m_X10_fitsKind 91 [vU, vU, vU] [] σ Q))) ∧ (¬ a1 = 5 → (((0 : Int32) = 0 ∨ (0 : Int32) = 1) ∧ Q (vI 0) σ)))))))))))
theorem sX10_fitsKind_0 {d rc rs : Nat} {a1 : Int32} {a2 : Int32} {a3 : Int32} {σ : XH} {Q : XV → XH → Prop} (h : bX10_fitsKind_0 d rc rs a1 a2 a3 σ Q) : Ex d rc rs m_X10_fitsKind 0 [vI a1, vI a2, vI a3] [] σ Q :=
  xtree_sound (stop := stpX10_fitsKind) okX10_fitsKind 11 _ _ _ _ _ _ h
def bX10_fitsKind_70 (d rc rs : Nat) (l2 : Int32) (σ : XH) (Q : XV → XH → Prop) : Prop :=
  (¬ (1000 : Int32) = 0 ∧ (1 ≤ d ∧ Ec (d - 1) 0 0 m_X10_within [vI (l2 - l2 / 1000 * 1000), vI 401, vI 599] σ (kI fun x2 h1 => ((x2 = 0 → Ex d rc rs m_X10_fitsKind 91 [vU, vU, vU] [] h1 Q) ∧ (¬ x2 = 0 → Ex d rc rs m_X10_fitsKind 92 [vU, vU, vU] [vI 1] h1 Q)))))
theorem sX10_fitsKind_70 {d rc rs : Nat} {l2 : Int32} {σ : XH} {Q : XV → XH → Prop} (h : bX10_fitsKind_70 d rc rs l2 σ Q) : Ex d rc rs m_X10_fitsKind 70 [vU, vU, vI l2] [] σ Q :=
  xtree_sound (stop := stpX10_fitsKind) okX10_fitsKind 11 _ _ _ _ _ _ h
def bX10_fitsKind_91 (d rc rs : Nat)  (σ : XH) (Q : XV → XH → Prop) : Prop :=
  Ex d rc rs m_X10_fitsKind 92 [vU, vU, vU] [vI 0] σ Q
theorem sX10_fitsKind_91 {d rc rs : Nat}  {σ : XH} {Q : XV → XH → Prop} (h : bX10_fitsKind_91 d rc rs  σ Q) : Ex d rc rs m_X10_fitsKind 91 [vU, vU, vU] [] σ Q :=
  xtree_sound (stop := stpX10_fitsKind) okX10_fitsKind 3 _ _ _ _ _ _ h
def bX10_fitsKind_92 (d rc rs : Nat) (q0 : Int32) (σ : XH) (Q : XV → XH → Prop) : Prop :=
  ((q0 = 0 ∨ q0 = 1) ∧ Q (vI q0) σ)
theorem sX10_fitsKind_92 {d rc rs : Nat} {q0 : Int32} {σ : XH} {Q : XV → XH → Prop} (h : bX10_fitsKind_92 d rc rs q0 σ Q) : Ex d rc rs m_X10_fitsKind 92 [vU, vU, vU] [vI q0] σ Q :=
  xtree_sound (stop := stpX10_fitsKind) okX10_fitsKind 3 _ _ _ _ _ _ h
/-! SpotTimers.commonDivisor(JJ)J -/
theorem dX10_commonDivisor_0 : decode cX10_commonDivisor 0 = .ok (.lload_n 0, 1) := by decide +kernel
theorem dX10_commonDivisor_1 : decode cX10_commonDivisor 1 = .ok (.lstore 4, 2) := by decide +kernel
theorem dX10_commonDivisor_3 : decode cX10_commonDivisor 3 = .ok (.lload_n 2, 1) := by decide +kernel
theorem dX10_commonDivisor_4 : decode cX10_commonDivisor 4 = .ok (.lstore 6, 2) := by decide +kernel
theorem dX10_commonDivisor_6 : decode cX10_commonDivisor 6 = .ok (.iconst 0, 1) := by decide +kernel
theorem dX10_commonDivisor_7 : decode cX10_commonDivisor 7 = .ok (.istore 8, 2) := by decide +kernel
theorem dX10_commonDivisor_9 : decode cX10_commonDivisor 9 = .ok (.iload 8, 2) := by decide +kernel
theorem dX10_commonDivisor_11 : decode cX10_commonDivisor 11 = .ok (.sipush 200, 3) := by decide +kernel
theorem dX10_commonDivisor_14 : decode cX10_commonDivisor 14 = .ok (.if_icmp .ge 31, 3) := by decide +kernel
theorem dX10_commonDivisor_17 : decode cX10_commonDivisor 17 = .ok (.lload 6, 2) := by decide +kernel
theorem dX10_commonDivisor_19 : decode cX10_commonDivisor 19 = .ok (.lconst 0, 1) := by decide +kernel
theorem dX10_commonDivisor_20 : decode cX10_commonDivisor 20 = .ok (.lcmp, 1) := by decide +kernel
theorem dX10_commonDivisor_21 : decode cX10_commonDivisor 21 = .ok (.ifCond .eq 24, 3) := by decide +kernel
theorem dX10_commonDivisor_24 : decode cX10_commonDivisor 24 = .ok (.lload 4, 2) := by decide +kernel
theorem dX10_commonDivisor_26 : decode cX10_commonDivisor 26 = .ok (.lload 6, 2) := by decide +kernel
theorem dX10_commonDivisor_28 : decode cX10_commonDivisor 28 = .ok (.lrem, 1) := by decide +kernel
theorem dX10_commonDivisor_29 : decode cX10_commonDivisor 29 = .ok (.lstore 9, 2) := by decide +kernel
theorem dX10_commonDivisor_31 : decode cX10_commonDivisor 31 = .ok (.lload 6, 2) := by decide +kernel
theorem dX10_commonDivisor_33 : decode cX10_commonDivisor 33 = .ok (.lstore 4, 2) := by decide +kernel
theorem dX10_commonDivisor_35 : decode cX10_commonDivisor 35 = .ok (.lload 9, 2) := by decide +kernel
theorem dX10_commonDivisor_37 : decode cX10_commonDivisor 37 = .ok (.lstore 6, 2) := by decide +kernel
theorem dX10_commonDivisor_39 : decode cX10_commonDivisor 39 = .ok (.iinc 8 1, 3) := by decide +kernel
theorem dX10_commonDivisor_42 : decode cX10_commonDivisor 42 = .ok (.goto (-33), 3) := by decide +kernel
theorem dX10_commonDivisor_45 : decode cX10_commonDivisor 45 = .ok (.lload 4, 2) := by decide +kernel
theorem dX10_commonDivisor_47 : decode cX10_commonDivisor 47 = .ok (.lreturn, 1) := by decide +kernel
theorem oX10_commonDivisor_0 : OKI 119 0 (.lload_n 0, 1, [0], 0, 0, []) := And.intro dX10_commonDivisor_0 (And.intro rfl (rfl))
theorem oX10_commonDivisor_1 : OKI 119 1 (.lstore 4, 3, [4], 0, 0, []) := And.intro dX10_commonDivisor_1 (And.intro rfl (And.intro rfl (by decide)))
theorem oX10_commonDivisor_3 : OKI 119 3 (.lload_n 2, 4, [2], 0, 0, []) := And.intro dX10_commonDivisor_3 (And.intro rfl (rfl))
theorem oX10_commonDivisor_4 : OKI 119 4 (.lstore 6, 6, [6], 0, 0, []) := And.intro dX10_commonDivisor_4 (And.intro rfl (And.intro rfl (by decide)))
theorem oX10_commonDivisor_6 : OKI 119 6 (.iconst 0, 7, [], 0, 0, []) := And.intro dX10_commonDivisor_6 (And.intro rfl (by decide +kernel))
theorem oX10_commonDivisor_7 : OKI 119 7 (.istore 8, 9, [8], 0, 0, []) := And.intro dX10_commonDivisor_7 (And.intro rfl (And.intro rfl (by decide)))
theorem oX10_commonDivisor_9 : OKI 119 9 (.iload 8, 11, [8], 0, 0, []) := And.intro dX10_commonDivisor_9 (And.intro rfl (rfl))
theorem oX10_commonDivisor_11 : OKI 119 11 (.sipush 200, 14, [], 200, 0, []) := And.intro dX10_commonDivisor_11 (And.intro rfl (by decide +kernel))
theorem oX10_commonDivisor_14 : OKI 119 14 (.if_icmp .ge 31, 17, [45], 0, 0, []) := And.intro dX10_commonDivisor_14 (And.intro rfl (by decide))
theorem oX10_commonDivisor_17 : OKI 119 17 (.lload 6, 19, [6], 0, 0, []) := And.intro dX10_commonDivisor_17 (And.intro rfl (rfl))
theorem oX10_commonDivisor_19 : OKI 119 19 (.lconst 0, 20, [], 0, 0, []) := And.intro dX10_commonDivisor_19 (And.intro rfl (by decide +kernel))
theorem oX10_commonDivisor_20 : OKI 119 20 (.lcmp, 21, [], 0, 0, []) := And.intro dX10_commonDivisor_20 rfl
theorem oX10_commonDivisor_21 : OKI 119 21 (.ifCond .eq 24, 24, [45], 0, 0, []) := And.intro dX10_commonDivisor_21 (And.intro rfl (by decide))
theorem oX10_commonDivisor_24 : OKI 119 24 (.lload 4, 26, [4], 0, 0, []) := And.intro dX10_commonDivisor_24 (And.intro rfl (rfl))
theorem oX10_commonDivisor_26 : OKI 119 26 (.lload 6, 28, [6], 0, 0, []) := And.intro dX10_commonDivisor_26 (And.intro rfl (rfl))
theorem oX10_commonDivisor_28 : OKI 119 28 (.lrem, 29, [], 0, 0, []) := And.intro dX10_commonDivisor_28 rfl
theorem oX10_commonDivisor_29 : OKI 119 29 (.lstore 9, 31, [9], 0, 0, []) := And.intro dX10_commonDivisor_29 (And.intro rfl (And.intro rfl (by decide)))
theorem oX10_commonDivisor_31 : OKI 119 31 (.lload 6, 33, [6], 0, 0, []) := And.intro dX10_commonDivisor_31 (And.intro rfl (rfl))
theorem oX10_commonDivisor_33 : OKI 119 33 (.lstore 4, 35, [4], 0, 0, []) := And.intro dX10_commonDivisor_33 (And.intro rfl (And.intro rfl (by decide)))
theorem oX10_commonDivisor_35 : OKI 119 35 (.lload 9, 37, [9], 0, 0, []) := And.intro dX10_commonDivisor_35 (And.intro rfl (rfl))
theorem oX10_commonDivisor_37 : OKI 119 37 (.lstore 6, 39, [6], 0, 0, []) := And.intro dX10_commonDivisor_37 (And.intro rfl (And.intro rfl (by decide)))
theorem oX10_commonDivisor_39 : OKI 119 39 (.iinc 8 1, 42, [8], 1, 0, []) := And.intro dX10_commonDivisor_39 (And.intro rfl (And.intro rfl (And.intro (by decide +kernel) (by decide))))
theorem oX10_commonDivisor_42 : OKI 119 42 (.goto (-33), 45, [9], 0, 0, []) := And.intro dX10_commonDivisor_42 (And.intro rfl (by decide))
theorem oX10_commonDivisor_45 : OKI 119 45 (.lload 4, 47, [4], 0, 0, []) := And.intro dX10_commonDivisor_45 (And.intro rfl (rfl))
theorem oX10_commonDivisor_47 : OKI 119 47 (.lreturn, 48, [], 0, 0, []) := And.intro dX10_commonDivisor_47 rfl
def pfX10_commonDivisor (pc : Nat) : Option XE := (bif Nat.blt pc 21 then (bif Nat.blt pc 9 then (bif Nat.blt pc 4 then (bif Nat.blt pc 1 then (bif Nat.beq pc 0 then some (.lload_n 0, 1, [0], 0, 0, []) else none) else (bif Nat.blt pc 3 then (bif Nat.beq pc 1 then some (.lstore 4, 3, [4], 0, 0, []) else none) else (bif Nat.beq pc 3 then some (.lload_n 2, 4, [2], 0, 0, []) else none))) else (bif Nat.blt pc 6 then (bif Nat.beq pc 4 then some (.lstore 6, 6, [6], 0, 0, []) else none) else (bif Nat.blt pc 7 then (bif Nat.beq pc 6 then some (.iconst 0, 7, [], 0, 0, []) else none) else (bif Nat.beq pc 7 then some (.istore 8, 9, [8], 0, 0, []) else none)))) else (bif Nat.blt pc 17 then (bif Nat.blt pc 11 then (bif Nat.beq pc 9 then some (.iload 8, 11, [8], 0, 0, []) else none) else (bif Nat.blt pc 14 then (bif Nat.beq pc 11 then some (.sipush 200, 14, [], 200, 0, []) else none) else (bif Nat.beq pc 14 then some (.if_icmp .ge 31, 17, [45], 0, 0, []) else none))) else (bif Nat.blt pc 19 then (bif Nat.beq pc 17 then some (.lload 6, 19, [6], 0, 0, []) else none) else (bif Nat.blt pc 20 then (bif Nat.beq pc 19 then some (.lconst 0, 20, [], 0, 0, []) else none) else (bif Nat.beq pc 20 then some (.lcmp, 21, [], 0, 0, []) else none))))) else (bif Nat.blt pc 33 then (bif Nat.blt pc 28 then (bif Nat.blt pc 24 then (bif Nat.beq pc 21 then some (.ifCond .eq 24, 24, [45], 0, 0, []) else none) else (bif Nat.blt pc 26 then (bif Nat.beq pc 24 then some (.lload 4, 26, [4], 0, 0, []) else none) else (bif Nat.beq pc 26 then some (.lload 6, 28, [6], 0, 0, []) else none))) else (bif Nat.blt pc 29 then (bif Nat.beq pc 28 then some (.lrem, 29, [], 0, 0, []) else none) else (bif Nat.blt pc 31 then (bif Nat.beq pc 29 then some (.lstore 9, 31, [9], 0, 0, []) else none) else (bif Nat.beq pc 31 then some (.lload 6, 33, [6], 0, 0, []) else none)))) else (bif Nat.blt pc 39 then (bif Nat.blt pc 35 then (bif Nat.beq pc 33 then some (.lstore 4, 35, [4], 0, 0, []) else none) else (bif Nat.blt pc 37 then (bif Nat.beq pc 35 then some (.lload 9, 37, [9], 0, 0, []) else none) else (bif Nat.beq pc 37 then some (.lstore 6, 39, [6], 0, 0, []) else none))) else (bif Nat.blt pc 45 then (bif Nat.blt pc 42 then (bif Nat.beq pc 39 then some (.iinc 8 1, 42, [8], 1, 0, []) else none) else (bif Nat.beq pc 42 then some (.goto (-33), 45, [9], 0, 0, []) else none)) else (bif Nat.blt pc 47 then (bif Nat.beq pc 45 then some (.lload 4, 47, [4], 0, 0, []) else none) else (bif Nat.beq pc 47 then some (.lreturn, 48, [], 0, 0, []) else none))))))
theorem okX10_commonDivisor : ∀ pc Y, pfX10_commonDivisor pc = some Y → OKI m_X10_commonDivisor pc Y := fun pc Y => ((bt_node (bt_node (bt_node (bt_node (bt_leaf (P := OKI m_X10_commonDivisor) oX10_commonDivisor_0) (bt_node (bt_leaf (P := OKI m_X10_commonDivisor) oX10_commonDivisor_1) (bt_leaf (P := OKI m_X10_commonDivisor) oX10_commonDivisor_3))) (bt_node (bt_leaf (P := OKI m_X10_commonDivisor) oX10_commonDivisor_4) (bt_node (bt_leaf (P := OKI m_X10_commonDivisor) oX10_commonDivisor_6) (bt_leaf (P := OKI m_X10_commonDivisor) oX10_commonDivisor_7)))) (bt_node (bt_node (bt_leaf (P := OKI m_X10_commonDivisor) oX10_commonDivisor_9) (bt_node (bt_leaf (P := OKI m_X10_commonDivisor) oX10_commonDivisor_11) (bt_leaf (P := OKI m_X10_commonDivisor) oX10_commonDivisor_14))) (bt_node (bt_leaf (P := OKI m_X10_commonDivisor) oX10_commonDivisor_17) (bt_node (bt_leaf (P := OKI m_X10_commonDivisor) oX10_commonDivisor_19) (bt_leaf (P := OKI m_X10_commonDivisor) oX10_commonDivisor_20))))) (bt_node (bt_node (bt_node (bt_leaf (P := OKI m_X10_commonDivisor) oX10_commonDivisor_21) (bt_node (bt_leaf (P := OKI m_X10_commonDivisor) oX10_commonDivisor_24) (bt_leaf (P := OKI m_X10_commonDivisor) oX10_commonDivisor_26))) (bt_node (bt_leaf (P := OKI m_X10_commonDivisor) oX10_commonDivisor_28) (bt_node (bt_leaf (P := OKI m_X10_commonDivisor) oX10_commonDivisor_29) (bt_leaf (P := OKI m_X10_commonDivisor) oX10_commonDivisor_31)))) (bt_node (bt_node (bt_leaf (P := OKI m_X10_commonDivisor) oX10_commonDivisor_33) (bt_node (bt_leaf (P := OKI m_X10_commonDivisor) oX10_commonDivisor_35) (bt_leaf (P := OKI m_X10_commonDivisor) oX10_commonDivisor_37))) (bt_node (bt_node (bt_leaf (P := OKI m_X10_commonDivisor) oX10_commonDivisor_39) (bt_leaf (P := OKI m_X10_commonDivisor) oX10_commonDivisor_42)) (bt_node (bt_leaf (P := OKI m_X10_commonDivisor) oX10_commonDivisor_45) (bt_leaf (P := OKI m_X10_commonDivisor) oX10_commonDivisor_47)))))) : pfX10_commonDivisor pc = some Y → OKI m_X10_commonDivisor pc Y)
def stpX10_commonDivisor (pc : Nat) : Option (List Bool) := (bif Nat.blt pc 45 then (bif Nat.beq pc 9 then some [false, false, false, false, true, false, true, false, true, false, false] else none) else (bif Nat.beq pc 45 then some [false, false, false, false, true, false, false, false, false, false, false] else none))
def bX10_commonDivisor_0 (d rc rs : Nat) (a1 : Int64) (a2 : Int64) (σ : XH) (Q : XV → XH → Prop) : Prop :=
  Ex d rc rs m_X10_commonDivisor 9 [vU, vU, vU, vU, vL a1, vU, vL a2, vU, vI 0, vU, vU] [] σ Q
theorem sX10_commonDivisor_0 {d rc rs : Nat} {a1 : Int64} {a2 : Int64} {σ : XH} {Q : XV → XH → Prop} (h : bX10_commonDivisor_0 d rc rs a1 a2 σ Q) : Ex d rc rs m_X10_commonDivisor 0 [vL a1, vU, vL a2, vU, vU, vU, vU, vU, vU, vU, vU] [] σ Q :=
  xtree_sound (stop := stpX10_commonDivisor) okX10_commonDivisor 8 _ _ _ _ _ _ h
def bX10_commonDivisor_9 (d rc rs : Nat) (l4 : Int64) (l6 : Int64) (l8 : Int32) (σ : XH) (Q : XV → XH → Prop) : Prop :=
  ((l8 < 200 → (((lg_cmp l6 0) = 0 → Ex d rc rs m_X10_commonDivisor 45 [vU, vU, vU, vU, vL l4, vU, vU, vU, vU, vU, vU] [] σ Q) ∧ (¬ (lg_cmp l6 0) = 0 → (¬ l6 = 0 ∧ Ex d rc rs m_X10_commonDivisor 9 [vU, vU, vU, vU, vL l6, vU, vL (l4 - l4 / l6 * l6), vU, vI (l8 + 1), vU, vU] [] σ Q)))) ∧ (¬ l8 < 200 → Ex d rc rs m_X10_commonDivisor 45 [vU, vU, vU, vU, vL l4, vU, vU, vU, vU, vU, vU] [] σ Q))
theorem sX10_commonDivisor_9 {d rc rs : Nat} {l4 : Int64} {l6 : Int64} {l8 : Int32} {σ : XH} {Q : XV → XH → Prop} (h : bX10_commonDivisor_9 d rc rs l4 l6 l8 σ Q) : Ex d rc rs m_X10_commonDivisor 9 [vU, vU, vU, vU, vL l4, vU, vL l6, vU, vI l8, vU, vU] [] σ Q :=
  xtree_sound (stop := stpX10_commonDivisor) okX10_commonDivisor 19 _ _ _ _ _ _ h
def bX10_commonDivisor_45 (d rc rs : Nat) (l4 : Int64) (σ : XH) (Q : XV → XH → Prop) : Prop :=
  Q (vL l4) σ
theorem sX10_commonDivisor_45 {d rc rs : Nat} {l4 : Int64} {σ : XH} {Q : XV → XH → Prop} (h : bX10_commonDivisor_45 d rc rs l4 σ Q) : Ex d rc rs m_X10_commonDivisor 45 [vU, vU, vU, vU, vL l4, vU, vU, vU, vU, vU, vU] [] σ Q :=
  xtree_sound (stop := stpX10_commonDivisor) okX10_commonDivisor 4 _ _ _ _ _ _ h
/-! SpotTimers.stationAt(I)LSpotTimers$Station; -/
theorem dX10_stationAt_0 : decode cX10_stationAt 0 = .ok (.iload_n 1, 1) := by decide +kernel
theorem dX10_stationAt_1 : decode cX10_stationAt 1 = .ok (.iconst 0, 1) := by decide +kernel
theorem dX10_stationAt_2 : decode cX10_stationAt 2 = .ok (.aload_n 0, 1) := by decide +kernel
theorem dX10_stationAt_3 : decode cX10_stationAt 3 = .ok (.getfield 12, 3) := by decide +kernel
theorem dX10_stationAt_6 : decode cX10_stationAt 6 = .ok (.invokevirtual 91, 3) := by decide +kernel
theorem dX10_stationAt_9 : decode cX10_stationAt 9 = .ok (.iconst 1, 1) := by decide +kernel
theorem dX10_stationAt_10 : decode cX10_stationAt 10 = .ok (.isub, 1) := by decide +kernel
theorem dX10_stationAt_11 : decode cX10_stationAt 11 = .ok (.invokestatic 84, 3) := by decide +kernel
theorem dX10_stationAt_14 : decode cX10_stationAt 14 = .ok (.ifCond .eq 17, 3) := by decide +kernel
theorem dX10_stationAt_17 : decode cX10_stationAt 17 = .ok (.aload_n 0, 1) := by decide +kernel
theorem dX10_stationAt_18 : decode cX10_stationAt 18 = .ok (.getfield 12, 3) := by decide +kernel
theorem dX10_stationAt_21 : decode cX10_stationAt 21 = .ok (.iload_n 1, 1) := by decide +kernel
theorem dX10_stationAt_22 : decode cX10_stationAt 22 = .ok (.invokevirtual 410, 3) := by decide +kernel
theorem dX10_stationAt_25 : decode cX10_stationAt 25 = .ok (.checkcast 95, 3) := by decide +kernel
theorem dX10_stationAt_28 : decode cX10_stationAt 28 = .ok (.goto 4, 3) := by decide +kernel
theorem dX10_stationAt_31 : decode cX10_stationAt 31 = .ok (.aconst_null, 1) := by decide +kernel
theorem dX10_stationAt_32 : decode cX10_stationAt 32 = .ok (.areturn, 1) := by decide +kernel
theorem oX10_stationAt_0 : OKI 120 0 (.iload_n 1, 1, [1], 0, 0, []) := And.intro dX10_stationAt_0 (And.intro rfl (rfl))
theorem oX10_stationAt_1 : OKI 120 1 (.iconst 0, 2, [], 0, 0, []) := And.intro dX10_stationAt_1 (And.intro rfl (by decide +kernel))
theorem oX10_stationAt_2 : OKI 120 2 (.aload_n 0, 3, [0], 0, 0, []) := And.intro dX10_stationAt_2 (And.intro rfl (rfl))
theorem oX10_stationAt_3 : OKI 120 3 (.getfield 12, 6, [11, 0, 2, 0, 1], 0, 0, []) := And.intro dX10_stationAt_3 (And.intro rfl (⟨(RX10, TX10, 15), "SpotTimers", rfl, by decide, tm_1 _ (List.mem_of_getElem? (i := 230) rfl) rfl, Or.inl rfl, rfl, rfl⟩))
theorem oX10_stationAt_6 : OKI 120 6 (.invokevirtual 91, 9, [271, 1, 1, 0, 0, 1], 0, 0, []) := And.intro dX10_stationAt_6 (And.intro rfl (And.intro (by decide) (And.intro (by decide) (And.intro mo_Jx4a65c_size_8abf5 (And.intro (tm_2 _ (List.mem_of_getElem? (i := 50) rfl) rfl) (And.intro (tm_2 _ (List.mem_of_getElem? (i := 51) rfl) rfl) (And.intro (tm_2 _ (List.mem_of_getElem? (i := 52) rfl) rfl) (Or.inl ⟨(RJx4a65c, TJx4a65c, 3), rfl, rfl⟩))))))))
theorem oX10_stationAt_9 : OKI 120 9 (.iconst 1, 10, [], 1, 0, []) := And.intro dX10_stationAt_9 (And.intro rfl (by decide +kernel))
theorem oX10_stationAt_10 : OKI 120 10 (.isub, 11, [], 0, 0, []) := And.intro dX10_stationAt_10 rfl
theorem oX10_stationAt_11 : OKI 120 11 (.invokestatic 84, 14, [111, 3, 0, 0, 0, 1], 0, 0, []) := And.intro dX10_stationAt_11 (And.intro rfl (And.intro rfl (And.intro mo_X10_within (And.intro (Or.inl (tm_2 _ (List.mem_of_getElem? (i := 40) rfl) rfl)) (tm_2 _ (List.mem_of_getElem? (i := 41) rfl) rfl)))))
theorem oX10_stationAt_14 : OKI 120 14 (.ifCond .eq 17, 17, [31], 0, 0, []) := And.intro dX10_stationAt_14 (And.intro rfl (by decide))
theorem oX10_stationAt_17 : OKI 120 17 (.aload_n 0, 18, [0], 0, 0, []) := And.intro dX10_stationAt_17 (And.intro rfl (rfl))
theorem oX10_stationAt_18 : OKI 120 18 (.getfield 12, 21, [11, 0, 2, 0, 1], 0, 0, []) := And.intro dX10_stationAt_18 (And.intro rfl (⟨(RX10, TX10, 15), "SpotTimers", rfl, by decide, tm_1 _ (List.mem_of_getElem? (i := 230) rfl) rfl, Or.inl rfl, rfl, rfl⟩))
theorem oX10_stationAt_21 : OKI 120 21 (.iload_n 1, 22, [1], 0, 0, []) := And.intro dX10_stationAt_21 (And.intro rfl (rfl))
theorem oX10_stationAt_22 : OKI 120 22 (.invokevirtual 410, 25, [273, 2, 1, 0, 0, 3], 0, 0, []) := And.intro dX10_stationAt_22 (And.intro rfl (And.intro (by decide) (And.intro (by decide) (And.intro mo_Jx4a65c_get_915e3 (And.intro (tm_2 _ (List.mem_of_getElem? (i := 154) rfl) rfl) (And.intro (tm_2 _ (List.mem_of_getElem? (i := 155) rfl) rfl) (And.intro (tm_2 _ (List.mem_of_getElem? (i := 156) rfl) rfl) (Or.inl ⟨(RJx4a65c, TJx4a65c, 3), rfl, rfl⟩))))))))
theorem oX10_stationAt_25 : OKI 120 25 (.checkcast 95, 28, [8], 0, 0, []) := And.intro dX10_stationAt_25 (And.intro rfl (⟨(RX7, TX7, 5), rfl, tm_2 _ (List.mem_of_getElem? (i := 54) rfl) rfl⟩))
theorem oX10_stationAt_28 : OKI 120 28 (.goto 4, 31, [32], 0, 0, []) := And.intro dX10_stationAt_28 (And.intro rfl (by decide))
theorem oX10_stationAt_31 : OKI 120 31 (.aconst_null, 32, [], 0, 0, []) := And.intro dX10_stationAt_31 rfl
theorem oX10_stationAt_32 : OKI 120 32 (.areturn, 33, [], 0, 0, []) := And.intro dX10_stationAt_32 ⟨_, rfl, Or.inl ⟨_, rfl⟩⟩
def pfX10_stationAt (pc : Nat) : Option XE := (bif Nat.blt pc 14 then (bif Nat.blt pc 6 then (bif Nat.blt pc 2 then (bif Nat.blt pc 1 then (bif Nat.beq pc 0 then some (.iload_n 1, 1, [1], 0, 0, []) else none) else (bif Nat.beq pc 1 then some (.iconst 0, 2, [], 0, 0, []) else none)) else (bif Nat.blt pc 3 then (bif Nat.beq pc 2 then some (.aload_n 0, 3, [0], 0, 0, []) else none) else (bif Nat.beq pc 3 then some (.getfield 12, 6, [11, 0, 2, 0, 1], 0, 0, []) else none))) else (bif Nat.blt pc 10 then (bif Nat.blt pc 9 then (bif Nat.beq pc 6 then some (.invokevirtual 91, 9, [271, 1, 1, 0, 0, 1], 0, 0, []) else none) else (bif Nat.beq pc 9 then some (.iconst 1, 10, [], 1, 0, []) else none)) else (bif Nat.blt pc 11 then (bif Nat.beq pc 10 then some (.isub, 11, [], 0, 0, []) else none) else (bif Nat.beq pc 11 then some (.invokestatic 84, 14, [111, 3, 0, 0, 0, 1], 0, 0, []) else none)))) else (bif Nat.blt pc 22 then (bif Nat.blt pc 18 then (bif Nat.blt pc 17 then (bif Nat.beq pc 14 then some (.ifCond .eq 17, 17, [31], 0, 0, []) else none) else (bif Nat.beq pc 17 then some (.aload_n 0, 18, [0], 0, 0, []) else none)) else (bif Nat.blt pc 21 then (bif Nat.beq pc 18 then some (.getfield 12, 21, [11, 0, 2, 0, 1], 0, 0, []) else none) else (bif Nat.beq pc 21 then some (.iload_n 1, 22, [1], 0, 0, []) else none))) else (bif Nat.blt pc 28 then (bif Nat.blt pc 25 then (bif Nat.beq pc 22 then some (.invokevirtual 410, 25, [273, 2, 1, 0, 0, 3], 0, 0, []) else none) else (bif Nat.beq pc 25 then some (.checkcast 95, 28, [8], 0, 0, []) else none)) else (bif Nat.blt pc 31 then (bif Nat.beq pc 28 then some (.goto 4, 31, [32], 0, 0, []) else none) else (bif Nat.blt pc 32 then (bif Nat.beq pc 31 then some (.aconst_null, 32, [], 0, 0, []) else none) else (bif Nat.beq pc 32 then some (.areturn, 33, [], 0, 0, []) else none))))))
theorem okX10_stationAt : ∀ pc Y, pfX10_stationAt pc = some Y → OKI m_X10_stationAt pc Y := fun pc Y => ((bt_node (bt_node (bt_node (bt_node (bt_leaf (P := OKI m_X10_stationAt) oX10_stationAt_0) (bt_leaf (P := OKI m_X10_stationAt) oX10_stationAt_1)) (bt_node (bt_leaf (P := OKI m_X10_stationAt) oX10_stationAt_2) (bt_leaf (P := OKI m_X10_stationAt) oX10_stationAt_3))) (bt_node (bt_node (bt_leaf (P := OKI m_X10_stationAt) oX10_stationAt_6) (bt_leaf (P := OKI m_X10_stationAt) oX10_stationAt_9)) (bt_node (bt_leaf (P := OKI m_X10_stationAt) oX10_stationAt_10) (bt_leaf (P := OKI m_X10_stationAt) oX10_stationAt_11)))) (bt_node (bt_node (bt_node (bt_leaf (P := OKI m_X10_stationAt) oX10_stationAt_14) (bt_leaf (P := OKI m_X10_stationAt) oX10_stationAt_17)) (bt_node (bt_leaf (P := OKI m_X10_stationAt) oX10_stationAt_18) (bt_leaf (P := OKI m_X10_stationAt) oX10_stationAt_21))) (bt_node (bt_node (bt_leaf (P := OKI m_X10_stationAt) oX10_stationAt_22) (bt_leaf (P := OKI m_X10_stationAt) oX10_stationAt_25)) (bt_node (bt_leaf (P := OKI m_X10_stationAt) oX10_stationAt_28) (bt_node (bt_leaf (P := OKI m_X10_stationAt) oX10_stationAt_31) (bt_leaf (P := OKI m_X10_stationAt) oX10_stationAt_32)))))) : pfX10_stationAt pc = some Y → OKI m_X10_stationAt pc Y)
def stpX10_stationAt (pc : Nat) : Option (List Bool) := (bif Nat.beq pc 32 then some [false, false] else none)
def bX10_stationAt_0 (d rc rs : Nat) (a1 : Int32) (σ : XH) (Q : XV → XH → Prop) : Prop :=
  ((hr σ 11 0 0 = some (0, 0) ∧ ((1 ≤ d ∧ Ec (d - 1) 0 0 m_Jx4a65c_size_8abf5 [vR (some (0, 0))] σ (kI fun x2 h1 => (1 ≤ d ∧ Ec (d - 1) 0 0 m_X10_within [vI a1, vI 0, vI (x2 - 1)] h1 (kI fun x4 h3 => ((x4 = 0 → Ex d rc rs m_X10_stationAt 32 [vU, vU] [vR none] h3 Q) ∧ (¬ x4 = 0 → ((hr h3 11 0 0 = some (0, 0) ∧ ((1 ≤ d ∧ Ec (d - 1) 0 0 m_Jx4a65c_get_915e3 [vR (some (0, 0)), vI a1] h3 (kR fun x6 h5 => (cst x6 8 fun o7 => Ex d rc rs m_X10_stationAt 32 [vU, vU] [vR o7] h5 Q)))))))))))))))
theorem sX10_stationAt_0 {d rc rs : Nat} {a1 : Int32} {σ : XH} {Q : XV → XH → Prop} (h : bX10_stationAt_0 d rc rs a1 σ Q) : Ex d rc rs m_X10_stationAt 0 [vR (some (11, 0)), vI a1] [] σ Q :=
  xtree_sound (stop := stpX10_stationAt) okX10_stationAt 17 _ _ _ _ _ _ h
def bX10_stationAt_32 (d rc rs : Nat) (q0 : Option XO) (σ : XH) (Q : XV → XH → Prop) : Prop :=
  Q (vR q0) σ
theorem sX10_stationAt_32 {d rc rs : Nat} {q0 : Option XO} {σ : XH} {Q : XV → XH → Prop} (h : bX10_stationAt_32 d rc rs q0 σ Q) : Ex d rc rs m_X10_stationAt 32 [vU, vU] [vR q0] σ Q :=
  xtree_sound (stop := stpX10_stationAt) okX10_stationAt 3 _ _ _ _ _ _ h
/-! SpotTimers.clockAt(I)LSpotTimers$Clock; -/
theorem dX10_clockAt_0 : decode cX10_clockAt 0 = .ok (.iload_n 1, 1) := by decide +kernel
theorem dX10_clockAt_1 : decode cX10_clockAt 1 = .ok (.iconst 0, 1) := by decide +kernel
theorem dX10_clockAt_2 : decode cX10_clockAt 2 = .ok (.aload_n 0, 1) := by decide +kernel
theorem dX10_clockAt_3 : decode cX10_clockAt 3 = .ok (.getfield 18, 3) := by decide +kernel
theorem dX10_clockAt_6 : decode cX10_clockAt 6 = .ok (.invokevirtual 91, 3) := by decide +kernel
theorem dX10_clockAt_9 : decode cX10_clockAt 9 = .ok (.iconst 1, 1) := by decide +kernel
theorem dX10_clockAt_10 : decode cX10_clockAt 10 = .ok (.isub, 1) := by decide +kernel
theorem dX10_clockAt_11 : decode cX10_clockAt 11 = .ok (.invokestatic 84, 3) := by decide +kernel
theorem dX10_clockAt_14 : decode cX10_clockAt 14 = .ok (.ifCond .eq 17, 3) := by decide +kernel
theorem dX10_clockAt_17 : decode cX10_clockAt 17 = .ok (.aload_n 0, 1) := by decide +kernel
theorem dX10_clockAt_18 : decode cX10_clockAt 18 = .ok (.getfield 18, 3) := by decide +kernel
theorem dX10_clockAt_21 : decode cX10_clockAt 21 = .ok (.iload_n 1, 1) := by decide +kernel
theorem dX10_clockAt_22 : decode cX10_clockAt 22 = .ok (.invokevirtual 410, 3) := by decide +kernel
theorem dX10_clockAt_25 : decode cX10_clockAt 25 = .ok (.checkcast 108, 3) := by decide +kernel
theorem dX10_clockAt_28 : decode cX10_clockAt 28 = .ok (.goto 4, 3) := by decide +kernel
theorem dX10_clockAt_31 : decode cX10_clockAt 31 = .ok (.aconst_null, 1) := by decide +kernel
theorem dX10_clockAt_32 : decode cX10_clockAt 32 = .ok (.areturn, 1) := by decide +kernel
theorem oX10_clockAt_0 : OKI 121 0 (.iload_n 1, 1, [1], 0, 0, []) := And.intro dX10_clockAt_0 (And.intro rfl (rfl))
theorem oX10_clockAt_1 : OKI 121 1 (.iconst 0, 2, [], 0, 0, []) := And.intro dX10_clockAt_1 (And.intro rfl (by decide +kernel))
theorem oX10_clockAt_2 : OKI 121 2 (.aload_n 0, 3, [0], 0, 0, []) := And.intro dX10_clockAt_2 (And.intro rfl (rfl))
theorem oX10_clockAt_3 : OKI 121 3 (.getfield 18, 6, [11, 1, 2, 0, 2], 0, 0, []) := And.intro dX10_clockAt_3 (And.intro rfl (⟨(RX10, TX10, 15), "SpotTimers", rfl, by decide, tm_1 _ (List.mem_of_getElem? (i := 231) rfl) rfl, Or.inl rfl, rfl, rfl⟩))
theorem oX10_clockAt_6 : OKI 121 6 (.invokevirtual 91, 9, [271, 1, 1, 0, 0, 1], 0, 0, []) := And.intro dX10_clockAt_6 (And.intro rfl (And.intro (by decide) (And.intro (by decide) (And.intro mo_Jx4a65c_size_8abf5 (And.intro (tm_2 _ (List.mem_of_getElem? (i := 50) rfl) rfl) (And.intro (tm_2 _ (List.mem_of_getElem? (i := 51) rfl) rfl) (And.intro (tm_2 _ (List.mem_of_getElem? (i := 52) rfl) rfl) (Or.inl ⟨(RJx4a65c, TJx4a65c, 3), rfl, rfl⟩))))))))
theorem oX10_clockAt_9 : OKI 121 9 (.iconst 1, 10, [], 1, 0, []) := And.intro dX10_clockAt_9 (And.intro rfl (by decide +kernel))
theorem oX10_clockAt_10 : OKI 121 10 (.isub, 11, [], 0, 0, []) := And.intro dX10_clockAt_10 rfl
theorem oX10_clockAt_11 : OKI 121 11 (.invokestatic 84, 14, [111, 3, 0, 0, 0, 1], 0, 0, []) := And.intro dX10_clockAt_11 (And.intro rfl (And.intro rfl (And.intro mo_X10_within (And.intro (Or.inl (tm_2 _ (List.mem_of_getElem? (i := 40) rfl) rfl)) (tm_2 _ (List.mem_of_getElem? (i := 41) rfl) rfl)))))
theorem oX10_clockAt_14 : OKI 121 14 (.ifCond .eq 17, 17, [31], 0, 0, []) := And.intro dX10_clockAt_14 (And.intro rfl (by decide))
theorem oX10_clockAt_17 : OKI 121 17 (.aload_n 0, 18, [0], 0, 0, []) := And.intro dX10_clockAt_17 (And.intro rfl (rfl))
theorem oX10_clockAt_18 : OKI 121 18 (.getfield 18, 21, [11, 1, 2, 0, 2], 0, 0, []) := And.intro dX10_clockAt_18 (And.intro rfl (⟨(RX10, TX10, 15), "SpotTimers", rfl, by decide, tm_1 _ (List.mem_of_getElem? (i := 231) rfl) rfl, Or.inl rfl, rfl, rfl⟩))
theorem oX10_clockAt_21 : OKI 121 21 (.iload_n 1, 22, [1], 0, 0, []) := And.intro dX10_clockAt_21 (And.intro rfl (rfl))
theorem oX10_clockAt_22 : OKI 121 22 (.invokevirtual 410, 25, [273, 2, 1, 0, 0, 3], 0, 0, []) := And.intro dX10_clockAt_22 (And.intro rfl (And.intro (by decide) (And.intro (by decide) (And.intro mo_Jx4a65c_get_915e3 (And.intro (tm_2 _ (List.mem_of_getElem? (i := 154) rfl) rfl) (And.intro (tm_2 _ (List.mem_of_getElem? (i := 155) rfl) rfl) (And.intro (tm_2 _ (List.mem_of_getElem? (i := 156) rfl) rfl) (Or.inl ⟨(RJx4a65c, TJx4a65c, 3), rfl, rfl⟩))))))))
theorem oX10_clockAt_25 : OKI 121 25 (.checkcast 108, 28, [2], 0, 0, []) := And.intro dX10_clockAt_25 (And.intro rfl (⟨(RX1, TX1, 6), rfl, tm_2 _ (List.mem_of_getElem? (i := 168) rfl) rfl⟩))
theorem oX10_clockAt_28 : OKI 121 28 (.goto 4, 31, [32], 0, 0, []) := And.intro dX10_clockAt_28 (And.intro rfl (by decide))
theorem oX10_clockAt_31 : OKI 121 31 (.aconst_null, 32, [], 0, 0, []) := And.intro dX10_clockAt_31 rfl
theorem oX10_clockAt_32 : OKI 121 32 (.areturn, 33, [], 0, 0, []) := And.intro dX10_clockAt_32 ⟨_, rfl, Or.inl ⟨_, rfl⟩⟩
def pfX10_clockAt (pc : Nat) : Option XE := (bif Nat.blt pc 14 then (bif Nat.blt pc 6 then (bif Nat.blt pc 2 then (bif Nat.blt pc 1 then (bif Nat.beq pc 0 then some (.iload_n 1, 1, [1], 0, 0, []) else none) else (bif Nat.beq pc 1 then some (.iconst 0, 2, [], 0, 0, []) else none)) else (bif Nat.blt pc 3 then (bif Nat.beq pc 2 then some (.aload_n 0, 3, [0], 0, 0, []) else none) else (bif Nat.beq pc 3 then some (.getfield 18, 6, [11, 1, 2, 0, 2], 0, 0, []) else none))) else (bif Nat.blt pc 10 then (bif Nat.blt pc 9 then (bif Nat.beq pc 6 then some (.invokevirtual 91, 9, [271, 1, 1, 0, 0, 1], 0, 0, []) else none) else (bif Nat.beq pc 9 then some (.iconst 1, 10, [], 1, 0, []) else none)) else (bif Nat.blt pc 11 then (bif Nat.beq pc 10 then some (.isub, 11, [], 0, 0, []) else none) else (bif Nat.beq pc 11 then some (.invokestatic 84, 14, [111, 3, 0, 0, 0, 1], 0, 0, []) else none)))) else (bif Nat.blt pc 22 then (bif Nat.blt pc 18 then (bif Nat.blt pc 17 then (bif Nat.beq pc 14 then some (.ifCond .eq 17, 17, [31], 0, 0, []) else none) else (bif Nat.beq pc 17 then some (.aload_n 0, 18, [0], 0, 0, []) else none)) else (bif Nat.blt pc 21 then (bif Nat.beq pc 18 then some (.getfield 18, 21, [11, 1, 2, 0, 2], 0, 0, []) else none) else (bif Nat.beq pc 21 then some (.iload_n 1, 22, [1], 0, 0, []) else none))) else (bif Nat.blt pc 28 then (bif Nat.blt pc 25 then (bif Nat.beq pc 22 then some (.invokevirtual 410, 25, [273, 2, 1, 0, 0, 3], 0, 0, []) else none) else (bif Nat.beq pc 25 then some (.checkcast 108, 28, [2], 0, 0, []) else none)) else (bif Nat.blt pc 31 then (bif Nat.beq pc 28 then some (.goto 4, 31, [32], 0, 0, []) else none) else (bif Nat.blt pc 32 then (bif Nat.beq pc 31 then some (.aconst_null, 32, [], 0, 0, []) else none) else (bif Nat.beq pc 32 then some (.areturn, 33, [], 0, 0, []) else none))))))
theorem okX10_clockAt : ∀ pc Y, pfX10_clockAt pc = some Y → OKI m_X10_clockAt pc Y := fun pc Y => ((bt_node (bt_node (bt_node (bt_node (bt_leaf (P := OKI m_X10_clockAt) oX10_clockAt_0) (bt_leaf (P := OKI m_X10_clockAt) oX10_clockAt_1)) (bt_node (bt_leaf (P := OKI m_X10_clockAt) oX10_clockAt_2) (bt_leaf (P := OKI m_X10_clockAt) oX10_clockAt_3))) (bt_node (bt_node (bt_leaf (P := OKI m_X10_clockAt) oX10_clockAt_6) (bt_leaf (P := OKI m_X10_clockAt) oX10_clockAt_9)) (bt_node (bt_leaf (P := OKI m_X10_clockAt) oX10_clockAt_10) (bt_leaf (P := OKI m_X10_clockAt) oX10_clockAt_11)))) (bt_node (bt_node (bt_node (bt_leaf (P := OKI m_X10_clockAt) oX10_clockAt_14) (bt_leaf (P := OKI m_X10_clockAt) oX10_clockAt_17)) (bt_node (bt_leaf (P := OKI m_X10_clockAt) oX10_clockAt_18) (bt_leaf (P := OKI m_X10_clockAt) oX10_clockAt_21))) (bt_node (bt_node (bt_leaf (P := OKI m_X10_clockAt) oX10_clockAt_22) (bt_leaf (P := OKI m_X10_clockAt) oX10_clockAt_25)) (bt_node (bt_leaf (P := OKI m_X10_clockAt) oX10_clockAt_28) (bt_node (bt_leaf (P := OKI m_X10_clockAt) oX10_clockAt_31) (bt_leaf (P := OKI m_X10_clockAt) oX10_clockAt_32)))))) : pfX10_clockAt pc = some Y → OKI m_X10_clockAt pc Y)
def stpX10_clockAt (pc : Nat) : Option (List Bool) := (bif Nat.beq pc 32 then some [false, false] else none)
def bX10_clockAt_0 (d rc rs : Nat) (a1 : Int32) (σ : XH) (Q : XV → XH → Prop) : Prop :=
  ((hr σ 11 0 1 = some (0, 1) ∧ ((1 ≤ d ∧ Ec (d - 1) 0 0 m_Jx4a65c_size_8abf5 [vR (some (0, 1))] σ (kI fun x2 h1 => (1 ≤ d ∧ Ec (d - 1) 0 0 m_X10_within [vI a1, vI 0, vI (x2 - 1)] h1 (kI fun x4 h3 => ((x4 = 0 → Ex d rc rs m_X10_clockAt 32 [vU, vU] [vR none] h3 Q) ∧ (¬ x4 = 0 → ((hr h3 11 0 1 = some (0, 1) ∧ ((1 ≤ d ∧ Ec (d - 1) 0 0 m_Jx4a65c_get_915e3 [vR (some (0, 1)), vI a1] h3 (kR fun x6 h5 => (cst x6 2 fun o7 => Ex d rc rs m_X10_clockAt 32 [vU, vU] [vR o7] h5 Q)))))))))))))))
theorem sX10_clockAt_0 {d rc rs : Nat} {a1 : Int32} {σ : XH} {Q : XV → XH → Prop} (h : bX10_clockAt_0 d rc rs a1 σ Q) : Ex d rc rs m_X10_clockAt 0 [vR (some (11, 0)), vI a1] [] σ Q :=
  xtree_sound (stop := stpX10_clockAt) okX10_clockAt 17 _ _ _ _ _ _ h
def bX10_clockAt_32 (d rc rs : Nat) (q0 : Option XO) (σ : XH) (Q : XV → XH → Prop) : Prop :=
  Q (vR q0) σ
theorem sX10_clockAt_32 {d rc rs : Nat} {q0 : Option XO} {σ : XH} {Q : XV → XH → Prop} (h : bX10_clockAt_32 d rc rs q0 σ Q) : Ex d rc rs m_X10_clockAt 32 [vU, vU] [vR q0] σ Q :=
  xtree_sound (stop := stpX10_clockAt) okX10_clockAt 3 _ _ _ _ _ _ h
/-! SpotTimers.readingAt(I)LSpotTimers$Reading; -/
theorem dX10_readingAt_0 : decode cX10_readingAt 0 = .ok (.iload_n 1, 1) := by decide +kernel
theorem dX10_readingAt_1 : decode cX10_readingAt 1 = .ok (.iconst 0, 1) := by decide +kernel
theorem dX10_readingAt_2 : decode cX10_readingAt 2 = .ok (.aload_n 0, 1) := by decide +kernel
theorem dX10_readingAt_3 : decode cX10_readingAt 3 = .ok (.getfield 21, 3) := by decide +kernel
theorem dX10_readingAt_6 : decode cX10_readingAt 6 = .ok (.invokevirtual 91, 3) := by decide +kernel
theorem dX10_readingAt_9 : decode cX10_readingAt 9 = .ok (.iconst 1, 1) := by decide +kernel
theorem dX10_readingAt_10 : decode cX10_readingAt 10 = .ok (.isub, 1) := by decide +kernel
theorem dX10_readingAt_11 : decode cX10_readingAt 11 = .ok (.invokestatic 84, 3) := by decide +kernel
theorem dX10_readingAt_14 : decode cX10_readingAt 14 = .ok (.ifCond .eq 17, 3) := by decide +kernel
theorem dX10_readingAt_17 : decode cX10_readingAt 17 = .ok (.aload_n 0, 1) := by decide +kernel
theorem dX10_readingAt_18 : decode cX10_readingAt 18 = .ok (.getfield 21, 3) := by decide +kernel
theorem dX10_readingAt_21 : decode cX10_readingAt 21 = .ok (.iload_n 1, 1) := by decide +kernel
theorem dX10_readingAt_22 : decode cX10_readingAt 22 = .ok (.invokevirtual 410, 3) := by decide +kernel
theorem dX10_readingAt_25 : decode cX10_readingAt 25 = .ok (.checkcast 143, 3) := by decide +kernel
theorem dX10_readingAt_28 : decode cX10_readingAt 28 = .ok (.goto 4, 3) := by decide +kernel
theorem dX10_readingAt_31 : decode cX10_readingAt 31 = .ok (.aconst_null, 1) := by decide +kernel
theorem dX10_readingAt_32 : decode cX10_readingAt 32 = .ok (.areturn, 1) := by decide +kernel
theorem oX10_readingAt_0 : OKI 122 0 (.iload_n 1, 1, [1], 0, 0, []) := And.intro dX10_readingAt_0 (And.intro rfl (rfl))
theorem oX10_readingAt_1 : OKI 122 1 (.iconst 0, 2, [], 0, 0, []) := And.intro dX10_readingAt_1 (And.intro rfl (by decide +kernel))
theorem oX10_readingAt_2 : OKI 122 2 (.aload_n 0, 3, [0], 0, 0, []) := And.intro dX10_readingAt_2 (And.intro rfl (rfl))
theorem oX10_readingAt_3 : OKI 122 3 (.getfield 21, 6, [11, 2, 2, 0, 3], 0, 0, []) := And.intro dX10_readingAt_3 (And.intro rfl (⟨(RX10, TX10, 15), "SpotTimers", rfl, by decide, tm_1 _ (List.mem_of_getElem? (i := 232) rfl) rfl, Or.inl rfl, rfl, rfl⟩))
theorem oX10_readingAt_6 : OKI 122 6 (.invokevirtual 91, 9, [271, 1, 1, 0, 0, 1], 0, 0, []) := And.intro dX10_readingAt_6 (And.intro rfl (And.intro (by decide) (And.intro (by decide) (And.intro mo_Jx4a65c_size_8abf5 (And.intro (tm_2 _ (List.mem_of_getElem? (i := 50) rfl) rfl) (And.intro (tm_2 _ (List.mem_of_getElem? (i := 51) rfl) rfl) (And.intro (tm_2 _ (List.mem_of_getElem? (i := 52) rfl) rfl) (Or.inl ⟨(RJx4a65c, TJx4a65c, 3), rfl, rfl⟩))))))))
theorem oX10_readingAt_9 : OKI 122 9 (.iconst 1, 10, [], 1, 0, []) := And.intro dX10_readingAt_9 (And.intro rfl (by decide +kernel))
theorem oX10_readingAt_10 : OKI 122 10 (.isub, 11, [], 0, 0, []) := And.intro dX10_readingAt_10 rfl
theorem oX10_readingAt_11 : OKI 122 11 (.invokestatic 84, 14, [111, 3, 0, 0, 0, 1], 0, 0, []) := And.intro dX10_readingAt_11 (And.intro rfl (And.intro rfl (And.intro mo_X10_within (And.intro (Or.inl (tm_2 _ (List.mem_of_getElem? (i := 40) rfl) rfl)) (tm_2 _ (List.mem_of_getElem? (i := 41) rfl) rfl)))))
theorem oX10_readingAt_14 : OKI 122 14 (.ifCond .eq 17, 17, [31], 0, 0, []) := And.intro dX10_readingAt_14 (And.intro rfl (by decide))
theorem oX10_readingAt_17 : OKI 122 17 (.aload_n 0, 18, [0], 0, 0, []) := And.intro dX10_readingAt_17 (And.intro rfl (rfl))
theorem oX10_readingAt_18 : OKI 122 18 (.getfield 21, 21, [11, 2, 2, 0, 3], 0, 0, []) := And.intro dX10_readingAt_18 (And.intro rfl (⟨(RX10, TX10, 15), "SpotTimers", rfl, by decide, tm_1 _ (List.mem_of_getElem? (i := 232) rfl) rfl, Or.inl rfl, rfl, rfl⟩))
theorem oX10_readingAt_21 : OKI 122 21 (.iload_n 1, 22, [1], 0, 0, []) := And.intro dX10_readingAt_21 (And.intro rfl (rfl))
theorem oX10_readingAt_22 : OKI 122 22 (.invokevirtual 410, 25, [273, 2, 1, 0, 0, 3], 0, 0, []) := And.intro dX10_readingAt_22 (And.intro rfl (And.intro (by decide) (And.intro (by decide) (And.intro mo_Jx4a65c_get_915e3 (And.intro (tm_2 _ (List.mem_of_getElem? (i := 154) rfl) rfl) (And.intro (tm_2 _ (List.mem_of_getElem? (i := 155) rfl) rfl) (And.intro (tm_2 _ (List.mem_of_getElem? (i := 156) rfl) rfl) (Or.inl ⟨(RJx4a65c, TJx4a65c, 3), rfl, rfl⟩))))))))
theorem oX10_readingAt_25 : OKI 122 25 (.checkcast 143, 28, [5], 0, 0, []) := And.intro dX10_readingAt_25 (And.intro rfl (⟨(RX4, TX4, 11), rfl, tm_2 _ (List.mem_of_getElem? (i := 222) rfl) rfl⟩))
theorem oX10_readingAt_28 : OKI 122 28 (.goto 4, 31, [32], 0, 0, []) := And.intro dX10_readingAt_28 (And.intro rfl (by decide))
theorem oX10_readingAt_31 : OKI 122 31 (.aconst_null, 32, [], 0, 0, []) := And.intro dX10_readingAt_31 rfl
theorem oX10_readingAt_32 : OKI 122 32 (.areturn, 33, [], 0, 0, []) := And.intro dX10_readingAt_32 ⟨_, rfl, Or.inl ⟨_, rfl⟩⟩
def pfX10_readingAt (pc : Nat) : Option XE := (bif Nat.blt pc 14 then (bif Nat.blt pc 6 then (bif Nat.blt pc 2 then (bif Nat.blt pc 1 then (bif Nat.beq pc 0 then some (.iload_n 1, 1, [1], 0, 0, []) else none) else (bif Nat.beq pc 1 then some (.iconst 0, 2, [], 0, 0, []) else none)) else (bif Nat.blt pc 3 then (bif Nat.beq pc 2 then some (.aload_n 0, 3, [0], 0, 0, []) else none) else (bif Nat.beq pc 3 then some (.getfield 21, 6, [11, 2, 2, 0, 3], 0, 0, []) else none))) else (bif Nat.blt pc 10 then (bif Nat.blt pc 9 then (bif Nat.beq pc 6 then some (.invokevirtual 91, 9, [271, 1, 1, 0, 0, 1], 0, 0, []) else none) else (bif Nat.beq pc 9 then some (.iconst 1, 10, [], 1, 0, []) else none)) else (bif Nat.blt pc 11 then (bif Nat.beq pc 10 then some (.isub, 11, [], 0, 0, []) else none) else (bif Nat.beq pc 11 then some (.invokestatic 84, 14, [111, 3, 0, 0, 0, 1], 0, 0, []) else none)))) else (bif Nat.blt pc 22 then (bif Nat.blt pc 18 then (bif Nat.blt pc 17 then (bif Nat.beq pc 14 then some (.ifCond .eq 17, 17, [31], 0, 0, []) else none) else (bif Nat.beq pc 17 then some (.aload_n 0, 18, [0], 0, 0, []) else none)) else (bif Nat.blt pc 21 then (bif Nat.beq pc 18 then some (.getfield 21, 21, [11, 2, 2, 0, 3], 0, 0, []) else none) else (bif Nat.beq pc 21 then some (.iload_n 1, 22, [1], 0, 0, []) else none))) else (bif Nat.blt pc 28 then (bif Nat.blt pc 25 then (bif Nat.beq pc 22 then some (.invokevirtual 410, 25, [273, 2, 1, 0, 0, 3], 0, 0, []) else none) else (bif Nat.beq pc 25 then some (.checkcast 143, 28, [5], 0, 0, []) else none)) else (bif Nat.blt pc 31 then (bif Nat.beq pc 28 then some (.goto 4, 31, [32], 0, 0, []) else none) else (bif Nat.blt pc 32 then (bif Nat.beq pc 31 then some (.aconst_null, 32, [], 0, 0, []) else none) else (bif Nat.beq pc 32 then some (.areturn, 33, [], 0, 0, []) else none))))))
theorem okX10_readingAt : ∀ pc Y, pfX10_readingAt pc = some Y → OKI m_X10_readingAt pc Y := fun pc Y => ((bt_node (bt_node (bt_node (bt_node (bt_leaf (P := OKI m_X10_readingAt) oX10_readingAt_0) (bt_leaf (P := OKI m_X10_readingAt) oX10_readingAt_1)) (bt_node (bt_leaf (P := OKI m_X10_readingAt) oX10_readingAt_2) (bt_leaf (P := OKI m_X10_readingAt) oX10_readingAt_3))) (bt_node (bt_node (bt_leaf (P := OKI m_X10_readingAt) oX10_readingAt_6) (bt_leaf (P := OKI m_X10_readingAt) oX10_readingAt_9)) (bt_node (bt_leaf (P := OKI m_X10_readingAt) oX10_readingAt_10) (bt_leaf (P := OKI m_X10_readingAt) oX10_readingAt_11)))) (bt_node (bt_node (bt_node (bt_leaf (P := OKI m_X10_readingAt) oX10_readingAt_14) (bt_leaf (P := OKI m_X10_readingAt) oX10_readingAt_17)) (bt_node (bt_leaf (P := OKI m_X10_readingAt) oX10_readingAt_18) (bt_leaf (P := OKI m_X10_readingAt) oX10_readingAt_21))) (bt_node (bt_node (bt_leaf (P := OKI m_X10_readingAt) oX10_readingAt_22) (bt_leaf (P := OKI m_X10_readingAt) oX10_readingAt_25)) (bt_node (bt_leaf (P := OKI m_X10_readingAt) oX10_readingAt_28) (bt_node (bt_leaf (P := OKI m_X10_readingAt) oX10_readingAt_31) (bt_leaf (P := OKI m_X10_readingAt) oX10_readingAt_32)))))) : pfX10_readingAt pc = some Y → OKI m_X10_readingAt pc Y)
def stpX10_readingAt (pc : Nat) : Option (List Bool) := (bif Nat.beq pc 32 then some [false, false] else none)
def bX10_readingAt_0 (d rc rs : Nat) (a1 : Int32) (σ : XH) (Q : XV → XH → Prop) : Prop :=
  ((hr σ 11 0 2 = some (0, 2) ∧ ((1 ≤ d ∧ Ec (d - 1) 0 0 m_Jx4a65c_size_8abf5 [vR (some (0, 2))] σ (kI fun x2 h1 => (1 ≤ d ∧ Ec (d - 1) 0 0 m_X10_within [vI a1, vI 0, vI (x2 - 1)] h1 (kI fun x4 h3 => ((x4 = 0 → Ex d rc rs m_X10_readingAt 32 [vU, vU] [vR none] h3 Q) ∧ (¬ x4 = 0 → ((hr h3 11 0 2 = some (0, 2) ∧ ((1 ≤ d ∧ Ec (d - 1) 0 0 m_Jx4a65c_get_915e3 [vR (some (0, 2)), vI a1] h3 (kR fun x6 h5 => (cst x6 5 fun o7 => Ex d rc rs m_X10_readingAt 32 [vU, vU] [vR o7] h5 Q)))))))))))))))
theorem sX10_readingAt_0 {d rc rs : Nat} {a1 : Int32} {σ : XH} {Q : XV → XH → Prop} (h : bX10_readingAt_0 d rc rs a1 σ Q) : Ex d rc rs m_X10_readingAt 0 [vR (some (11, 0)), vI a1] [] σ Q :=
  xtree_sound (stop := stpX10_readingAt) okX10_readingAt 17 _ _ _ _ _ _ h
def bX10_readingAt_32 (d rc rs : Nat) (q0 : Option XO) (σ : XH) (Q : XV → XH → Prop) : Prop :=
  Q (vR q0) σ
theorem sX10_readingAt_32 {d rc rs : Nat} {q0 : Option XO} {σ : XH} {Q : XV → XH → Prop} (h : bX10_readingAt_32 d rc rs q0 σ Q) : Ex d rc rs m_X10_readingAt 32 [vU, vU] [vR q0] σ Q :=
  xtree_sound (stop := stpX10_readingAt) okX10_readingAt 3 _ _ _ _ _ _ h
/-! SpotTimers.tapeAt(I)LSpotTimers$Tape; -/
theorem dX10_tapeAt_0 : decode cX10_tapeAt 0 = .ok (.iload_n 1, 1) := by decide +kernel
theorem dX10_tapeAt_1 : decode cX10_tapeAt 1 = .ok (.iconst 0, 1) := by decide +kernel
theorem dX10_tapeAt_2 : decode cX10_tapeAt 2 = .ok (.aload_n 0, 1) := by decide +kernel
theorem dX10_tapeAt_3 : decode cX10_tapeAt 3 = .ok (.getfield 35, 3) := by decide +kernel
theorem dX10_tapeAt_6 : decode cX10_tapeAt 6 = .ok (.arraylength, 1) := by decide +kernel
theorem dX10_tapeAt_7 : decode cX10_tapeAt 7 = .ok (.iconst 1, 1) := by decide +kernel
theorem dX10_tapeAt_8 : decode cX10_tapeAt 8 = .ok (.isub, 1) := by decide +kernel
theorem dX10_tapeAt_9 : decode cX10_tapeAt 9 = .ok (.invokestatic 84, 3) := by decide +kernel
theorem dX10_tapeAt_12 : decode cX10_tapeAt 12 = .ok (.ifCond .eq 12, 3) := by decide +kernel
theorem dX10_tapeAt_15 : decode cX10_tapeAt 15 = .ok (.aload_n 0, 1) := by decide +kernel
theorem dX10_tapeAt_16 : decode cX10_tapeAt 16 = .ok (.getfield 35, 3) := by decide +kernel
theorem dX10_tapeAt_19 : decode cX10_tapeAt 19 = .ok (.iload_n 1, 1) := by decide +kernel
theorem dX10_tapeAt_20 : decode cX10_tapeAt 20 = .ok (.aaload, 1) := by decide +kernel
theorem dX10_tapeAt_21 : decode cX10_tapeAt 21 = .ok (.goto 4, 3) := by decide +kernel
theorem dX10_tapeAt_24 : decode cX10_tapeAt 24 = .ok (.aconst_null, 1) := by decide +kernel
theorem dX10_tapeAt_25 : decode cX10_tapeAt 25 = .ok (.areturn, 1) := by decide +kernel
theorem oX10_tapeAt_0 : OKI 123 0 (.iload_n 1, 1, [1], 0, 0, []) := And.intro dX10_tapeAt_0 (And.intro rfl (rfl))
theorem oX10_tapeAt_1 : OKI 123 1 (.iconst 0, 2, [], 0, 0, []) := And.intro dX10_tapeAt_1 (And.intro rfl (by decide +kernel))
theorem oX10_tapeAt_2 : OKI 123 2 (.aload_n 0, 3, [0], 0, 0, []) := And.intro dX10_tapeAt_2 (And.intro rfl (rfl))
theorem oX10_tapeAt_3 : OKI 123 3 (.getfield 35, 6, [11, 6, 2, 400, 0], 0, 0, []) := And.intro dX10_tapeAt_3 (And.intro rfl (⟨(RX10, TX10, 15), "SpotTimers", rfl, by decide, tm_1 _ (List.mem_of_getElem? (i := 236) rfl) rfl, Or.inl rfl, rfl, rfl⟩))
theorem oX10_tapeAt_6 : OKI 123 6 (.arraylength, 7, [], 0, 0, []) := And.intro dX10_tapeAt_6 rfl
theorem oX10_tapeAt_7 : OKI 123 7 (.iconst 1, 8, [], 1, 0, []) := And.intro dX10_tapeAt_7 (And.intro rfl (by decide +kernel))
theorem oX10_tapeAt_8 : OKI 123 8 (.isub, 9, [], 0, 0, []) := And.intro dX10_tapeAt_8 rfl
theorem oX10_tapeAt_9 : OKI 123 9 (.invokestatic 84, 12, [111, 3, 0, 0, 0, 1], 0, 0, []) := And.intro dX10_tapeAt_9 (And.intro rfl (And.intro rfl (And.intro mo_X10_within (And.intro (Or.inl (tm_2 _ (List.mem_of_getElem? (i := 40) rfl) rfl)) (tm_2 _ (List.mem_of_getElem? (i := 41) rfl) rfl)))))
theorem oX10_tapeAt_12 : OKI 123 12 (.ifCond .eq 12, 15, [24], 0, 0, []) := And.intro dX10_tapeAt_12 (And.intro rfl (by decide))
theorem oX10_tapeAt_15 : OKI 123 15 (.aload_n 0, 16, [0], 0, 0, []) := And.intro dX10_tapeAt_15 (And.intro rfl (rfl))
theorem oX10_tapeAt_16 : OKI 123 16 (.getfield 35, 19, [11, 6, 2, 400, 0], 0, 0, []) := And.intro dX10_tapeAt_16 (And.intro rfl (⟨(RX10, TX10, 15), "SpotTimers", rfl, by decide, tm_1 _ (List.mem_of_getElem? (i := 236) rfl) rfl, Or.inl rfl, rfl, rfl⟩))
theorem oX10_tapeAt_19 : OKI 123 19 (.iload_n 1, 20, [1], 0, 0, []) := And.intro dX10_tapeAt_19 (And.intro rfl (rfl))
theorem oX10_tapeAt_20 : OKI 123 20 (.aaload, 21, [], 0, 0, []) := And.intro dX10_tapeAt_20 rfl
theorem oX10_tapeAt_21 : OKI 123 21 (.goto 4, 24, [25], 0, 0, []) := And.intro dX10_tapeAt_21 (And.intro rfl (by decide))
theorem oX10_tapeAt_24 : OKI 123 24 (.aconst_null, 25, [], 0, 0, []) := And.intro dX10_tapeAt_24 rfl
theorem oX10_tapeAt_25 : OKI 123 25 (.areturn, 26, [], 0, 0, []) := And.intro dX10_tapeAt_25 ⟨_, rfl, Or.inl ⟨_, rfl⟩⟩
def pfX10_tapeAt (pc : Nat) : Option XE := (bif Nat.blt pc 12 then (bif Nat.blt pc 6 then (bif Nat.blt pc 2 then (bif Nat.blt pc 1 then (bif Nat.beq pc 0 then some (.iload_n 1, 1, [1], 0, 0, []) else none) else (bif Nat.beq pc 1 then some (.iconst 0, 2, [], 0, 0, []) else none)) else (bif Nat.blt pc 3 then (bif Nat.beq pc 2 then some (.aload_n 0, 3, [0], 0, 0, []) else none) else (bif Nat.beq pc 3 then some (.getfield 35, 6, [11, 6, 2, 400, 0], 0, 0, []) else none))) else (bif Nat.blt pc 8 then (bif Nat.blt pc 7 then (bif Nat.beq pc 6 then some (.arraylength, 7, [], 0, 0, []) else none) else (bif Nat.beq pc 7 then some (.iconst 1, 8, [], 1, 0, []) else none)) else (bif Nat.blt pc 9 then (bif Nat.beq pc 8 then some (.isub, 9, [], 0, 0, []) else none) else (bif Nat.beq pc 9 then some (.invokestatic 84, 12, [111, 3, 0, 0, 0, 1], 0, 0, []) else none)))) else (bif Nat.blt pc 20 then (bif Nat.blt pc 16 then (bif Nat.blt pc 15 then (bif Nat.beq pc 12 then some (.ifCond .eq 12, 15, [24], 0, 0, []) else none) else (bif Nat.beq pc 15 then some (.aload_n 0, 16, [0], 0, 0, []) else none)) else (bif Nat.blt pc 19 then (bif Nat.beq pc 16 then some (.getfield 35, 19, [11, 6, 2, 400, 0], 0, 0, []) else none) else (bif Nat.beq pc 19 then some (.iload_n 1, 20, [1], 0, 0, []) else none))) else (bif Nat.blt pc 24 then (bif Nat.blt pc 21 then (bif Nat.beq pc 20 then some (.aaload, 21, [], 0, 0, []) else none) else (bif Nat.beq pc 21 then some (.goto 4, 24, [25], 0, 0, []) else none)) else (bif Nat.blt pc 25 then (bif Nat.beq pc 24 then some (.aconst_null, 25, [], 0, 0, []) else none) else (bif Nat.beq pc 25 then some (.areturn, 26, [], 0, 0, []) else none)))))
theorem okX10_tapeAt : ∀ pc Y, pfX10_tapeAt pc = some Y → OKI m_X10_tapeAt pc Y := fun pc Y => ((bt_node (bt_node (bt_node (bt_node (bt_leaf (P := OKI m_X10_tapeAt) oX10_tapeAt_0) (bt_leaf (P := OKI m_X10_tapeAt) oX10_tapeAt_1)) (bt_node (bt_leaf (P := OKI m_X10_tapeAt) oX10_tapeAt_2) (bt_leaf (P := OKI m_X10_tapeAt) oX10_tapeAt_3))) (bt_node (bt_node (bt_leaf (P := OKI m_X10_tapeAt) oX10_tapeAt_6) (bt_leaf (P := OKI m_X10_tapeAt) oX10_tapeAt_7)) (bt_node (bt_leaf (P := OKI m_X10_tapeAt) oX10_tapeAt_8) (bt_leaf (P := OKI m_X10_tapeAt) oX10_tapeAt_9)))) (bt_node (bt_node (bt_node (bt_leaf (P := OKI m_X10_tapeAt) oX10_tapeAt_12) (bt_leaf (P := OKI m_X10_tapeAt) oX10_tapeAt_15)) (bt_node (bt_leaf (P := OKI m_X10_tapeAt) oX10_tapeAt_16) (bt_leaf (P := OKI m_X10_tapeAt) oX10_tapeAt_19))) (bt_node (bt_node (bt_leaf (P := OKI m_X10_tapeAt) oX10_tapeAt_20) (bt_leaf (P := OKI m_X10_tapeAt) oX10_tapeAt_21)) (bt_node (bt_leaf (P := OKI m_X10_tapeAt) oX10_tapeAt_24) (bt_leaf (P := OKI m_X10_tapeAt) oX10_tapeAt_25))))) : pfX10_tapeAt pc = some Y → OKI m_X10_tapeAt pc Y)
def stpX10_tapeAt (pc : Nat) : Option (List Bool) := (bif Nat.beq pc 25 then some [false, false] else none)
def bX10_tapeAt_0 (d rc rs : Nat) (a1 : Int32) (σ : XH) (Q : XV → XH → Prop) : Prop :=
  ((hr σ 11 0 6 = some (400, 0) ∧ ((1 ≤ d ∧ Ec (d - 1) 0 0 m_X10_within [vI a1, vI 0, vI ((Int32.ofNat (hn σ 400 0)) - 1)] σ (kI fun x2 h1 => ((x2 = 0 → Ex d rc rs m_X10_tapeAt 25 [vU, vU] [vR none] h1 Q) ∧ (¬ x2 = 0 → ((hr h1 11 0 6 = some (400, 0) ∧ ((vp_in a1 (hn h1 400 0) ∧ Ex d rc rs m_X10_tapeAt 25 [vU, vU] [vR (hr h1 400 0 a1.toNatClampNeg)] h1 Q)))))))))))
theorem sX10_tapeAt_0 {d rc rs : Nat} {a1 : Int32} {σ : XH} {Q : XV → XH → Prop} (h : bX10_tapeAt_0 d rc rs a1 σ Q) : Ex d rc rs m_X10_tapeAt 0 [vR (some (11, 0)), vI a1] [] σ Q :=
  xtree_sound (stop := stpX10_tapeAt) okX10_tapeAt 16 _ _ _ _ _ _ h
def bX10_tapeAt_25 (d rc rs : Nat) (q0 : Option XO) (σ : XH) (Q : XV → XH → Prop) : Prop :=
  Q (vR q0) σ
theorem sX10_tapeAt_25 {d rc rs : Nat} {q0 : Option XO} {σ : XH} {Q : XV → XH → Prop} (h : bX10_tapeAt_25 d rc rs q0 σ Q) : Ex d rc rs m_X10_tapeAt 25 [vU, vU] [vR q0] σ Q :=
  xtree_sound (stop := stpX10_tapeAt) okX10_tapeAt 3 _ _ _ _ _ _ h
/-! SpotTimers.tell(ILSpotTimers$Clock;IILSpotTimers$Reading;)LSpotTimers$Reading; -/
theorem dX10_tell_0 : decode cX10_tell 0 = .ok (.aload_n 0, 1) := by decide +kernel
theorem dX10_tell_1 : decode cX10_tell 1 = .ok (.dup, 1) := by decide +kernel
theorem dX10_tell_2 : decode cX10_tell 2 = .ok (.getfield 77, 3) := by decide +kernel
theorem dX10_tell_5 : decode cX10_tell 5 = .ok (.iconst 1, 1) := by decide +kernel
theorem dX10_tell_6 : decode cX10_tell 6 = .ok (.iadd, 1) := by decide +kernel
theorem dX10_tell_7 : decode cX10_tell 7 = .ok (.putfield 77, 3) := by decide +kernel
theorem dX10_tell_10 : decode cX10_tell 10 = .ok (.new 143, 3) := by decide +kernel
theorem dX10_tell_13 : decode cX10_tell 13 = .ok (.dup, 1) := by decide +kernel
theorem dX10_tell_14 : decode cX10_tell 14 = .ok (.aload_n 0, 1) := by decide +kernel
theorem dX10_tell_15 : decode cX10_tell 15 = .ok (.getfield 21, 3) := by decide +kernel
theorem dX10_tell_18 : decode cX10_tell 18 = .ok (.invokevirtual 91, 3) := by decide +kernel
theorem dX10_tell_21 : decode cX10_tell 21 = .ok (.iload_n 1, 1) := by decide +kernel
theorem dX10_tell_22 : decode cX10_tell 22 = .ok (.aload_n 2, 1) := by decide +kernel
theorem dX10_tell_23 : decode cX10_tell 23 = .ok (.iload_n 3, 1) := by decide +kernel
theorem dX10_tell_24 : decode cX10_tell 24 = .ok (.iload 4, 2) := by decide +kernel
theorem dX10_tell_26 : decode cX10_tell 26 = .ok (.aload 5, 2) := by decide +kernel
theorem dX10_tell_28 : decode cX10_tell 28 = .ok (.invokespecial 414, 3) := by decide +kernel
theorem dX10_tell_31 : decode cX10_tell 31 = .ok (.astore 6, 2) := by decide +kernel
theorem dX10_tell_33 : decode cX10_tell 33 = .ok (.aload 6, 2) := by decide +kernel
theorem dX10_tell_35 : decode cX10_tell 35 = .ok (.aload_n 0, 1) := by decide +kernel
theorem dX10_tell_36 : decode cX10_tell 36 = .ok (.getfield 73, 3) := by decide +kernel
theorem dX10_tell_39 : decode cX10_tell 39 = .ok (.putfield 188, 3) := by decide +kernel
theorem dX10_tell_42 : decode cX10_tell 42 = .ok (.aload 6, 2) := by decide +kernel
theorem dX10_tell_44 : decode cX10_tell 44 = .ok (.aload_n 0, 1) := by decide +kernel
theorem dX10_tell_45 : decode cX10_tell 45 = .ok (.getfield 77, 3) := by decide +kernel
theorem dX10_tell_48 : decode cX10_tell 48 = .ok (.putfield 240, 3) := by decide +kernel
theorem dX10_tell_51 : decode cX10_tell 51 = .ok (.aload_n 0, 1) := by decide +kernel
theorem dX10_tell_52 : decode cX10_tell 52 = .ok (.getfield 21, 3) := by decide +kernel
theorem dX10_tell_55 : decode cX10_tell 55 = .ok (.aload 6, 2) := by decide +kernel
theorem dX10_tell_57 : decode cX10_tell 57 = .ok (.invokevirtual 100, 3) := by decide +kernel
theorem dX10_tell_60 : decode cX10_tell 60 = .ok (.pop, 1) := by decide +kernel
theorem dX10_tell_61 : decode cX10_tell 61 = .ok (.aload 6, 2) := by decide +kernel
theorem dX10_tell_63 : decode cX10_tell 63 = .ok (.areturn, 1) := by decide +kernel
theorem oX10_tell_0 : OKI 124 0 (.aload_n 0, 1, [0], 0, 0, []) := And.intro dX10_tell_0 (And.intro rfl (rfl))
theorem oX10_tell_1 : OKI 124 1 (.dup, 2, [], 0, 0, []) := And.intro dX10_tell_1 rfl
theorem oX10_tell_2 : OKI 124 2 (.getfield 77, 5, [11, 13, 0], 0, 0, []) := And.intro dX10_tell_2 (And.intro rfl (⟨(RX10, TX10, 15), "SpotTimers", rfl, by decide, tm_2 _ (List.mem_of_getElem? (i := 3) rfl) rfl, Or.inl rfl, Or.inr (Or.inr (And.intro rfl (Or.inl rfl)))⟩))
theorem oX10_tell_5 : OKI 124 5 (.iconst 1, 6, [], 1, 0, []) := And.intro dX10_tell_5 (And.intro rfl (by decide +kernel))
theorem oX10_tell_6 : OKI 124 6 (.iadd, 7, [], 0, 0, []) := And.intro dX10_tell_6 rfl
theorem oX10_tell_7 : OKI 124 7 (.putfield 77, 10, [11, 13, 0], 0, 0, []) := And.intro dX10_tell_7 (And.intro rfl (⟨(RX10, TX10, 15), "SpotTimers", rfl, by decide, tm_2 _ (List.mem_of_getElem? (i := 3) rfl) rfl, Or.inl rfl, Or.inl rfl, rfl⟩))
theorem oX10_tell_10 : OKI 124 10 (.new 143, 13, [5, 11], 0, 0, []) := And.intro dX10_tell_10 (And.intro rfl (⟨(RX4, TX4, 11), rfl, rfl, tm_2 _ (List.mem_of_getElem? (i := 222) rfl) rfl, tm_3 _ (List.mem_of_getElem? (i := 42) rfl) rfl, tm_1 _ (List.mem_of_getElem? (i := 19) rfl) rfl⟩))
theorem oX10_tell_13 : OKI 124 13 (.dup, 14, [], 0, 0, []) := And.intro dX10_tell_13 rfl
theorem oX10_tell_14 : OKI 124 14 (.aload_n 0, 15, [0], 0, 0, []) := And.intro dX10_tell_14 (And.intro rfl (rfl))
theorem oX10_tell_15 : OKI 124 15 (.getfield 21, 18, [11, 2, 2, 0, 3], 0, 0, []) := And.intro dX10_tell_15 (And.intro rfl (⟨(RX10, TX10, 15), "SpotTimers", rfl, by decide, tm_1 _ (List.mem_of_getElem? (i := 232) rfl) rfl, Or.inl rfl, rfl, rfl⟩))
theorem oX10_tell_18 : OKI 124 18 (.invokevirtual 91, 21, [271, 1, 1, 0, 0, 1], 0, 0, []) := And.intro dX10_tell_18 (And.intro rfl (And.intro (by decide) (And.intro (by decide) (And.intro mo_Jx4a65c_size_8abf5 (And.intro (tm_2 _ (List.mem_of_getElem? (i := 50) rfl) rfl) (And.intro (tm_2 _ (List.mem_of_getElem? (i := 51) rfl) rfl) (And.intro (tm_2 _ (List.mem_of_getElem? (i := 52) rfl) rfl) (Or.inl ⟨(RJx4a65c, TJx4a65c, 3), rfl, rfl⟩))))))))
theorem oX10_tell_21 : OKI 124 21 (.iload_n 1, 22, [1], 0, 0, []) := And.intro dX10_tell_21 (And.intro rfl (rfl))
theorem oX10_tell_22 : OKI 124 22 (.aload_n 2, 23, [2], 0, 0, []) := And.intro dX10_tell_22 (And.intro rfl (rfl))
theorem oX10_tell_23 : OKI 124 23 (.iload_n 3, 24, [3], 0, 0, []) := And.intro dX10_tell_23 (And.intro rfl (rfl))
theorem oX10_tell_24 : OKI 124 24 (.iload 4, 26, [4], 0, 0, []) := And.intro dX10_tell_24 (And.intro rfl (rfl))
theorem oX10_tell_26 : OKI 124 26 (.aload 5, 28, [5], 0, 0, []) := And.intro dX10_tell_26 (And.intro rfl (rfl))
theorem oX10_tell_28 : OKI 124 28 (.invokespecial 414, 31, [15, 7, 6, 0, 0, 0], 0, 0, []) := And.intro dX10_tell_28 (And.intro rfl (And.intro (by decide) (And.intro (by decide) (And.intro (by decide) (And.intro mo_X4_init (And.intro (Or.inl (tm_3 _ (List.mem_of_getElem? (i := 43) rfl) rfl)) (And.intro (tm_3 _ (List.mem_of_getElem? (i := 44) rfl) rfl) (And.intro rfl rfl))))))))
theorem oX10_tell_31 : OKI 124 31 (.astore 6, 33, [6], 0, 0, []) := And.intro dX10_tell_31 (And.intro rfl (And.intro rfl (by decide)))
theorem oX10_tell_33 : OKI 124 33 (.aload 6, 35, [6], 0, 0, []) := And.intro dX10_tell_33 (And.intro rfl (rfl))
theorem oX10_tell_35 : OKI 124 35 (.aload_n 0, 36, [0], 0, 0, []) := And.intro dX10_tell_35 (And.intro rfl (rfl))
theorem oX10_tell_36 : OKI 124 36 (.getfield 73, 39, [11, 12, 0], 0, 0, []) := And.intro dX10_tell_36 (And.intro rfl (⟨(RX10, TX10, 15), "SpotTimers", rfl, by decide, tm_2 _ (List.mem_of_getElem? (i := 2) rfl) rfl, Or.inl rfl, Or.inr (Or.inr (And.intro rfl (Or.inl rfl)))⟩))
theorem oX10_tell_39 : OKI 124 39 (.putfield 188, 42, [5, 8, 0], 0, 0, []) := And.intro dX10_tell_39 (And.intro rfl (⟨(RX4, TX4, 11), "SpotTimers$Reading", rfl, by decide, tm_3 _ (List.mem_of_getElem? (i := 73) rfl) rfl, Or.inl rfl, Or.inl rfl, rfl⟩))
theorem oX10_tell_42 : OKI 124 42 (.aload 6, 44, [6], 0, 0, []) := And.intro dX10_tell_42 (And.intro rfl (rfl))
theorem oX10_tell_44 : OKI 124 44 (.aload_n 0, 45, [0], 0, 0, []) := And.intro dX10_tell_44 (And.intro rfl (rfl))
theorem oX10_tell_45 : OKI 124 45 (.getfield 77, 48, [11, 13, 0], 0, 0, []) := And.intro dX10_tell_45 (And.intro rfl (⟨(RX10, TX10, 15), "SpotTimers", rfl, by decide, tm_2 _ (List.mem_of_getElem? (i := 3) rfl) rfl, Or.inl rfl, Or.inr (Or.inr (And.intro rfl (Or.inl rfl)))⟩))
theorem oX10_tell_48 : OKI 124 48 (.putfield 240, 51, [5, 9, 0], 0, 0, []) := And.intro dX10_tell_48 (And.intro rfl (⟨(RX4, TX4, 11), "SpotTimers$Reading", rfl, by decide, tm_3 _ (List.mem_of_getElem? (i := 75) rfl) rfl, Or.inl rfl, Or.inl rfl, rfl⟩))
theorem oX10_tell_51 : OKI 124 51 (.aload_n 0, 52, [0], 0, 0, []) := And.intro dX10_tell_51 (And.intro rfl (rfl))
theorem oX10_tell_52 : OKI 124 52 (.getfield 21, 55, [11, 2, 2, 0, 3], 0, 0, []) := And.intro dX10_tell_52 (And.intro rfl (⟨(RX10, TX10, 15), "SpotTimers", rfl, by decide, tm_1 _ (List.mem_of_getElem? (i := 232) rfl) rfl, Or.inl rfl, rfl, rfl⟩))
theorem oX10_tell_55 : OKI 124 55 (.aload 6, 57, [6], 0, 0, []) := And.intro dX10_tell_55 (And.intro rfl (rfl))
theorem oX10_tell_57 : OKI 124 57 (.invokevirtual 100, 60, [275, 2, 1, 1, 200, 1], 0, 0, []) := And.intro dX10_tell_57 (And.intro rfl (And.intro (by decide) (And.intro (by decide) (And.intro mo_Jx4a65c_add_9ea2d (And.intro (tm_2 _ (List.mem_of_getElem? (i := 88) rfl) rfl) (And.intro (tm_2 _ (List.mem_of_getElem? (i := 89) rfl) rfl) (And.intro (tm_2 _ (List.mem_of_getElem? (i := 90) rfl) rfl) (Or.inl ⟨(RJx4a65c, TJx4a65c, 3), rfl, rfl⟩))))))))
theorem oX10_tell_60 : OKI 124 60 (.pop, 61, [], 0, 0, []) := And.intro dX10_tell_60 rfl
theorem oX10_tell_61 : OKI 124 61 (.aload 6, 63, [6], 0, 0, []) := And.intro dX10_tell_61 (And.intro rfl (rfl))
theorem oX10_tell_63 : OKI 124 63 (.areturn, 64, [], 0, 0, []) := And.intro dX10_tell_63 ⟨_, rfl, Or.inl ⟨_, rfl⟩⟩
def pfX10_tell (pc : Nat) : Option XE := (bif Nat.blt pc 28 then (bif Nat.blt pc 14 then (bif Nat.blt pc 6 then (bif Nat.blt pc 2 then (bif Nat.blt pc 1 then (bif Nat.beq pc 0 then some (.aload_n 0, 1, [0], 0, 0, []) else none) else (bif Nat.beq pc 1 then some (.dup, 2, [], 0, 0, []) else none)) else (bif Nat.blt pc 5 then (bif Nat.beq pc 2 then some (.getfield 77, 5, [11, 13, 0], 0, 0, []) else none) else (bif Nat.beq pc 5 then some (.iconst 1, 6, [], 1, 0, []) else none))) else (bif Nat.blt pc 10 then (bif Nat.blt pc 7 then (bif Nat.beq pc 6 then some (.iadd, 7, [], 0, 0, []) else none) else (bif Nat.beq pc 7 then some (.putfield 77, 10, [11, 13, 0], 0, 0, []) else none)) else (bif Nat.blt pc 13 then (bif Nat.beq pc 10 then some (.new 143, 13, [5, 11], 0, 0, []) else none) else (bif Nat.beq pc 13 then some (.dup, 14, [], 0, 0, []) else none)))) else (bif Nat.blt pc 22 then (bif Nat.blt pc 18 then (bif Nat.blt pc 15 then (bif Nat.beq pc 14 then some (.aload_n 0, 15, [0], 0, 0, []) else none) else (bif Nat.beq pc 15 then some (.getfield 21, 18, [11, 2, 2, 0, 3], 0, 0, []) else none)) else (bif Nat.blt pc 21 then (bif Nat.beq pc 18 then some (.invokevirtual 91, 21, [271, 1, 1, 0, 0, 1], 0, 0, []) else none) else (bif Nat.beq pc 21 then some (.iload_n 1, 22, [1], 0, 0, []) else none))) else (bif Nat.blt pc 24 then (bif Nat.blt pc 23 then (bif Nat.beq pc 22 then some (.aload_n 2, 23, [2], 0, 0, []) else none) else (bif Nat.beq pc 23 then some (.iload_n 3, 24, [3], 0, 0, []) else none)) else (bif Nat.blt pc 26 then (bif Nat.beq pc 24 then some (.iload 4, 26, [4], 0, 0, []) else none) else (bif Nat.beq pc 26 then some (.aload 5, 28, [5], 0, 0, []) else none))))) else (bif Nat.blt pc 45 then (bif Nat.blt pc 36 then (bif Nat.blt pc 33 then (bif Nat.blt pc 31 then (bif Nat.beq pc 28 then some (.invokespecial 414, 31, [15, 7, 6, 0, 0, 0], 0, 0, []) else none) else (bif Nat.beq pc 31 then some (.astore 6, 33, [6], 0, 0, []) else none)) else (bif Nat.blt pc 35 then (bif Nat.beq pc 33 then some (.aload 6, 35, [6], 0, 0, []) else none) else (bif Nat.beq pc 35 then some (.aload_n 0, 36, [0], 0, 0, []) else none))) else (bif Nat.blt pc 42 then (bif Nat.blt pc 39 then (bif Nat.beq pc 36 then some (.getfield 73, 39, [11, 12, 0], 0, 0, []) else none) else (bif Nat.beq pc 39 then some (.putfield 188, 42, [5, 8, 0], 0, 0, []) else none)) else (bif Nat.blt pc 44 then (bif Nat.beq pc 42 then some (.aload 6, 44, [6], 0, 0, []) else none) else (bif Nat.beq pc 44 then some (.aload_n 0, 45, [0], 0, 0, []) else none)))) else (bif Nat.blt pc 55 then (bif Nat.blt pc 51 then (bif Nat.blt pc 48 then (bif Nat.beq pc 45 then some (.getfield 77, 48, [11, 13, 0], 0, 0, []) else none) else (bif Nat.beq pc 48 then some (.putfield 240, 51, [5, 9, 0], 0, 0, []) else none)) else (bif Nat.blt pc 52 then (bif Nat.beq pc 51 then some (.aload_n 0, 52, [0], 0, 0, []) else none) else (bif Nat.beq pc 52 then some (.getfield 21, 55, [11, 2, 2, 0, 3], 0, 0, []) else none))) else (bif Nat.blt pc 60 then (bif Nat.blt pc 57 then (bif Nat.beq pc 55 then some (.aload 6, 57, [6], 0, 0, []) else none) else (bif Nat.beq pc 57 then some (.invokevirtual 100, 60, [275, 2, 1, 1, 200, 1], 0, 0, []) else none)) else (bif Nat.blt pc 61 then (bif Nat.beq pc 60 then some (.pop, 61, [], 0, 0, []) else none) else (bif Nat.blt pc 63 then (bif Nat.beq pc 61 then some (.aload 6, 63, [6], 0, 0, []) else none) else (bif Nat.beq pc 63 then some (.areturn, 64, [], 0, 0, []) else none)))))))
theorem okX10_tell : ∀ pc Y, pfX10_tell pc = some Y → OKI m_X10_tell pc Y := fun pc Y => ((bt_node (bt_node (bt_node (bt_node (bt_node (bt_leaf (P := OKI m_X10_tell) oX10_tell_0) (bt_leaf (P := OKI m_X10_tell) oX10_tell_1)) (bt_node (bt_leaf (P := OKI m_X10_tell) oX10_tell_2) (bt_leaf (P := OKI m_X10_tell) oX10_tell_5))) (bt_node (bt_node (bt_leaf (P := OKI m_X10_tell) oX10_tell_6) (bt_leaf (P := OKI m_X10_tell) oX10_tell_7)) (bt_node (bt_leaf (P := OKI m_X10_tell) oX10_tell_10) (bt_leaf (P := OKI m_X10_tell) oX10_tell_13)))) (bt_node (bt_node (bt_node (bt_leaf (P := OKI m_X10_tell) oX10_tell_14) (bt_leaf (P := OKI m_X10_tell) oX10_tell_15)) (bt_node (bt_leaf (P := OKI m_X10_tell) oX10_tell_18) (bt_leaf (P := OKI m_X10_tell) oX10_tell_21))) (bt_node (bt_node (bt_leaf (P := OKI m_X10_tell) oX10_tell_22) (bt_leaf (P := OKI m_X10_tell) oX10_tell_23)) (bt_node (bt_leaf (P := OKI m_X10_tell) oX10_tell_24) (bt_leaf (P := OKI m_X10_tell) oX10_tell_26))))) (bt_node (bt_node (bt_node (bt_node (bt_leaf (P := OKI m_X10_tell) oX10_tell_28) (bt_leaf (P := OKI m_X10_tell) oX10_tell_31)) (bt_node (bt_leaf (P := OKI m_X10_tell) oX10_tell_33) (bt_leaf (P := OKI m_X10_tell) oX10_tell_35))) (bt_node (bt_node (bt_leaf (P := OKI m_X10_tell) oX10_tell_36) (bt_leaf (P := OKI m_X10_tell) oX10_tell_39)) (bt_node (bt_leaf (P := OKI m_X10_tell) oX10_tell_42) (bt_leaf (P := OKI m_X10_tell) oX10_tell_44)))) (bt_node (bt_node (bt_node (bt_leaf (P := OKI m_X10_tell) oX10_tell_45) (bt_leaf (P := OKI m_X10_tell) oX10_tell_48)) (bt_node (bt_leaf (P := OKI m_X10_tell) oX10_tell_51) (bt_leaf (P := OKI m_X10_tell) oX10_tell_52))) (bt_node (bt_node (bt_leaf (P := OKI m_X10_tell) oX10_tell_55) (bt_leaf (P := OKI m_X10_tell) oX10_tell_57)) (bt_node (bt_leaf (P := OKI m_X10_tell) oX10_tell_60) (bt_node (bt_leaf (P := OKI m_X10_tell) oX10_tell_61) (bt_leaf (P := OKI m_X10_tell) oX10_tell_63))))))) : pfX10_tell pc = some Y → OKI m_X10_tell pc Y)
def stpX10_tell (pc : Nat) : Option (List Bool) := (bif Nat.beq pc 51 then some [true, false, false, false, false, false, true] else none)
def bX10_tell_0 (d rc rs : Nat) (a1 : Int32) (a2 : Option XO) (a3 : Int32) (a4 : Int32) (a5 : Option XO) (σ : XH) (Q : XV → XH → Prop) : Prop :=
  (((∀ h1, h1 = wI σ 11 0 13 ((hi σ 11 0 13) + 1) → (1 ≤ rc ∧ 11 ≤ rs ∧ (∀ h2, h2 = nwO h1 5 → ((hr h2 11 0 2 = some (0, 2) ∧ ((1 ≤ d ∧ Ec (d - 1) 0 0 m_Jx4a65c_size_8abf5 [vR (some (0, 2))] h2 (kI fun x4 h3 => ((1 ≤ d ∧ Ec (d - 1) 0 0 m_X4_init [vR (some (5, hc h1 5)), vI x4, vI a1, vR a2, vI a3, vI a4, vR a5] h3 (kU fun h5 => (((∀ h6, h6 = wI h5 5 (hc h1 5) 8 (hi h5 11 0 12) → (((∀ h7, h7 = wI h6 5 (hc h1 5) 9 (hi h6 11 0 13) → Ex d (rc - 1) (rs - 11) m_X10_tell 51 [vR (some (11, 0)), vU, vU, vU, vU, vU, vR (some (5, hc h1 5))] [] h7 Q)))))))))))))))))))
theorem sX10_tell_0 {d rc rs : Nat} {a1 : Int32} {a2 : Option XO} {a3 : Int32} {a4 : Int32} {a5 : Option XO} {σ : XH} {Q : XV → XH → Prop} (h : bX10_tell_0 d rc rs a1 a2 a3 a4 a5 σ Q) : Ex d rc rs m_X10_tell 0 [vR (some (11, 0)), vI a1, vR a2, vI a3, vI a4, vR a5, vU] [] σ Q :=
  xtree_sound (stop := stpX10_tell) okX10_tell 28 _ _ _ _ _ _ h
def bX10_tell_51 (d rc rs : Nat) (l6 : Option XO) (σ : XH) (Q : XV → XH → Prop) : Prop :=
  ((hr σ 11 0 2 = some (0, 2) ∧ ((1 ≤ d ∧ 1 ≤ rc ∧ 200 ≤ rs ∧ Ec (d - 1) 1 200 m_Jx4a65c_add_9ea2d [vR (some (0, 2)), vR l6] σ (kI fun x2 h1 => Q (vR l6) h1)))))
theorem sX10_tell_51 {d rc rs : Nat} {l6 : Option XO} {σ : XH} {Q : XV → XH → Prop} (h : bX10_tell_51 d rc rs l6 σ Q) : Ex d rc rs m_X10_tell 51 [vR (some (11, 0)), vU, vU, vU, vU, vU, vR l6] [] σ Q :=
  xtree_sound (stop := stpX10_tell) okX10_tell 9 _ _ _ _ _ _ h
/-! SpotTimers.keepByStars(LSpotTimers$Clock;)V -/
theorem dX10_keepByStars_0 : decode cX10_keepByStars 0 = .ok (.aload_n 1, 1) := by decide +kernel
theorem dX10_keepByStars_1 : decode cX10_keepByStars 1 = .ok (.iconst 0, 1) := by decide +kernel
theorem dX10_keepByStars_2 : decode cX10_keepByStars 2 = .ok (.putfield 417, 3) := by decide +kernel
theorem dX10_keepByStars_5 : decode cX10_keepByStars 5 = .ok (.iconst 0, 1) := by decide +kernel
theorem dX10_keepByStars_6 : decode cX10_keepByStars 6 = .ok (.istore_n 2, 1) := by decide +kernel
theorem dX10_keepByStars_7 : decode cX10_keepByStars 7 = .ok (.iload_n 2, 1) := by decide +kernel
theorem dX10_keepByStars_8 : decode cX10_keepByStars 8 = .ok (.aload_n 0, 1) := by decide +kernel
theorem dX10_keepByStars_9 : decode cX10_keepByStars 9 = .ok (.getfield 21, 3) := by decide +kernel
theorem dX10_keepByStars_12 : decode cX10_keepByStars 12 = .ok (.invokevirtual 91, 3) := by decide +kernel
theorem dX10_keepByStars_15 : decode cX10_keepByStars 15 = .ok (.if_icmp .ge 66, 3) := by decide +kernel
theorem dX10_keepByStars_18 : decode cX10_keepByStars 18 = .ok (.aload_n 0, 1) := by decide +kernel
theorem dX10_keepByStars_19 : decode cX10_keepByStars 19 = .ok (.getfield 21, 3) := by decide +kernel
theorem dX10_keepByStars_22 : decode cX10_keepByStars 22 = .ok (.iload_n 2, 1) := by decide +kernel
theorem dX10_keepByStars_23 : decode cX10_keepByStars 23 = .ok (.invokevirtual 410, 3) := by decide +kernel
theorem dX10_keepByStars_26 : decode cX10_keepByStars 26 = .ok (.checkcast 143, 3) := by decide +kernel
theorem dX10_keepByStars_29 : decode cX10_keepByStars 29 = .ok (.astore_n 3, 1) := by decide +kernel
theorem dX10_keepByStars_30 : decode cX10_keepByStars 30 = .ok (.aload_n 3, 1) := by decide +kernel
theorem dX10_keepByStars_31 : decode cX10_keepByStars 31 = .ok (.invokevirtual 157, 3) := by decide +kernel
theorem dX10_keepByStars_34 : decode cX10_keepByStars 34 = .ok (.iconst 1, 1) := by decide +kernel
theorem dX10_keepByStars_35 : decode cX10_keepByStars 35 = .ok (.if_icmp .ne 40, 3) := by decide +kernel
theorem dX10_keepByStars_38 : decode cX10_keepByStars 38 = .ok (.aload_n 3, 1) := by decide +kernel
theorem dX10_keepByStars_39 : decode cX10_keepByStars 39 = .ok (.getfield 166, 3) := by decide +kernel
theorem dX10_keepByStars_42 : decode cX10_keepByStars 42 = .ok (.getfield 180, 3) := by decide +kernel
theorem dX10_keepByStars_45 : decode cX10_keepByStars 45 = .ok (.aload_n 1, 1) := by decide +kernel
theorem dX10_keepByStars_46 : decode cX10_keepByStars 46 = .ok (.getfield 180, 3) := by decide +kernel
theorem dX10_keepByStars_49 : decode cX10_keepByStars 49 = .ok (.if_icmp .ne 26, 3) := by decide +kernel
theorem dX10_keepByStars_52 : decode cX10_keepByStars 52 = .ok (.aload_n 1, 1) := by decide +kernel
theorem dX10_keepByStars_53 : decode cX10_keepByStars 53 = .ok (.aload_n 3, 1) := by decide +kernel
theorem dX10_keepByStars_54 : decode cX10_keepByStars 54 = .ok (.getfield 181, 3) := by decide +kernel
theorem dX10_keepByStars_57 : decode cX10_keepByStars 57 = .ok (.invokevirtual 420, 3) := by decide +kernel
theorem dX10_keepByStars_60 : decode cX10_keepByStars 60 = .ok (.ifCond .eq 15, 3) := by decide +kernel
theorem dX10_keepByStars_63 : decode cX10_keepByStars 63 = .ok (.aload_n 1, 1) := by decide +kernel
theorem dX10_keepByStars_64 : decode cX10_keepByStars 64 = .ok (.aload_n 3, 1) := by decide +kernel
theorem dX10_keepByStars_65 : decode cX10_keepByStars 65 = .ok (.getfield 181, 3) := by decide +kernel
theorem dX10_keepByStars_68 : decode cX10_keepByStars 68 = .ok (.aload_n 3, 1) := by decide +kernel
theorem dX10_keepByStars_69 : decode cX10_keepByStars 69 = .ok (.getfield 147, 3) := by decide +kernel
theorem dX10_keepByStars_72 : decode cX10_keepByStars 72 = .ok (.invokevirtual 423, 3) := by decide +kernel
theorem dX10_keepByStars_75 : decode cX10_keepByStars 75 = .ok (.iinc 2 1, 3) := by decide +kernel
theorem dX10_keepByStars_78 : decode cX10_keepByStars 78 = .ok (.goto (-71), 3) := by decide +kernel
theorem dX10_keepByStars_81 : decode cX10_keepByStars 81 = .ok (.aload_n 1, 1) := by decide +kernel
theorem dX10_keepByStars_82 : decode cX10_keepByStars 82 = .ok (.getfield 233, 3) := by decide +kernel
theorem dX10_keepByStars_85 : decode cX10_keepByStars 85 = .ok (.getfield 426, 3) := by decide +kernel
theorem dX10_keepByStars_88 : decode cX10_keepByStars 88 = .ok (.ifCond .ne 18, 3) := by decide +kernel
theorem dX10_keepByStars_91 : decode cX10_keepByStars 91 = .ok (.aload_n 1, 1) := by decide +kernel
theorem dX10_keepByStars_92 : decode cX10_keepByStars 92 = .ok (.getfield 233, 3) := by decide +kernel
theorem dX10_keepByStars_95 : decode cX10_keepByStars 95 = .ok (.aload_n 0, 1) := by decide +kernel
theorem dX10_keepByStars_96 : decode cX10_keepByStars 96 = .ok (.aload_n 1, 1) := by decide +kernel
theorem dX10_keepByStars_97 : decode cX10_keepByStars 97 = .ok (.getfield 233, 3) := by decide +kernel
theorem dX10_keepByStars_100 : decode cX10_keepByStars 100 = .ok (.invokevirtual 429, 3) := by decide +kernel
theorem dX10_keepByStars_103 : decode cX10_keepByStars 103 = .ok (.putfield 199, 3) := by decide +kernel
theorem dX10_keepByStars_106 : decode cX10_keepByStars 106 = .ok (.return_, 1) := by decide +kernel
theorem oX10_keepByStars_0 : OKI 125 0 (.aload_n 1, 1, [1], 0, 0, []) := And.intro dX10_keepByStars_0 (And.intro rfl (rfl))
theorem oX10_keepByStars_1 : OKI 125 1 (.iconst 0, 2, [], 0, 0, []) := And.intro dX10_keepByStars_1 (And.intro rfl (by decide +kernel))
theorem oX10_keepByStars_2 : OKI 125 2 (.putfield 417, 5, [2, 4, 0], 0, 0, []) := And.intro dX10_keepByStars_2 (And.intro rfl (⟨(RX1, TX1, 6), "SpotTimers$Clock", rfl, by decide, tm_2 _ (List.mem_of_getElem? (i := 186) rfl) rfl, Or.inl rfl, Or.inl rfl, rfl⟩))
theorem oX10_keepByStars_5 : OKI 125 5 (.iconst 0, 6, [], 0, 0, []) := And.intro dX10_keepByStars_5 (And.intro rfl (by decide +kernel))
theorem oX10_keepByStars_6 : OKI 125 6 (.istore_n 2, 7, [2], 0, 0, []) := And.intro dX10_keepByStars_6 (And.intro rfl (And.intro rfl (by decide)))
theorem oX10_keepByStars_7 : OKI 125 7 (.iload_n 2, 8, [2], 0, 0, []) := And.intro dX10_keepByStars_7 (And.intro rfl (rfl))
theorem oX10_keepByStars_8 : OKI 125 8 (.aload_n 0, 9, [0], 0, 0, []) := And.intro dX10_keepByStars_8 (And.intro rfl (rfl))
theorem oX10_keepByStars_9 : OKI 125 9 (.getfield 21, 12, [11, 2, 2, 0, 3], 0, 0, []) := And.intro dX10_keepByStars_9 (And.intro rfl (⟨(RX10, TX10, 15), "SpotTimers", rfl, by decide, tm_1 _ (List.mem_of_getElem? (i := 232) rfl) rfl, Or.inl rfl, rfl, rfl⟩))
theorem oX10_keepByStars_12 : OKI 125 12 (.invokevirtual 91, 15, [271, 1, 1, 0, 0, 1], 0, 0, []) := And.intro dX10_keepByStars_12 (And.intro rfl (And.intro (by decide) (And.intro (by decide) (And.intro mo_Jx4a65c_size_8abf5 (And.intro (tm_2 _ (List.mem_of_getElem? (i := 50) rfl) rfl) (And.intro (tm_2 _ (List.mem_of_getElem? (i := 51) rfl) rfl) (And.intro (tm_2 _ (List.mem_of_getElem? (i := 52) rfl) rfl) (Or.inl ⟨(RJx4a65c, TJx4a65c, 3), rfl, rfl⟩))))))))
theorem oX10_keepByStars_15 : OKI 125 15 (.if_icmp .ge 66, 18, [81], 0, 0, []) := And.intro dX10_keepByStars_15 (And.intro rfl (by decide))
theorem oX10_keepByStars_18 : OKI 125 18 (.aload_n 0, 19, [0], 0, 0, []) := And.intro dX10_keepByStars_18 (And.intro rfl (rfl))
theorem oX10_keepByStars_19 : OKI 125 19 (.getfield 21, 22, [11, 2, 2, 0, 3], 0, 0, []) := And.intro dX10_keepByStars_19 (And.intro rfl (⟨(RX10, TX10, 15), "SpotTimers", rfl, by decide, tm_1 _ (List.mem_of_getElem? (i := 232) rfl) rfl, Or.inl rfl, rfl, rfl⟩))
theorem oX10_keepByStars_22 : OKI 125 22 (.iload_n 2, 23, [2], 0, 0, []) := And.intro dX10_keepByStars_22 (And.intro rfl (rfl))
theorem oX10_keepByStars_23 : OKI 125 23 (.invokevirtual 410, 26, [273, 2, 1, 0, 0, 3], 0, 0, []) := And.intro dX10_keepByStars_23 (And.intro rfl (And.intro (by decide) (And.intro (by decide) (And.intro mo_Jx4a65c_get_915e3 (And.intro (tm_2 _ (List.mem_of_getElem? (i := 154) rfl) rfl) (And.intro (tm_2 _ (List.mem_of_getElem? (i := 155) rfl) rfl) (And.intro (tm_2 _ (List.mem_of_getElem? (i := 156) rfl) rfl) (Or.inl ⟨(RJx4a65c, TJx4a65c, 3), rfl, rfl⟩))))))))
theorem oX10_keepByStars_26 : OKI 125 26 (.checkcast 143, 29, [5], 0, 0, []) := And.intro dX10_keepByStars_26 (And.intro rfl (⟨(RX4, TX4, 11), rfl, tm_2 _ (List.mem_of_getElem? (i := 222) rfl) rfl⟩))
theorem oX10_keepByStars_29 : OKI 125 29 (.astore_n 3, 30, [3], 0, 0, []) := And.intro dX10_keepByStars_29 (And.intro rfl (And.intro rfl (by decide)))
theorem oX10_keepByStars_30 : OKI 125 30 (.aload_n 3, 31, [3], 0, 0, []) := And.intro dX10_keepByStars_30 (And.intro rfl (rfl))
theorem oX10_keepByStars_31 : OKI 125 31 (.invokevirtual 157, 34, [17, 1, 6, 0, 0, 1], 0, 0, []) := And.intro dX10_keepByStars_31 (And.intro rfl (And.intro (by decide) (And.intro (by decide) (And.intro mo_X4_kindNow (And.intro (tm_2 _ (List.mem_of_getElem? (i := 223) rfl) rfl) (And.intro (tm_2 _ (List.mem_of_getElem? (i := 224) rfl) rfl) (And.intro (tm_2 _ (List.mem_of_getElem? (i := 225) rfl) rfl) (Or.inl ⟨(RX4, TX4, 11), rfl, rfl⟩))))))))
theorem oX10_keepByStars_34 : OKI 125 34 (.iconst 1, 35, [], 1, 0, []) := And.intro dX10_keepByStars_34 (And.intro rfl (by decide +kernel))
theorem oX10_keepByStars_35 : OKI 125 35 (.if_icmp .ne 40, 38, [75], 0, 0, []) := And.intro dX10_keepByStars_35 (And.intro rfl (by decide))
theorem oX10_keepByStars_38 : OKI 125 38 (.aload_n 3, 39, [3], 0, 0, []) := And.intro dX10_keepByStars_38 (And.intro rfl (rfl))
theorem oX10_keepByStars_39 : OKI 125 39 (.getfield 166, 42, [5, 2, 2], 0, 0, []) := And.intro dX10_keepByStars_39 (And.intro rfl (⟨(RX4, TX4, 11), "SpotTimers$Reading", rfl, by decide, tm_3 _ (List.mem_of_getElem? (i := 57) rfl) rfl, Or.inl rfl, Or.inr (Or.inl (And.intro rfl rfl))⟩))
theorem oX10_keepByStars_42 : OKI 125 42 (.getfield 180, 45, [2, 0, 0], 0, 0, []) := And.intro dX10_keepByStars_42 (And.intro rfl (⟨(RX1, TX1, 6), "SpotTimers$Clock", rfl, by decide, tm_2 _ (List.mem_of_getElem? (i := 177) rfl) rfl, Or.inl rfl, Or.inr (Or.inr (And.intro rfl (Or.inl rfl)))⟩))
theorem oX10_keepByStars_45 : OKI 125 45 (.aload_n 1, 46, [1], 0, 0, []) := And.intro dX10_keepByStars_45 (And.intro rfl (rfl))
theorem oX10_keepByStars_46 : OKI 125 46 (.getfield 180, 49, [2, 0, 0], 0, 0, []) := And.intro dX10_keepByStars_46 (And.intro rfl (⟨(RX1, TX1, 6), "SpotTimers$Clock", rfl, by decide, tm_2 _ (List.mem_of_getElem? (i := 177) rfl) rfl, Or.inl rfl, Or.inr (Or.inr (And.intro rfl (Or.inl rfl)))⟩))
theorem oX10_keepByStars_49 : OKI 125 49 (.if_icmp .ne 26, 52, [75], 0, 0, []) := And.intro dX10_keepByStars_49 (And.intro rfl (by decide))
theorem oX10_keepByStars_52 : OKI 125 52 (.aload_n 1, 53, [1], 0, 0, []) := And.intro dX10_keepByStars_52 (And.intro rfl (rfl))
theorem oX10_keepByStars_53 : OKI 125 53 (.aload_n 3, 54, [3], 0, 0, []) := And.intro dX10_keepByStars_53 (And.intro rfl (rfl))
theorem oX10_keepByStars_54 : OKI 125 54 (.getfield 181, 57, [5, 4, 0], 0, 0, []) := And.intro dX10_keepByStars_54 (And.intro rfl (⟨(RX4, TX4, 11), "SpotTimers$Reading", rfl, by decide, tm_3 _ (List.mem_of_getElem? (i := 63) rfl) rfl, Or.inl rfl, Or.inr (Or.inr (And.intro rfl (Or.inl rfl)))⟩))
theorem oX10_keepByStars_57 : OKI 125 57 (.invokevirtual 420, 60, [8, 2, 3, 0, 0, 1], 0, 0, []) := And.intro dX10_keepByStars_57 (And.intro rfl (And.intro (by decide) (And.intro (by decide) (And.intro mo_X1_isGoingAt (And.intro (tm_2 _ (List.mem_of_getElem? (i := 231) rfl) rfl) (And.intro (tm_2 _ (List.mem_of_getElem? (i := 232) rfl) rfl) (And.intro (tm_2 _ (List.mem_of_getElem? (i := 233) rfl) rfl) (Or.inl ⟨(RX1, TX1, 6), rfl, rfl⟩))))))))
theorem oX10_keepByStars_60 : OKI 125 60 (.ifCond .eq 15, 63, [75], 0, 0, []) := And.intro dX10_keepByStars_60 (And.intro rfl (by decide))
theorem oX10_keepByStars_63 : OKI 125 63 (.aload_n 1, 64, [1], 0, 0, []) := And.intro dX10_keepByStars_63 (And.intro rfl (rfl))
theorem oX10_keepByStars_64 : OKI 125 64 (.aload_n 3, 65, [3], 0, 0, []) := And.intro dX10_keepByStars_64 (And.intro rfl (rfl))
theorem oX10_keepByStars_65 : OKI 125 65 (.getfield 181, 68, [5, 4, 0], 0, 0, []) := And.intro dX10_keepByStars_65 (And.intro rfl (⟨(RX4, TX4, 11), "SpotTimers$Reading", rfl, by decide, tm_3 _ (List.mem_of_getElem? (i := 63) rfl) rfl, Or.inl rfl, Or.inr (Or.inr (And.intro rfl (Or.inl rfl)))⟩))
theorem oX10_keepByStars_68 : OKI 125 68 (.aload_n 3, 69, [3], 0, 0, []) := And.intro dX10_keepByStars_68 (And.intro rfl (rfl))
theorem oX10_keepByStars_69 : OKI 125 69 (.getfield 147, 72, [5, 6, 0], 0, 0, []) := And.intro dX10_keepByStars_69 (And.intro rfl (⟨(RX4, TX4, 11), "SpotTimers$Reading", rfl, by decide, tm_3 _ (List.mem_of_getElem? (i := 67) rfl) rfl, Or.inl rfl, Or.inr (Or.inr (And.intro rfl (Or.inl rfl)))⟩))
theorem oX10_keepByStars_72 : OKI 125 72 (.invokevirtual 423, 75, [9, 3, 3, 0, 0, 0], 0, 0, []) := And.intro dX10_keepByStars_72 (And.intro rfl (And.intro (by decide) (And.intro (by decide) (And.intro mo_X1_addStar (And.intro (tm_2 _ (List.mem_of_getElem? (i := 236) rfl) rfl) (And.intro (tm_2 _ (List.mem_of_getElem? (i := 237) rfl) rfl) (And.intro (tm_2 _ (List.mem_of_getElem? (i := 238) rfl) rfl) (Or.inl ⟨(RX1, TX1, 6), rfl, rfl⟩))))))))
theorem oX10_keepByStars_75 : OKI 125 75 (.iinc 2 1, 78, [2], 1, 0, []) := And.intro dX10_keepByStars_75 (And.intro rfl (And.intro rfl (And.intro (by decide +kernel) (by decide))))
theorem oX10_keepByStars_78 : OKI 125 78 (.goto (-71), 81, [7], 0, 0, []) := And.intro dX10_keepByStars_78 (And.intro rfl (by decide))
theorem oX10_keepByStars_81 : OKI 125 81 (.aload_n 1, 82, [1], 0, 0, []) := And.intro dX10_keepByStars_81 (And.intro rfl (rfl))
theorem oX10_keepByStars_82 : OKI 125 82 (.getfield 233, 85, [2, 1, 2], 0, 0, []) := And.intro dX10_keepByStars_82 (And.intro rfl (⟨(RX1, TX1, 6), "SpotTimers$Clock", rfl, by decide, tm_2 _ (List.mem_of_getElem? (i := 182) rfl) rfl, Or.inl rfl, Or.inr (Or.inl (And.intro rfl rfl))⟩))
theorem oX10_keepByStars_85 : OKI 125 85 (.getfield 426, 88, [8, 1, 0], 0, 0, []) := And.intro dX10_keepByStars_85 (And.intro rfl (⟨(RX7, TX7, 5), "SpotTimers$Station", rfl, by decide, tm_2 _ (List.mem_of_getElem? (i := 69) rfl) rfl, Or.inl rfl, Or.inr (Or.inr (And.intro rfl (Or.inr rfl)))⟩))
theorem oX10_keepByStars_88 : OKI 125 88 (.ifCond .ne 18, 91, [106], 0, 0, []) := And.intro dX10_keepByStars_88 (And.intro rfl (by decide))
theorem oX10_keepByStars_91 : OKI 125 91 (.aload_n 1, 92, [1], 0, 0, []) := And.intro dX10_keepByStars_91 (And.intro rfl (rfl))
theorem oX10_keepByStars_92 : OKI 125 92 (.getfield 233, 95, [2, 1, 2], 0, 0, []) := And.intro dX10_keepByStars_92 (And.intro rfl (⟨(RX1, TX1, 6), "SpotTimers$Clock", rfl, by decide, tm_2 _ (List.mem_of_getElem? (i := 182) rfl) rfl, Or.inl rfl, Or.inr (Or.inl (And.intro rfl rfl))⟩))
theorem oX10_keepByStars_95 : OKI 125 95 (.aload_n 0, 96, [0], 0, 0, []) := And.intro dX10_keepByStars_95 (And.intro rfl (rfl))
theorem oX10_keepByStars_96 : OKI 125 96 (.aload_n 1, 97, [1], 0, 0, []) := And.intro dX10_keepByStars_96 (And.intro rfl (rfl))
theorem oX10_keepByStars_97 : OKI 125 97 (.getfield 233, 100, [2, 1, 2], 0, 0, []) := And.intro dX10_keepByStars_97 (And.intro rfl (⟨(RX1, TX1, 6), "SpotTimers$Clock", rfl, by decide, tm_2 _ (List.mem_of_getElem? (i := 182) rfl) rfl, Or.inl rfl, Or.inr (Or.inl (And.intro rfl rfl))⟩))
theorem oX10_keepByStars_100 : OKI 125 100 (.invokevirtual 429, 103, [126, 2, 12, 0, 0, 1], 0, 0, []) := And.intro dX10_keepByStars_100 (And.intro rfl (And.intro (by decide) (And.intro (by decide) (And.intro mo_X10_longitudeByMoons (And.intro (tm_3 _ (List.mem_of_getElem? (i := 4) rfl) rfl) (And.intro (tm_3 _ (List.mem_of_getElem? (i := 6) rfl) rfl) (And.intro (pm_1 _ (List.mem_of_getElem? (i := 7) rfl)) (Or.inl ⟨(RX10, TX10, 15), rfl, rfl⟩))))))))
theorem oX10_keepByStars_103 : OKI 125 103 (.putfield 199, 106, [8, 4, 0], 0, 0, []) := And.intro dX10_keepByStars_103 (And.intro rfl (⟨(RX7, TX7, 5), "SpotTimers$Station", rfl, by decide, tm_2 _ (List.mem_of_getElem? (i := 76) rfl) rfl, Or.inl rfl, Or.inl rfl, rfl⟩))
theorem oX10_keepByStars_106 : OKI 125 106 (.return_, 107, [], 0, 0, []) := And.intro dX10_keepByStars_106 rfl
def pfX10_keepByStars (pc : Nat) : Option XE := (bif Nat.blt pc 49 then (bif Nat.blt pc 22 then (bif Nat.blt pc 8 then (bif Nat.blt pc 5 then (bif Nat.blt pc 1 then (bif Nat.beq pc 0 then some (.aload_n 1, 1, [1], 0, 0, []) else none) else (bif Nat.blt pc 2 then (bif Nat.beq pc 1 then some (.iconst 0, 2, [], 0, 0, []) else none) else (bif Nat.beq pc 2 then some (.putfield 417, 5, [2, 4, 0], 0, 0, []) else none))) else (bif Nat.blt pc 6 then (bif Nat.beq pc 5 then some (.iconst 0, 6, [], 0, 0, []) else none) else (bif Nat.blt pc 7 then (bif Nat.beq pc 6 then some (.istore_n 2, 7, [2], 0, 0, []) else none) else (bif Nat.beq pc 7 then some (.iload_n 2, 8, [2], 0, 0, []) else none)))) else (bif Nat.blt pc 15 then (bif Nat.blt pc 9 then (bif Nat.beq pc 8 then some (.aload_n 0, 9, [0], 0, 0, []) else none) else (bif Nat.blt pc 12 then (bif Nat.beq pc 9 then some (.getfield 21, 12, [11, 2, 2, 0, 3], 0, 0, []) else none) else (bif Nat.beq pc 12 then some (.invokevirtual 91, 15, [271, 1, 1, 0, 0, 1], 0, 0, []) else none))) else (bif Nat.blt pc 18 then (bif Nat.beq pc 15 then some (.if_icmp .ge 66, 18, [81], 0, 0, []) else none) else (bif Nat.blt pc 19 then (bif Nat.beq pc 18 then some (.aload_n 0, 19, [0], 0, 0, []) else none) else (bif Nat.beq pc 19 then some (.getfield 21, 22, [11, 2, 2, 0, 3], 0, 0, []) else none))))) else (bif Nat.blt pc 34 then (bif Nat.blt pc 29 then (bif Nat.blt pc 23 then (bif Nat.beq pc 22 then some (.iload_n 2, 23, [2], 0, 0, []) else none) else (bif Nat.blt pc 26 then (bif Nat.beq pc 23 then some (.invokevirtual 410, 26, [273, 2, 1, 0, 0, 3], 0, 0, []) else none) else (bif Nat.beq pc 26 then some (.checkcast 143, 29, [5], 0, 0, []) else none))) else (bif Nat.blt pc 30 then (bif Nat.beq pc 29 then some (.astore_n 3, 30, [3], 0, 0, []) else none) else (bif Nat.blt pc 31 then (bif Nat.beq pc 30 then some (.aload_n 3, 31, [3], 0, 0, []) else none) else (bif Nat.beq pc 31 then some (.invokevirtual 157, 34, [17, 1, 6, 0, 0, 1], 0, 0, []) else none)))) else (bif Nat.blt pc 39 then (bif Nat.blt pc 35 then (bif Nat.beq pc 34 then some (.iconst 1, 35, [], 1, 0, []) else none) else (bif Nat.blt pc 38 then (bif Nat.beq pc 35 then some (.if_icmp .ne 40, 38, [75], 0, 0, []) else none) else (bif Nat.beq pc 38 then some (.aload_n 3, 39, [3], 0, 0, []) else none))) else (bif Nat.blt pc 45 then (bif Nat.blt pc 42 then (bif Nat.beq pc 39 then some (.getfield 166, 42, [5, 2, 2], 0, 0, []) else none) else (bif Nat.beq pc 42 then some (.getfield 180, 45, [2, 0, 0], 0, 0, []) else none)) else (bif Nat.blt pc 46 then (bif Nat.beq pc 45 then some (.aload_n 1, 46, [1], 0, 0, []) else none) else (bif Nat.beq pc 46 then some (.getfield 180, 49, [2, 0, 0], 0, 0, []) else none)))))) else (bif Nat.blt pc 78 then (bif Nat.blt pc 63 then (bif Nat.blt pc 54 then (bif Nat.blt pc 52 then (bif Nat.beq pc 49 then some (.if_icmp .ne 26, 52, [75], 0, 0, []) else none) else (bif Nat.blt pc 53 then (bif Nat.beq pc 52 then some (.aload_n 1, 53, [1], 0, 0, []) else none) else (bif Nat.beq pc 53 then some (.aload_n 3, 54, [3], 0, 0, []) else none))) else (bif Nat.blt pc 57 then (bif Nat.beq pc 54 then some (.getfield 181, 57, [5, 4, 0], 0, 0, []) else none) else (bif Nat.blt pc 60 then (bif Nat.beq pc 57 then some (.invokevirtual 420, 60, [8, 2, 3, 0, 0, 1], 0, 0, []) else none) else (bif Nat.beq pc 60 then some (.ifCond .eq 15, 63, [75], 0, 0, []) else none)))) else (bif Nat.blt pc 68 then (bif Nat.blt pc 64 then (bif Nat.beq pc 63 then some (.aload_n 1, 64, [1], 0, 0, []) else none) else (bif Nat.blt pc 65 then (bif Nat.beq pc 64 then some (.aload_n 3, 65, [3], 0, 0, []) else none) else (bif Nat.beq pc 65 then some (.getfield 181, 68, [5, 4, 0], 0, 0, []) else none))) else (bif Nat.blt pc 72 then (bif Nat.blt pc 69 then (bif Nat.beq pc 68 then some (.aload_n 3, 69, [3], 0, 0, []) else none) else (bif Nat.beq pc 69 then some (.getfield 147, 72, [5, 6, 0], 0, 0, []) else none)) else (bif Nat.blt pc 75 then (bif Nat.beq pc 72 then some (.invokevirtual 423, 75, [9, 3, 3, 0, 0, 0], 0, 0, []) else none) else (bif Nat.beq pc 75 then some (.iinc 2 1, 78, [2], 1, 0, []) else none))))) else (bif Nat.blt pc 92 then (bif Nat.blt pc 85 then (bif Nat.blt pc 81 then (bif Nat.beq pc 78 then some (.goto (-71), 81, [7], 0, 0, []) else none) else (bif Nat.blt pc 82 then (bif Nat.beq pc 81 then some (.aload_n 1, 82, [1], 0, 0, []) else none) else (bif Nat.beq pc 82 then some (.getfield 233, 85, [2, 1, 2], 0, 0, []) else none))) else (bif Nat.blt pc 88 then (bif Nat.beq pc 85 then some (.getfield 426, 88, [8, 1, 0], 0, 0, []) else none) else (bif Nat.blt pc 91 then (bif Nat.beq pc 88 then some (.ifCond .ne 18, 91, [106], 0, 0, []) else none) else (bif Nat.beq pc 91 then some (.aload_n 1, 92, [1], 0, 0, []) else none)))) else (bif Nat.blt pc 97 then (bif Nat.blt pc 95 then (bif Nat.beq pc 92 then some (.getfield 233, 95, [2, 1, 2], 0, 0, []) else none) else (bif Nat.blt pc 96 then (bif Nat.beq pc 95 then some (.aload_n 0, 96, [0], 0, 0, []) else none) else (bif Nat.beq pc 96 then some (.aload_n 1, 97, [1], 0, 0, []) else none))) else (bif Nat.blt pc 103 then (bif Nat.blt pc 100 then (bif Nat.beq pc 97 then some (.getfield 233, 100, [2, 1, 2], 0, 0, []) else none) else (bif Nat.beq pc 100 then some (.invokevirtual 429, 103, [126, 2, 12, 0, 0, 1], 0, 0, []) else none)) else (bif Nat.blt pc 106 then (bif Nat.beq pc 103 then some (.putfield 199, 106, [8, 4, 0], 0, 0, []) else none) else (bif Nat.beq pc 106 then some (.return_, 107, [], 0, 0, []) else none)))))))
theorem okX10_keepByStars : ∀ pc Y, pfX10_keepByStars pc = some Y → OKI m_X10_keepByStars pc Y := fun pc Y => ((bt_node (bt_node (bt_node (bt_node (bt_node (bt_leaf (P := OKI m_X10_keepByStars) oX10_keepByStars_0) (bt_node (bt_leaf (P := OKI m_X10_keepByStars) oX10_keepByStars_1) (bt_leaf (P := OKI m_X10_keepByStars) oX10_keepByStars_2))) (bt_node (bt_leaf (P := OKI m_X10_keepByStars) oX10_keepByStars_5) (bt_node (bt_leaf (P := OKI m_X10_keepByStars) oX10_keepByStars_6) (bt_leaf (P := OKI m_X10_keepByStars) oX10_keepByStars_7)))) (bt_node (bt_node (bt_leaf (P := OKI m_X10_keepByStars) oX10_keepByStars_8) (bt_node (bt_leaf (P := OKI m_X10_keepByStars) oX10_keepByStars_9) (bt_leaf (P := OKI m_X10_keepByStars) oX10_keepByStars_12))) (bt_node (bt_leaf (P := OKI m_X10_keepByStars) oX10_keepByStars_15) (bt_node (bt_leaf (P := OKI m_X10_keepByStars) oX10_keepByStars_18) (bt_leaf (P := OKI m_X10_keepByStars) oX10_keepByStars_19))))) (bt_node (bt_node (bt_node (bt_leaf (P := OKI m_X10_keepByStars) oX10_keepByStars_22) (bt_node (bt_leaf (P := OKI m_X10_keepByStars) oX10_keepByStars_23) (bt_leaf (P := OKI m_X10_keepByStars) oX10_keepByStars_26))) (bt_node (bt_leaf (P := OKI m_X10_keepByStars) oX10_keepByStars_29) (bt_node (bt_leaf (P := OKI m_X10_keepByStars) oX10_keepByStars_30) (bt_leaf (P := OKI m_X10_keepByStars) oX10_keepByStars_31)))) (bt_node (bt_node (bt_leaf (P := OKI m_X10_keepByStars) oX10_keepByStars_34) (bt_node (bt_leaf (P := OKI m_X10_keepByStars) oX10_keepByStars_35) (bt_leaf (P := OKI m_X10_keepByStars) oX10_keepByStars_38))) (bt_node (bt_node (bt_leaf (P := OKI m_X10_keepByStars) oX10_keepByStars_39) (bt_leaf (P := OKI m_X10_keepByStars) oX10_keepByStars_42)) (bt_node (bt_leaf (P := OKI m_X10_keepByStars) oX10_keepByStars_45) (bt_leaf (P := OKI m_X10_keepByStars) oX10_keepByStars_46)))))) (bt_node (bt_node (bt_node (bt_node (bt_leaf (P := OKI m_X10_keepByStars) oX10_keepByStars_49) (bt_node (bt_leaf (P := OKI m_X10_keepByStars) oX10_keepByStars_52) (bt_leaf (P := OKI m_X10_keepByStars) oX10_keepByStars_53))) (bt_node (bt_leaf (P := OKI m_X10_keepByStars) oX10_keepByStars_54) (bt_node (bt_leaf (P := OKI m_X10_keepByStars) oX10_keepByStars_57) (bt_leaf (P := OKI m_X10_keepByStars) oX10_keepByStars_60)))) (bt_node (bt_node (bt_leaf (P := OKI m_X10_keepByStars) oX10_keepByStars_63) (bt_node (bt_leaf (P := OKI m_X10_keepByStars) oX10_keepByStars_64) (bt_leaf (P := OKI m_X10_keepByStars) oX10_keepByStars_65))) (bt_node (bt_node (bt_leaf (P := OKI m_X10_keepByStars) oX10_keepByStars_68) (bt_leaf (P := OKI m_X10_keepByStars) oX10_keepByStars_69)) (bt_node (bt_leaf (P := OKI m_X10_keepByStars) oX10_keepByStars_72) (bt_leaf (P := OKI m_X10_keepByStars) oX10_keepByStars_75))))) (bt_node (bt_node (bt_node (bt_leaf (P := OKI m_X10_keepByStars) oX10_keepByStars_78) (bt_node (bt_leaf (P := OKI m_X10_keepByStars) oX10_keepByStars_81) (bt_leaf (P := OKI m_X10_keepByStars) oX10_keepByStars_82))) (bt_node (bt_leaf (P := OKI m_X10_keepByStars) oX10_keepByStars_85) (bt_node (bt_leaf (P := OKI m_X10_keepByStars) oX10_keepByStars_88) (bt_leaf (P := OKI m_X10_keepByStars) oX10_keepByStars_91)))) (bt_node (bt_node (bt_leaf (P := OKI m_X10_keepByStars) oX10_keepByStars_92) (bt_node (bt_leaf (P := OKI m_X10_keepByStars) oX10_keepByStars_95) (bt_leaf (P := OKI m_X10_keepByStars) oX10_keepByStars_96))) (bt_node (bt_node (bt_leaf (P := OKI m_X10_keepByStars) oX10_keepByStars_97) (bt_leaf (P := OKI m_X10_keepByStars) oX10_keepByStars_100)) (bt_node (bt_leaf (P := OKI m_X10_keepByStars) oX10_keepByStars_103) (bt_leaf (P := OKI m_X10_keepByStars) oX10_keepByStars_106))))))) : pfX10_keepByStars pc = some Y → OKI m_X10_keepByStars pc Y)
def stpX10_keepByStars (pc : Nat) : Option (List Bool) := (bif Nat.blt pc 75 then (bif Nat.blt pc 63 then (bif Nat.beq pc 7 then some [true, true, true, false] else none) else (bif Nat.beq pc 63 then some [true, true, true, true] else none)) else (bif Nat.blt pc 106 then (bif Nat.beq pc 75 then some [true, true, true, false] else none) else (bif Nat.beq pc 106 then some [false, false, false, false] else none)))
def bX10_keepByStars_0 (d rc rs : Nat) (a1 : Option XO) (σ : XH) (Q : XV → XH → Prop) : Prop :=
  (drf a1 2 fun i1 => (∀ h2, h2 = wI σ 2 i1 4 0 → Ex d rc rs m_X10_keepByStars 7 [vR (some (11, 0)), vR a1, vI 0, vU] [] h2 Q))
theorem sX10_keepByStars_0 {d rc rs : Nat} {a1 : Option XO} {σ : XH} {Q : XV → XH → Prop} (h : bX10_keepByStars_0 d rc rs a1 σ Q) : Ex d rc rs m_X10_keepByStars 0 [vR (some (11, 0)), vR a1, vU, vU] [] σ Q :=
  xtree_sound (stop := stpX10_keepByStars) okX10_keepByStars 7 _ _ _ _ _ _ h
def bX10_keepByStars_7 (d rc rs : Nat) (l1 : Option XO) (l2 : Int32) (σ : XH) (Q : XV → XH → Prop) : Prop :=
  ((hr σ 11 0 2 = some (0, 2) ∧ ((1 ≤ d ∧ Ec (d - 1) 0 0 m_Jx4a65c_size_8abf5 [vR (some (0, 2))] σ (kI fun x2 h1 => ((l2 < x2 → ((hr h1 11 0 2 = some (0, 2) ∧ ((1 ≤ d ∧ Ec (d - 1) 0 0 m_Jx4a65c_get_915e3 [vR (some (0, 2)), vI l2] h1 (kR fun x12 h11 => (cst x12 5 fun o13 => (drf o13 5 fun i23 => (1 ≤ d ∧ Ec (d - 1) 0 0 m_X4_kindNow [vR (some (5, i23))] h11 (kI fun x15 h14 => ((x15 = 1 → (drf o13 5 fun i16 => (drf (hr h14 5 i16 2) 2 fun i17 => (drf l1 2 fun i18 => (((hi h14 2 i17 0) = (hi h14 2 i18 0) → (drf o13 5 fun i19 => (drf l1 2 fun i22 => (1 ≤ d ∧ Ec (d - 1) 0 0 m_X1_isGoingAt [vR (some (2, i22)), vI (hi h14 5 i19 4)] h14 (kI fun x21 h20 => ((x21 = 0 → Ex d rc rs m_X10_keepByStars 75 [vR (some (11, 0)), vR l1, vI l2, vU] [] h20 Q) ∧ (¬ x21 = 0 → Ex d rc rs m_X10_keepByStars 63 [vR (some (11, 0)), vR l1, vI l2, vR o13] [] h20 Q))))))) ∧ (¬ (hi h14 2 i17 0) = (hi h14 2 i18 0) → Ex d rc rs m_X10_keepByStars 75 [vR (some (11, 0)), vR l1, vI l2, vU] [] h14 Q)))))) ∧ (¬ x15 = 1 → Ex d rc rs m_X10_keepByStars 75 [vR (some (11, 0)), vR l1, vI l2, vU] [] h14 Q)))))))))))) ∧ (¬ l2 < x2 → (drf l1 2 fun i3 => (drf (hr h1 2 i3 1) 8 fun i4 => (((hi h1 8 i4 1) = 0 → (drf l1 2 fun i5 => (drf l1 2 fun i6 => ((1 ≤ d ∧ Ec (d - 1) 0 0 m_X10_longitudeByMoons [vR (some (11, 0)), vR (hr h1 2 i6 1)] h1 (kI fun x8 h7 => (drf (hr h1 2 i5 1) 8 fun i9 => (∀ h10, h10 = wI h7 8 i9 4 x8 → Ex d rc rs m_X10_keepByStars 106 [vU, vU, vU, vU] [] h10 Q)))))))) ∧ (¬ (hi h1 8 i4 1) = 0 → Ex d rc rs m_X10_keepByStars 106 [vU, vU, vU, vU] [] h1 Q)))))))))))
theorem sX10_keepByStars_7 {d rc rs : Nat} {l1 : Option XO} {l2 : Int32} {σ : XH} {Q : XV → XH → Prop} (h : bX10_keepByStars_7 d rc rs l1 l2 σ Q) : Ex d rc rs m_X10_keepByStars 7 [vR (some (11, 0)), vR l1, vI l2, vU] [] σ Q :=
  xtree_sound (stop := stpX10_keepByStars) okX10_keepByStars 28 _ _ _ _ _ _ h
def bX10_keepByStars_63 (d rc rs : Nat) (l1 : Option XO) (l2 : Int32) (l3 : Option XO) (σ : XH) (Q : XV → XH → Prop) : Prop :=
  (drf l3 5 fun i1 => (drf l3 5 fun i2 => (drf l1 2 fun i4 => (1 ≤ d ∧ Ec (d - 1) 0 0 m_X1_addStar [vR (some (2, i4)), vI (hi σ 5 i1 4), vI (hi σ 5 i2 6)] σ (kU fun h3 => Ex d rc rs m_X10_keepByStars 75 [vR (some (11, 0)), vR l1, vI l2, vU] [] h3 Q)))))
theorem sX10_keepByStars_63 {d rc rs : Nat} {l1 : Option XO} {l2 : Int32} {l3 : Option XO} {σ : XH} {Q : XV → XH → Prop} (h : bX10_keepByStars_63 d rc rs l1 l2 l3 σ Q) : Ex d rc rs m_X10_keepByStars 63 [vR (some (11, 0)), vR l1, vI l2, vR l3] [] σ Q :=
  xtree_sound (stop := stpX10_keepByStars) okX10_keepByStars 8 _ _ _ _ _ _ h
def bX10_keepByStars_75 (d rc rs : Nat) (l1 : Option XO) (l2 : Int32) (σ : XH) (Q : XV → XH → Prop) : Prop :=
  Ex d rc rs m_X10_keepByStars 7 [vR (some (11, 0)), vR l1, vI (l2 + 1), vU] [] σ Q
theorem sX10_keepByStars_75 {d rc rs : Nat} {l1 : Option XO} {l2 : Int32} {σ : XH} {Q : XV → XH → Prop} (h : bX10_keepByStars_75 d rc rs l1 l2 σ Q) : Ex d rc rs m_X10_keepByStars 75 [vR (some (11, 0)), vR l1, vI l2, vU] [] σ Q :=
  xtree_sound (stop := stpX10_keepByStars) okX10_keepByStars 4 _ _ _ _ _ _ h
def bX10_keepByStars_106 (d rc rs : Nat)  (σ : XH) (Q : XV → XH → Prop) : Prop :=
  Q vU σ
theorem sX10_keepByStars_106 {d rc rs : Nat}  {σ : XH} {Q : XV → XH → Prop} (h : bX10_keepByStars_106 d rc rs  σ Q) : Ex d rc rs m_X10_keepByStars 106 [vU, vU, vU, vU] [] σ Q :=
  xtree_sound (stop := stpX10_keepByStars) okX10_keepByStars 3 _ _ _ _ _ _ h
/-! SpotTimers.longitudeByMoons(LSpotTimers$Station;)I -/
theorem dX10_longitudeByMoons_0 : decode cX10_longitudeByMoons 0 = .ok (.lconst 0, 1) := by decide +kernel
theorem dX10_longitudeByMoons_1 : decode cX10_longitudeByMoons 1 = .ok (.lstore_n 2, 1) := by decide +kernel
theorem dX10_longitudeByMoons_2 : decode cX10_longitudeByMoons 2 = .ok (.iconst 0, 1) := by decide +kernel
theorem dX10_longitudeByMoons_3 : decode cX10_longitudeByMoons 3 = .ok (.istore 4, 2) := by decide +kernel
theorem dX10_longitudeByMoons_5 : decode cX10_longitudeByMoons 5 = .ok (.iconst 0, 1) := by decide +kernel
theorem dX10_longitudeByMoons_6 : decode cX10_longitudeByMoons 6 = .ok (.istore 5, 2) := by decide +kernel
theorem dX10_longitudeByMoons_8 : decode cX10_longitudeByMoons 8 = .ok (.iload 5, 2) := by decide +kernel
theorem dX10_longitudeByMoons_10 : decode cX10_longitudeByMoons 10 = .ok (.aload_n 0, 1) := by decide +kernel
theorem dX10_longitudeByMoons_11 : decode cX10_longitudeByMoons 11 = .ok (.getfield 21, 3) := by decide +kernel
theorem dX10_longitudeByMoons_14 : decode cX10_longitudeByMoons 14 = .ok (.invokevirtual 91, 3) := by decide +kernel
theorem dX10_longitudeByMoons_17 : decode cX10_longitudeByMoons 17 = .ok (.if_icmp .ge 87, 3) := by decide +kernel
theorem dX10_longitudeByMoons_20 : decode cX10_longitudeByMoons 20 = .ok (.aload_n 0, 1) := by decide +kernel
theorem dX10_longitudeByMoons_21 : decode cX10_longitudeByMoons 21 = .ok (.getfield 21, 3) := by decide +kernel
theorem dX10_longitudeByMoons_24 : decode cX10_longitudeByMoons 24 = .ok (.iload 5, 2) := by decide +kernel
theorem dX10_longitudeByMoons_26 : decode cX10_longitudeByMoons 26 = .ok (.invokevirtual 410, 3) := by decide +kernel
theorem dX10_longitudeByMoons_29 : decode cX10_longitudeByMoons 29 = .ok (.checkcast 143, 3) := by decide +kernel
theorem dX10_longitudeByMoons_32 : decode cX10_longitudeByMoons 32 = .ok (.astore 6, 2) := by decide +kernel
theorem dX10_longitudeByMoons_34 : decode cX10_longitudeByMoons 34 = .ok (.aload 6, 2) := by decide +kernel
theorem dX10_longitudeByMoons_36 : decode cX10_longitudeByMoons 36 = .ok (.invokevirtual 157, 3) := by decide +kernel
theorem dX10_longitudeByMoons_39 : decode cX10_longitudeByMoons 39 = .ok (.iconst 2, 1) := by decide +kernel
theorem dX10_longitudeByMoons_40 : decode cX10_longitudeByMoons 40 = .ok (.if_icmp .ne 58, 3) := by decide +kernel
theorem dX10_longitudeByMoons_43 : decode cX10_longitudeByMoons 43 = .ok (.aload 6, 2) := by decide +kernel
theorem dX10_longitudeByMoons_45 : decode cX10_longitudeByMoons 45 = .ok (.getfield 166, 3) := by decide +kernel
theorem dX10_longitudeByMoons_48 : decode cX10_longitudeByMoons 48 = .ok (.getfield 233, 3) := by decide +kernel
theorem dX10_longitudeByMoons_51 : decode cX10_longitudeByMoons 51 = .ok (.getfield 224, 3) := by decide +kernel
theorem dX10_longitudeByMoons_54 : decode cX10_longitudeByMoons 54 = .ok (.aload_n 1, 1) := by decide +kernel
theorem dX10_longitudeByMoons_55 : decode cX10_longitudeByMoons 55 = .ok (.getfield 224, 3) := by decide +kernel
theorem dX10_longitudeByMoons_58 : decode cX10_longitudeByMoons 58 = .ok (.if_icmp .ne 40, 3) := by decide +kernel
theorem dX10_longitudeByMoons_61 : decode cX10_longitudeByMoons 61 = .ok (.aload 6, 2) := by decide +kernel
theorem dX10_longitudeByMoons_63 : decode cX10_longitudeByMoons 63 = .ok (.getfield 166, 3) := by decide +kernel
theorem dX10_longitudeByMoons_66 : decode cX10_longitudeByMoons 66 = .ok (.aload 6, 2) := by decide +kernel
theorem dX10_longitudeByMoons_68 : decode cX10_longitudeByMoons 68 = .ok (.getfield 181, 3) := by decide +kernel
theorem dX10_longitudeByMoons_71 : decode cX10_longitudeByMoons 71 = .ok (.invokevirtual 195, 3) := by decide +kernel
theorem dX10_longitudeByMoons_74 : decode cX10_longitudeByMoons 74 = .ok (.istore 7, 2) := by decide +kernel
theorem dX10_longitudeByMoons_76 : decode cX10_longitudeByMoons 76 = .ok (.iload 7, 2) := by decide +kernel
theorem dX10_longitudeByMoons_78 : decode cX10_longitudeByMoons 78 = .ok (.ldc 179, 2) := by decide +kernel
theorem dX10_longitudeByMoons_80 : decode cX10_longitudeByMoons 80 = .ok (.if_icmp .eq 18, 3) := by decide +kernel
theorem dX10_longitudeByMoons_83 : decode cX10_longitudeByMoons 83 = .ok (.lload_n 2, 1) := by decide +kernel
theorem dX10_longitudeByMoons_84 : decode cX10_longitudeByMoons 84 = .ok (.iload 7, 2) := by decide +kernel
theorem dX10_longitudeByMoons_86 : decode cX10_longitudeByMoons 86 = .ok (.aload 6, 2) := by decide +kernel
theorem dX10_longitudeByMoons_88 : decode cX10_longitudeByMoons 88 = .ok (.getfield 147, 3) := by decide +kernel
theorem dX10_longitudeByMoons_91 : decode cX10_longitudeByMoons 91 = .ok (.isub, 1) := by decide +kernel
theorem dX10_longitudeByMoons_92 : decode cX10_longitudeByMoons 92 = .ok (.i2l, 1) := by decide +kernel
theorem dX10_longitudeByMoons_93 : decode cX10_longitudeByMoons 93 = .ok (.ladd, 1) := by decide +kernel
theorem dX10_longitudeByMoons_94 : decode cX10_longitudeByMoons 94 = .ok (.lstore_n 2, 1) := by decide +kernel
theorem dX10_longitudeByMoons_95 : decode cX10_longitudeByMoons 95 = .ok (.iinc 4 1, 3) := by decide +kernel
theorem dX10_longitudeByMoons_98 : decode cX10_longitudeByMoons 98 = .ok (.iinc 5 1, 3) := by decide +kernel
theorem dX10_longitudeByMoons_101 : decode cX10_longitudeByMoons 101 = .ok (.goto (-93), 3) := by decide +kernel
theorem dX10_longitudeByMoons_104 : decode cX10_longitudeByMoons 104 = .ok (.iload 4, 2) := by decide +kernel
theorem dX10_longitudeByMoons_106 : decode cX10_longitudeByMoons 106 = .ok (.ifCond .ne 8, 3) := by decide +kernel
theorem dX10_longitudeByMoons_109 : decode cX10_longitudeByMoons 109 = .ok (.ldc 179, 2) := by decide +kernel
theorem dX10_longitudeByMoons_111 : decode cX10_longitudeByMoons 111 = .ok (.goto 11, 3) := by decide +kernel
theorem dX10_longitudeByMoons_114 : decode cX10_longitudeByMoons 114 = .ok (.lload_n 2, 1) := by decide +kernel
theorem dX10_longitudeByMoons_115 : decode cX10_longitudeByMoons 115 = .ok (.iload 4, 2) := by decide +kernel
theorem dX10_longitudeByMoons_117 : decode cX10_longitudeByMoons 117 = .ok (.i2l, 1) := by decide +kernel
theorem dX10_longitudeByMoons_118 : decode cX10_longitudeByMoons 118 = .ok (.invokestatic 433, 3) := by decide +kernel
theorem dX10_longitudeByMoons_121 : decode cX10_longitudeByMoons 121 = .ok (.l2i, 1) := by decide +kernel
theorem dX10_longitudeByMoons_122 : decode cX10_longitudeByMoons 122 = .ok (.ireturn, 1) := by decide +kernel
theorem oX10_longitudeByMoons_0 : OKI 126 0 (.lconst 0, 1, [], 0, 0, []) := And.intro dX10_longitudeByMoons_0 (And.intro rfl (by decide +kernel))
theorem oX10_longitudeByMoons_1 : OKI 126 1 (.lstore_n 2, 2, [2], 0, 0, []) := And.intro dX10_longitudeByMoons_1 (And.intro rfl (And.intro rfl (by decide)))
theorem oX10_longitudeByMoons_2 : OKI 126 2 (.iconst 0, 3, [], 0, 0, []) := And.intro dX10_longitudeByMoons_2 (And.intro rfl (by decide +kernel))
theorem oX10_longitudeByMoons_3 : OKI 126 3 (.istore 4, 5, [4], 0, 0, []) := And.intro dX10_longitudeByMoons_3 (And.intro rfl (And.intro rfl (by decide)))
theorem oX10_longitudeByMoons_5 : OKI 126 5 (.iconst 0, 6, [], 0, 0, []) := And.intro dX10_longitudeByMoons_5 (And.intro rfl (by decide +kernel))
theorem oX10_longitudeByMoons_6 : OKI 126 6 (.istore 5, 8, [5], 0, 0, []) := And.intro dX10_longitudeByMoons_6 (And.intro rfl (And.intro rfl (by decide)))
theorem oX10_longitudeByMoons_8 : OKI 126 8 (.iload 5, 10, [5], 0, 0, []) := And.intro dX10_longitudeByMoons_8 (And.intro rfl (rfl))
theorem oX10_longitudeByMoons_10 : OKI 126 10 (.aload_n 0, 11, [0], 0, 0, []) := And.intro dX10_longitudeByMoons_10 (And.intro rfl (rfl))
theorem oX10_longitudeByMoons_11 : OKI 126 11 (.getfield 21, 14, [11, 2, 2, 0, 3], 0, 0, []) := And.intro dX10_longitudeByMoons_11 (And.intro rfl (⟨(RX10, TX10, 15), "SpotTimers", rfl, by decide, tm_1 _ (List.mem_of_getElem? (i := 232) rfl) rfl, Or.inl rfl, rfl, rfl⟩))
theorem oX10_longitudeByMoons_14 : OKI 126 14 (.invokevirtual 91, 17, [271, 1, 1, 0, 0, 1], 0, 0, []) := And.intro dX10_longitudeByMoons_14 (And.intro rfl (And.intro (by decide) (And.intro (by decide) (And.intro mo_Jx4a65c_size_8abf5 (And.intro (tm_2 _ (List.mem_of_getElem? (i := 50) rfl) rfl) (And.intro (tm_2 _ (List.mem_of_getElem? (i := 51) rfl) rfl) (And.intro (tm_2 _ (List.mem_of_getElem? (i := 52) rfl) rfl) (Or.inl ⟨(RJx4a65c, TJx4a65c, 3), rfl, rfl⟩))))))))
theorem oX10_longitudeByMoons_17 : OKI 126 17 (.if_icmp .ge 87, 20, [104], 0, 0, []) := And.intro dX10_longitudeByMoons_17 (And.intro rfl (by decide))
theorem oX10_longitudeByMoons_20 : OKI 126 20 (.aload_n 0, 21, [0], 0, 0, []) := And.intro dX10_longitudeByMoons_20 (And.intro rfl (rfl))
theorem oX10_longitudeByMoons_21 : OKI 126 21 (.getfield 21, 24, [11, 2, 2, 0, 3], 0, 0, []) := And.intro dX10_longitudeByMoons_21 (And.intro rfl (⟨(RX10, TX10, 15), "SpotTimers", rfl, by decide, tm_1 _ (List.mem_of_getElem? (i := 232) rfl) rfl, Or.inl rfl, rfl, rfl⟩))
theorem oX10_longitudeByMoons_24 : OKI 126 24 (.iload 5, 26, [5], 0, 0, []) := And.intro dX10_longitudeByMoons_24 (And.intro rfl (rfl))
theorem oX10_longitudeByMoons_26 : OKI 126 26 (.invokevirtual 410, 29, [273, 2, 1, 0, 0, 3], 0, 0, []) := And.intro dX10_longitudeByMoons_26 (And.intro rfl (And.intro (by decide) (And.intro (by decide) (And.intro mo_Jx4a65c_get_915e3 (And.intro (tm_2 _ (List.mem_of_getElem? (i := 154) rfl) rfl) (And.intro (tm_2 _ (List.mem_of_getElem? (i := 155) rfl) rfl) (And.intro (tm_2 _ (List.mem_of_getElem? (i := 156) rfl) rfl) (Or.inl ⟨(RJx4a65c, TJx4a65c, 3), rfl, rfl⟩))))))))
theorem oX10_longitudeByMoons_29 : OKI 126 29 (.checkcast 143, 32, [5], 0, 0, []) := And.intro dX10_longitudeByMoons_29 (And.intro rfl (⟨(RX4, TX4, 11), rfl, tm_2 _ (List.mem_of_getElem? (i := 222) rfl) rfl⟩))
theorem oX10_longitudeByMoons_32 : OKI 126 32 (.astore 6, 34, [6], 0, 0, []) := And.intro dX10_longitudeByMoons_32 (And.intro rfl (And.intro rfl (by decide)))
theorem oX10_longitudeByMoons_34 : OKI 126 34 (.aload 6, 36, [6], 0, 0, []) := And.intro dX10_longitudeByMoons_34 (And.intro rfl (rfl))
theorem oX10_longitudeByMoons_36 : OKI 126 36 (.invokevirtual 157, 39, [17, 1, 6, 0, 0, 1], 0, 0, []) := And.intro dX10_longitudeByMoons_36 (And.intro rfl (And.intro (by decide) (And.intro (by decide) (And.intro mo_X4_kindNow (And.intro (tm_2 _ (List.mem_of_getElem? (i := 223) rfl) rfl) (And.intro (tm_2 _ (List.mem_of_getElem? (i := 224) rfl) rfl) (And.intro (tm_2 _ (List.mem_of_getElem? (i := 225) rfl) rfl) (Or.inl ⟨(RX4, TX4, 11), rfl, rfl⟩))))))))
theorem oX10_longitudeByMoons_39 : OKI 126 39 (.iconst 2, 40, [], 2, 0, []) := And.intro dX10_longitudeByMoons_39 (And.intro rfl (by decide +kernel))
theorem oX10_longitudeByMoons_40 : OKI 126 40 (.if_icmp .ne 58, 43, [98], 0, 0, []) := And.intro dX10_longitudeByMoons_40 (And.intro rfl (by decide))
theorem oX10_longitudeByMoons_43 : OKI 126 43 (.aload 6, 45, [6], 0, 0, []) := And.intro dX10_longitudeByMoons_43 (And.intro rfl (rfl))
theorem oX10_longitudeByMoons_45 : OKI 126 45 (.getfield 166, 48, [5, 2, 2], 0, 0, []) := And.intro dX10_longitudeByMoons_45 (And.intro rfl (⟨(RX4, TX4, 11), "SpotTimers$Reading", rfl, by decide, tm_3 _ (List.mem_of_getElem? (i := 57) rfl) rfl, Or.inl rfl, Or.inr (Or.inl (And.intro rfl rfl))⟩))
theorem oX10_longitudeByMoons_48 : OKI 126 48 (.getfield 233, 51, [2, 1, 2], 0, 0, []) := And.intro dX10_longitudeByMoons_48 (And.intro rfl (⟨(RX1, TX1, 6), "SpotTimers$Clock", rfl, by decide, tm_2 _ (List.mem_of_getElem? (i := 182) rfl) rfl, Or.inl rfl, Or.inr (Or.inl (And.intro rfl rfl))⟩))
theorem oX10_longitudeByMoons_51 : OKI 126 51 (.getfield 224, 54, [8, 0, 0], 0, 0, []) := And.intro dX10_longitudeByMoons_51 (And.intro rfl (⟨(RX7, TX7, 5), "SpotTimers$Station", rfl, by decide, tm_2 _ (List.mem_of_getElem? (i := 67) rfl) rfl, Or.inl rfl, Or.inr (Or.inr (And.intro rfl (Or.inl rfl)))⟩))
theorem oX10_longitudeByMoons_54 : OKI 126 54 (.aload_n 1, 55, [1], 0, 0, []) := And.intro dX10_longitudeByMoons_54 (And.intro rfl (rfl))
theorem oX10_longitudeByMoons_55 : OKI 126 55 (.getfield 224, 58, [8, 0, 0], 0, 0, []) := And.intro dX10_longitudeByMoons_55 (And.intro rfl (⟨(RX7, TX7, 5), "SpotTimers$Station", rfl, by decide, tm_2 _ (List.mem_of_getElem? (i := 67) rfl) rfl, Or.inl rfl, Or.inr (Or.inr (And.intro rfl (Or.inl rfl)))⟩))
theorem oX10_longitudeByMoons_58 : OKI 126 58 (.if_icmp .ne 40, 61, [98], 0, 0, []) := And.intro dX10_longitudeByMoons_58 (And.intro rfl (by decide))
theorem oX10_longitudeByMoons_61 : OKI 126 61 (.aload 6, 63, [6], 0, 0, []) := And.intro dX10_longitudeByMoons_61 (And.intro rfl (rfl))
theorem oX10_longitudeByMoons_63 : OKI 126 63 (.getfield 166, 66, [5, 2, 2], 0, 0, []) := And.intro dX10_longitudeByMoons_63 (And.intro rfl (⟨(RX4, TX4, 11), "SpotTimers$Reading", rfl, by decide, tm_3 _ (List.mem_of_getElem? (i := 57) rfl) rfl, Or.inl rfl, Or.inr (Or.inl (And.intro rfl rfl))⟩))
theorem oX10_longitudeByMoons_66 : OKI 126 66 (.aload 6, 68, [6], 0, 0, []) := And.intro dX10_longitudeByMoons_66 (And.intro rfl (rfl))
theorem oX10_longitudeByMoons_68 : OKI 126 68 (.getfield 181, 71, [5, 4, 0], 0, 0, []) := And.intro dX10_longitudeByMoons_68 (And.intro rfl (⟨(RX4, TX4, 11), "SpotTimers$Reading", rfl, by decide, tm_3 _ (List.mem_of_getElem? (i := 63) rfl) rfl, Or.inl rfl, Or.inr (Or.inr (And.intro rfl (Or.inl rfl)))⟩))
theorem oX10_longitudeByMoons_71 : OKI 126 71 (.invokevirtual 195, 74, [11, 2, 3, 0, 0, 1], 0, 0, []) := And.intro dX10_longitudeByMoons_71 (And.intro rfl (And.intro (by decide) (And.intro (by decide) (And.intro mo_X1_trueTime (And.intro (tm_3 _ (List.mem_of_getElem? (i := 8) rfl) rfl) (And.intro (tm_3 _ (List.mem_of_getElem? (i := 9) rfl) rfl) (And.intro (tm_3 _ (List.mem_of_getElem? (i := 10) rfl) rfl) (Or.inl ⟨(RX1, TX1, 6), rfl, rfl⟩))))))))
theorem oX10_longitudeByMoons_74 : OKI 126 74 (.istore 7, 76, [7], 0, 0, []) := And.intro dX10_longitudeByMoons_74 (And.intro rfl (And.intro rfl (by decide)))
theorem oX10_longitudeByMoons_76 : OKI 126 76 (.iload 7, 78, [7], 0, 0, []) := And.intro dX10_longitudeByMoons_76 (And.intro rfl (rfl))
theorem oX10_longitudeByMoons_78 : OKI 126 78 (.ldc 179, 80, [], (-1000000000), 0, []) := And.intro dX10_longitudeByMoons_78 (And.intro rfl (tm_3 _ (List.mem_of_getElem? (i := 23) rfl) rfl))
theorem oX10_longitudeByMoons_80 : OKI 126 80 (.if_icmp .eq 18, 83, [98], 0, 0, []) := And.intro dX10_longitudeByMoons_80 (And.intro rfl (by decide))
theorem oX10_longitudeByMoons_83 : OKI 126 83 (.lload_n 2, 84, [2], 0, 0, []) := And.intro dX10_longitudeByMoons_83 (And.intro rfl (rfl))
theorem oX10_longitudeByMoons_84 : OKI 126 84 (.iload 7, 86, [7], 0, 0, []) := And.intro dX10_longitudeByMoons_84 (And.intro rfl (rfl))
theorem oX10_longitudeByMoons_86 : OKI 126 86 (.aload 6, 88, [6], 0, 0, []) := And.intro dX10_longitudeByMoons_86 (And.intro rfl (rfl))
theorem oX10_longitudeByMoons_88 : OKI 126 88 (.getfield 147, 91, [5, 6, 0], 0, 0, []) := And.intro dX10_longitudeByMoons_88 (And.intro rfl (⟨(RX4, TX4, 11), "SpotTimers$Reading", rfl, by decide, tm_3 _ (List.mem_of_getElem? (i := 67) rfl) rfl, Or.inl rfl, Or.inr (Or.inr (And.intro rfl (Or.inl rfl)))⟩))
theorem oX10_longitudeByMoons_91 : OKI 126 91 (.isub, 92, [], 0, 0, []) := And.intro dX10_longitudeByMoons_91 rfl
theorem oX10_longitudeByMoons_92 : OKI 126 92 (.i2l, 93, [], 0, 0, []) := And.intro dX10_longitudeByMoons_92 rfl
theorem oX10_longitudeByMoons_93 : OKI 126 93 (.ladd, 94, [], 0, 0, []) := And.intro dX10_longitudeByMoons_93 rfl
theorem oX10_longitudeByMoons_94 : OKI 126 94 (.lstore_n 2, 95, [2], 0, 0, []) := And.intro dX10_longitudeByMoons_94 (And.intro rfl (And.intro rfl (by decide)))
theorem oX10_longitudeByMoons_95 : OKI 126 95 (.iinc 4 1, 98, [4], 1, 0, []) := And.intro dX10_longitudeByMoons_95 (And.intro rfl (And.intro rfl (And.intro (by decide +kernel) (by decide))))
theorem oX10_longitudeByMoons_98 : OKI 126 98 (.iinc 5 1, 101, [5], 1, 0, []) := And.intro dX10_longitudeByMoons_98 (And.intro rfl (And.intro rfl (And.intro (by decide +kernel) (by decide))))
theorem oX10_longitudeByMoons_101 : OKI 126 101 (.goto (-93), 104, [8], 0, 0, []) := And.intro dX10_longitudeByMoons_101 (And.intro rfl (by decide))
theorem oX10_longitudeByMoons_104 : OKI 126 104 (.iload 4, 106, [4], 0, 0, []) := And.intro dX10_longitudeByMoons_104 (And.intro rfl (rfl))
theorem oX10_longitudeByMoons_106 : OKI 126 106 (.ifCond .ne 8, 109, [114], 0, 0, []) := And.intro dX10_longitudeByMoons_106 (And.intro rfl (by decide))
theorem oX10_longitudeByMoons_109 : OKI 126 109 (.ldc 179, 111, [], (-1000000000), 0, []) := And.intro dX10_longitudeByMoons_109 (And.intro rfl (tm_3 _ (List.mem_of_getElem? (i := 23) rfl) rfl))
theorem oX10_longitudeByMoons_111 : OKI 126 111 (.goto 11, 114, [122], 0, 0, []) := And.intro dX10_longitudeByMoons_111 (And.intro rfl (by decide))
theorem oX10_longitudeByMoons_114 : OKI 126 114 (.lload_n 2, 115, [2], 0, 0, []) := And.intro dX10_longitudeByMoons_114 (And.intro rfl (rfl))
theorem oX10_longitudeByMoons_115 : OKI 126 115 (.iload 4, 117, [4], 0, 0, []) := And.intro dX10_longitudeByMoons_115 (And.intro rfl (rfl))
theorem oX10_longitudeByMoons_117 : OKI 126 117 (.i2l, 118, [], 0, 0, []) := And.intro dX10_longitudeByMoons_117 rfl
theorem oX10_longitudeByMoons_118 : OKI 126 118 (.invokestatic 433, 121, [249, 2, 0, 0, 0, 2], 0, 0, []) := And.intro dX10_longitudeByMoons_118 (And.intro rfl (And.intro rfl (And.intro mo_J9_floorDiv_f86c9 (And.intro (Or.inl (tm_3 _ (List.mem_of_getElem? (i := 24) rfl) rfl)) (tm_3 _ (List.mem_of_getElem? (i := 21) rfl) rfl)))))
theorem oX10_longitudeByMoons_121 : OKI 126 121 (.l2i, 122, [], 0, 0, []) := And.intro dX10_longitudeByMoons_121 rfl
theorem oX10_longitudeByMoons_122 : OKI 126 122 (.ireturn, 123, [0], 0, 0, []) := And.intro dX10_longitudeByMoons_122 (Or.inl (And.intro rfl rfl))
def pfX10_longitudeByMoons (pc : Nat) : Option XE := (bif Nat.blt pc 63 then (bif Nat.blt pc 26 then (bif Nat.blt pc 10 then (bif Nat.blt pc 3 then (bif Nat.blt pc 1 then (bif Nat.beq pc 0 then some (.lconst 0, 1, [], 0, 0, []) else none) else (bif Nat.blt pc 2 then (bif Nat.beq pc 1 then some (.lstore_n 2, 2, [2], 0, 0, []) else none) else (bif Nat.beq pc 2 then some (.iconst 0, 3, [], 0, 0, []) else none))) else (bif Nat.blt pc 6 then (bif Nat.blt pc 5 then (bif Nat.beq pc 3 then some (.istore 4, 5, [4], 0, 0, []) else none) else (bif Nat.beq pc 5 then some (.iconst 0, 6, [], 0, 0, []) else none)) else (bif Nat.blt pc 8 then (bif Nat.beq pc 6 then some (.istore 5, 8, [5], 0, 0, []) else none) else (bif Nat.beq pc 8 then some (.iload 5, 10, [5], 0, 0, []) else none)))) else (bif Nat.blt pc 17 then (bif Nat.blt pc 11 then (bif Nat.beq pc 10 then some (.aload_n 0, 11, [0], 0, 0, []) else none) else (bif Nat.blt pc 14 then (bif Nat.beq pc 11 then some (.getfield 21, 14, [11, 2, 2, 0, 3], 0, 0, []) else none) else (bif Nat.beq pc 14 then some (.invokevirtual 91, 17, [271, 1, 1, 0, 0, 1], 0, 0, []) else none))) else (bif Nat.blt pc 21 then (bif Nat.blt pc 20 then (bif Nat.beq pc 17 then some (.if_icmp .ge 87, 20, [104], 0, 0, []) else none) else (bif Nat.beq pc 20 then some (.aload_n 0, 21, [0], 0, 0, []) else none)) else (bif Nat.blt pc 24 then (bif Nat.beq pc 21 then some (.getfield 21, 24, [11, 2, 2, 0, 3], 0, 0, []) else none) else (bif Nat.beq pc 24 then some (.iload 5, 26, [5], 0, 0, []) else none))))) else (bif Nat.blt pc 43 then (bif Nat.blt pc 34 then (bif Nat.blt pc 29 then (bif Nat.beq pc 26 then some (.invokevirtual 410, 29, [273, 2, 1, 0, 0, 3], 0, 0, []) else none) else (bif Nat.blt pc 32 then (bif Nat.beq pc 29 then some (.checkcast 143, 32, [5], 0, 0, []) else none) else (bif Nat.beq pc 32 then some (.astore 6, 34, [6], 0, 0, []) else none))) else (bif Nat.blt pc 39 then (bif Nat.blt pc 36 then (bif Nat.beq pc 34 then some (.aload 6, 36, [6], 0, 0, []) else none) else (bif Nat.beq pc 36 then some (.invokevirtual 157, 39, [17, 1, 6, 0, 0, 1], 0, 0, []) else none)) else (bif Nat.blt pc 40 then (bif Nat.beq pc 39 then some (.iconst 2, 40, [], 2, 0, []) else none) else (bif Nat.beq pc 40 then some (.if_icmp .ne 58, 43, [98], 0, 0, []) else none)))) else (bif Nat.blt pc 54 then (bif Nat.blt pc 48 then (bif Nat.blt pc 45 then (bif Nat.beq pc 43 then some (.aload 6, 45, [6], 0, 0, []) else none) else (bif Nat.beq pc 45 then some (.getfield 166, 48, [5, 2, 2], 0, 0, []) else none)) else (bif Nat.blt pc 51 then (bif Nat.beq pc 48 then some (.getfield 233, 51, [2, 1, 2], 0, 0, []) else none) else (bif Nat.beq pc 51 then some (.getfield 224, 54, [8, 0, 0], 0, 0, []) else none))) else (bif Nat.blt pc 58 then (bif Nat.blt pc 55 then (bif Nat.beq pc 54 then some (.aload_n 1, 55, [1], 0, 0, []) else none) else (bif Nat.beq pc 55 then some (.getfield 224, 58, [8, 0, 0], 0, 0, []) else none)) else (bif Nat.blt pc 61 then (bif Nat.beq pc 58 then some (.if_icmp .ne 40, 61, [98], 0, 0, []) else none) else (bif Nat.beq pc 61 then some (.aload 6, 63, [6], 0, 0, []) else none)))))) else (bif Nat.blt pc 93 then (bif Nat.blt pc 80 then (bif Nat.blt pc 71 then (bif Nat.blt pc 66 then (bif Nat.beq pc 63 then some (.getfield 166, 66, [5, 2, 2], 0, 0, []) else none) else (bif Nat.blt pc 68 then (bif Nat.beq pc 66 then some (.aload 6, 68, [6], 0, 0, []) else none) else (bif Nat.beq pc 68 then some (.getfield 181, 71, [5, 4, 0], 0, 0, []) else none))) else (bif Nat.blt pc 76 then (bif Nat.blt pc 74 then (bif Nat.beq pc 71 then some (.invokevirtual 195, 74, [11, 2, 3, 0, 0, 1], 0, 0, []) else none) else (bif Nat.beq pc 74 then some (.istore 7, 76, [7], 0, 0, []) else none)) else (bif Nat.blt pc 78 then (bif Nat.beq pc 76 then some (.iload 7, 78, [7], 0, 0, []) else none) else (bif Nat.beq pc 78 then some (.ldc 179, 80, [], (-1000000000), 0, []) else none)))) else (bif Nat.blt pc 86 then (bif Nat.blt pc 83 then (bif Nat.beq pc 80 then some (.if_icmp .eq 18, 83, [98], 0, 0, []) else none) else (bif Nat.blt pc 84 then (bif Nat.beq pc 83 then some (.lload_n 2, 84, [2], 0, 0, []) else none) else (bif Nat.beq pc 84 then some (.iload 7, 86, [7], 0, 0, []) else none))) else (bif Nat.blt pc 91 then (bif Nat.blt pc 88 then (bif Nat.beq pc 86 then some (.aload 6, 88, [6], 0, 0, []) else none) else (bif Nat.beq pc 88 then some (.getfield 147, 91, [5, 6, 0], 0, 0, []) else none)) else (bif Nat.blt pc 92 then (bif Nat.beq pc 91 then some (.isub, 92, [], 0, 0, []) else none) else (bif Nat.beq pc 92 then some (.i2l, 93, [], 0, 0, []) else none))))) else (bif Nat.blt pc 109 then (bif Nat.blt pc 98 then (bif Nat.blt pc 94 then (bif Nat.beq pc 93 then some (.ladd, 94, [], 0, 0, []) else none) else (bif Nat.blt pc 95 then (bif Nat.beq pc 94 then some (.lstore_n 2, 95, [2], 0, 0, []) else none) else (bif Nat.beq pc 95 then some (.iinc 4 1, 98, [4], 1, 0, []) else none))) else (bif Nat.blt pc 104 then (bif Nat.blt pc 101 then (bif Nat.beq pc 98 then some (.iinc 5 1, 101, [5], 1, 0, []) else none) else (bif Nat.beq pc 101 then some (.goto (-93), 104, [8], 0, 0, []) else none)) else (bif Nat.blt pc 106 then (bif Nat.beq pc 104 then some (.iload 4, 106, [4], 0, 0, []) else none) else (bif Nat.beq pc 106 then some (.ifCond .ne 8, 109, [114], 0, 0, []) else none)))) else (bif Nat.blt pc 117 then (bif Nat.blt pc 114 then (bif Nat.blt pc 111 then (bif Nat.beq pc 109 then some (.ldc 179, 111, [], (-1000000000), 0, []) else none) else (bif Nat.beq pc 111 then some (.goto 11, 114, [122], 0, 0, []) else none)) else (bif Nat.blt pc 115 then (bif Nat.beq pc 114 then some (.lload_n 2, 115, [2], 0, 0, []) else none) else (bif Nat.beq pc 115 then some (.iload 4, 117, [4], 0, 0, []) else none))) else (bif Nat.blt pc 121 then (bif Nat.blt pc 118 then (bif Nat.beq pc 117 then some (.i2l, 118, [], 0, 0, []) else none) else (bif Nat.beq pc 118 then some (.invokestatic 433, 121, [249, 2, 0, 0, 0, 2], 0, 0, []) else none)) else (bif Nat.blt pc 122 then (bif Nat.beq pc 121 then some (.l2i, 122, [], 0, 0, []) else none) else (bif Nat.beq pc 122 then some (.ireturn, 123, [0], 0, 0, []) else none)))))))
theorem okX10_longitudeByMoons : ∀ pc Y, pfX10_longitudeByMoons pc = some Y → OKI m_X10_longitudeByMoons pc Y := fun pc Y => ((bt_node (bt_node (bt_node (bt_node (bt_node (bt_leaf (P := OKI m_X10_longitudeByMoons) oX10_longitudeByMoons_0) (bt_node (bt_leaf (P := OKI m_X10_longitudeByMoons) oX10_longitudeByMoons_1) (bt_leaf (P := OKI m_X10_longitudeByMoons) oX10_longitudeByMoons_2))) (bt_node (bt_node (bt_leaf (P := OKI m_X10_longitudeByMoons) oX10_longitudeByMoons_3) (bt_leaf (P := OKI m_X10_longitudeByMoons) oX10_longitudeByMoons_5)) (bt_node (bt_leaf (P := OKI m_X10_longitudeByMoons) oX10_longitudeByMoons_6) (bt_leaf (P := OKI m_X10_longitudeByMoons) oX10_longitudeByMoons_8)))) (bt_node (bt_node (bt_leaf (P := OKI m_X10_longitudeByMoons) oX10_longitudeByMoons_10) (bt_node (bt_leaf (P := OKI m_X10_longitudeByMoons) oX10_longitudeByMoons_11) (bt_leaf (P := OKI m_X10_longitudeByMoons) oX10_longitudeByMoons_14))) (bt_node (bt_node (bt_leaf (P := OKI m_X10_longitudeByMoons) oX10_longitudeByMoons_17) (bt_leaf (P := OKI m_X10_longitudeByMoons) oX10_longitudeByMoons_20)) (bt_node (bt_leaf (P := OKI m_X10_longitudeByMoons) oX10_longitudeByMoons_21) (bt_leaf (P := OKI m_X10_longitudeByMoons) oX10_longitudeByMoons_24))))) (bt_node (bt_node (bt_node (bt_leaf (P := OKI m_X10_longitudeByMoons) oX10_longitudeByMoons_26) (bt_node (bt_leaf (P := OKI m_X10_longitudeByMoons) oX10_longitudeByMoons_29) (bt_leaf (P := OKI m_X10_longitudeByMoons) oX10_longitudeByMoons_32))) (bt_node (bt_node (bt_leaf (P := OKI m_X10_longitudeByMoons) oX10_longitudeByMoons_34) (bt_leaf (P := OKI m_X10_longitudeByMoons) oX10_longitudeByMoons_36)) (bt_node (bt_leaf (P := OKI m_X10_longitudeByMoons) oX10_longitudeByMoons_39) (bt_leaf (P := OKI m_X10_longitudeByMoons) oX10_longitudeByMoons_40)))) (bt_node (bt_node (bt_node (bt_leaf (P := OKI m_X10_longitudeByMoons) oX10_longitudeByMoons_43) (bt_leaf (P := OKI m_X10_longitudeByMoons) oX10_longitudeByMoons_45)) (bt_node (bt_leaf (P := OKI m_X10_longitudeByMoons) oX10_longitudeByMoons_48) (bt_leaf (P := OKI m_X10_longitudeByMoons) oX10_longitudeByMoons_51))) (bt_node (bt_node (bt_leaf (P := OKI m_X10_longitudeByMoons) oX10_longitudeByMoons_54) (bt_leaf (P := OKI m_X10_longitudeByMoons) oX10_longitudeByMoons_55)) (bt_node (bt_leaf (P := OKI m_X10_longitudeByMoons) oX10_longitudeByMoons_58) (bt_leaf (P := OKI m_X10_longitudeByMoons) oX10_longitudeByMoons_61)))))) (bt_node (bt_node (bt_node (bt_node (bt_leaf (P := OKI m_X10_longitudeByMoons) oX10_longitudeByMoons_63) (bt_node (bt_leaf (P := OKI m_X10_longitudeByMoons) oX10_longitudeByMoons_66) (bt_leaf (P := OKI m_X10_longitudeByMoons) oX10_longitudeByMoons_68))) (bt_node (bt_node (bt_leaf (P := OKI m_X10_longitudeByMoons) oX10_longitudeByMoons_71) (bt_leaf (P := OKI m_X10_longitudeByMoons) oX10_longitudeByMoons_74)) (bt_node (bt_leaf (P := OKI m_X10_longitudeByMoons) oX10_longitudeByMoons_76) (bt_leaf (P := OKI m_X10_longitudeByMoons) oX10_longitudeByMoons_78)))) (bt_node (bt_node (bt_leaf (P := OKI m_X10_longitudeByMoons) oX10_longitudeByMoons_80) (bt_node (bt_leaf (P := OKI m_X10_longitudeByMoons) oX10_longitudeByMoons_83) (bt_leaf (P := OKI m_X10_longitudeByMoons) oX10_longitudeByMoons_84))) (bt_node (bt_node (bt_leaf (P := OKI m_X10_longitudeByMoons) oX10_longitudeByMoons_86) (bt_leaf (P := OKI m_X10_longitudeByMoons) oX10_longitudeByMoons_88)) (bt_node (bt_leaf (P := OKI m_X10_longitudeByMoons) oX10_longitudeByMoons_91) (bt_leaf (P := OKI m_X10_longitudeByMoons) oX10_longitudeByMoons_92))))) (bt_node (bt_node (bt_node (bt_leaf (P := OKI m_X10_longitudeByMoons) oX10_longitudeByMoons_93) (bt_node (bt_leaf (P := OKI m_X10_longitudeByMoons) oX10_longitudeByMoons_94) (bt_leaf (P := OKI m_X10_longitudeByMoons) oX10_longitudeByMoons_95))) (bt_node (bt_node (bt_leaf (P := OKI m_X10_longitudeByMoons) oX10_longitudeByMoons_98) (bt_leaf (P := OKI m_X10_longitudeByMoons) oX10_longitudeByMoons_101)) (bt_node (bt_leaf (P := OKI m_X10_longitudeByMoons) oX10_longitudeByMoons_104) (bt_leaf (P := OKI m_X10_longitudeByMoons) oX10_longitudeByMoons_106)))) (bt_node (bt_node (bt_node (bt_leaf (P := OKI m_X10_longitudeByMoons) oX10_longitudeByMoons_109) (bt_leaf (P := OKI m_X10_longitudeByMoons) oX10_longitudeByMoons_111)) (bt_node (bt_leaf (P := OKI m_X10_longitudeByMoons) oX10_longitudeByMoons_114) (bt_leaf (P := OKI m_X10_longitudeByMoons) oX10_longitudeByMoons_115))) (bt_node (bt_node (bt_leaf (P := OKI m_X10_longitudeByMoons) oX10_longitudeByMoons_117) (bt_leaf (P := OKI m_X10_longitudeByMoons) oX10_longitudeByMoons_118)) (bt_node (bt_leaf (P := OKI m_X10_longitudeByMoons) oX10_longitudeByMoons_121) (bt_leaf (P := OKI m_X10_longitudeByMoons) oX10_longitudeByMoons_122))))))) : pfX10_longitudeByMoons pc = some Y → OKI m_X10_longitudeByMoons pc Y)
def stpX10_longitudeByMoons (pc : Nat) : Option (List Bool) := (bif Nat.blt pc 98 then (bif Nat.blt pc 76 then (bif Nat.beq pc 8 then some [true, true, true, false, true, true, false, false] else none) else (bif Nat.beq pc 76 then some [true, true, true, false, true, true, true, true] else none)) else (bif Nat.blt pc 122 then (bif Nat.beq pc 98 then some [true, true, true, false, true, true, false, false] else none) else (bif Nat.beq pc 122 then some [false, false, false, false, false, false, false, false] else none)))
def bX10_longitudeByMoons_0 (d rc rs : Nat) (a1 : Option XO) (σ : XH) (Q : XV → XH → Prop) : Prop :=
  Ex d rc rs m_X10_longitudeByMoons 8 [vR (some (11, 0)), vR a1, vL 0, vU, vI 0, vI 0, vU, vU] [] σ Q
theorem sX10_longitudeByMoons_0 {d rc rs : Nat} {a1 : Option XO} {σ : XH} {Q : XV → XH → Prop} (h : bX10_longitudeByMoons_0 d rc rs a1 σ Q) : Ex d rc rs m_X10_longitudeByMoons 0 [vR (some (11, 0)), vR a1, vU, vU, vU, vU, vU, vU] [] σ Q :=
  xtree_sound (stop := stpX10_longitudeByMoons) okX10_longitudeByMoons 8 _ _ _ _ _ _ h
def bX10_longitudeByMoons_8 (d rc rs : Nat) (l1 : Option XO) (l2 : Int64) (l4 : Int32) (l5 : Int32) (σ : XH) (Q : XV → XH → Prop) : Prop :=
  ((hr σ 11 0 2 = some (0, 2) ∧ ((1 ≤ d ∧ Ec (d - 1) 0 0 m_Jx4a65c_size_8abf5 [vR (some (0, 2))] σ (kI fun x2 h1 => ((l5 < x2 → ((hr h1 11 0 2 = some (0, 2) ∧ ((1 ≤ d ∧ Ec (d - 1) 0 0 m_Jx4a65c_get_915e3 [vR (some (0, 2)), vI l5] h1 (kR fun x6 h5 => (cst x6 5 fun o7 => (drf o7 5 fun i19 => (1 ≤ d ∧ Ec (d - 1) 0 0 m_X4_kindNow [vR (some (5, i19))] h5 (kI fun x9 h8 => ((x9 = 2 → (drf o7 5 fun i10 => (drf (hr h8 5 i10 2) 2 fun i11 => (drf (hr h8 2 i11 1) 8 fun i12 => (drf l1 8 fun i13 => (((hi h8 8 i12 0) = (hi h8 8 i13 0) → (drf o7 5 fun i14 => (drf o7 5 fun i15 => (drf (hr h8 5 i14 2) 2 fun i18 => (1 ≤ d ∧ Ec (d - 1) 0 0 m_X1_trueTime [vR (some (2, i18)), vI (hi h8 5 i15 4)] h8 (kI fun x17 h16 => Ex d rc rs m_X10_longitudeByMoons 76 [vR (some (11, 0)), vR l1, vL l2, vU, vI l4, vI l5, vR o7, vI x17] [] h16 Q)))))) ∧ (¬ (hi h8 8 i12 0) = (hi h8 8 i13 0) → Ex d rc rs m_X10_longitudeByMoons 98 [vR (some (11, 0)), vR l1, vL l2, vU, vI l4, vI l5, vU, vU] [] h8 Q))))))) ∧ (¬ x9 = 2 → Ex d rc rs m_X10_longitudeByMoons 98 [vR (some (11, 0)), vR l1, vL l2, vU, vI l4, vI l5, vU, vU] [] h8 Q)))))))))))) ∧ (¬ l5 < x2 → ((l4 = 0 → Ex d rc rs m_X10_longitudeByMoons 122 [vU, vU, vU, vU, vU, vU, vU, vU] [vI (-1000000000)] h1 Q) ∧ (¬ l4 = 0 → (1 ≤ d ∧ Ec (d - 1) 0 0 m_J9_floorDiv_f86c9 [vL l2, vL l4.toInt64] h1 (kL fun x4 h3 => Ex d rc rs m_X10_longitudeByMoons 122 [vU, vU, vU, vU, vU, vU, vU, vU] [vI x4.toInt32] h3 Q)))))))))))
theorem sX10_longitudeByMoons_8 {d rc rs : Nat} {l1 : Option XO} {l2 : Int64} {l4 : Int32} {l5 : Int32} {σ : XH} {Q : XV → XH → Prop} (h : bX10_longitudeByMoons_8 d rc rs l1 l2 l4 l5 σ Q) : Ex d rc rs m_X10_longitudeByMoons 8 [vR (some (11, 0)), vR l1, vL l2, vU, vI l4, vI l5, vU, vU] [] σ Q :=
  xtree_sound (stop := stpX10_longitudeByMoons) okX10_longitudeByMoons 30 _ _ _ _ _ _ h
def bX10_longitudeByMoons_76 (d rc rs : Nat) (l1 : Option XO) (l2 : Int64) (l4 : Int32) (l5 : Int32) (l6 : Option XO) (l7 : Int32) (σ : XH) (Q : XV → XH → Prop) : Prop :=
  ((l7 = (-1000000000) → Ex d rc rs m_X10_longitudeByMoons 98 [vR (some (11, 0)), vR l1, vL l2, vU, vI l4, vI l5, vU, vU] [] σ Q) ∧ (¬ l7 = (-1000000000) → (drf l6 5 fun i1 => Ex d rc rs m_X10_longitudeByMoons 98 [vR (some (11, 0)), vR l1, vL (l2 + ((l7 - (hi σ 5 i1 6)).toInt64)), vU, vI (l4 + 1), vI l5, vU, vU] [] σ Q)))
theorem sX10_longitudeByMoons_76 {d rc rs : Nat} {l1 : Option XO} {l2 : Int64} {l4 : Int32} {l5 : Int32} {l6 : Option XO} {l7 : Int32} {σ : XH} {Q : XV → XH → Prop} (h : bX10_longitudeByMoons_76 d rc rs l1 l2 l4 l5 l6 l7 σ Q) : Ex d rc rs m_X10_longitudeByMoons 76 [vR (some (11, 0)), vR l1, vL l2, vU, vI l4, vI l5, vR l6, vI l7] [] σ Q :=
  xtree_sound (stop := stpX10_longitudeByMoons) okX10_longitudeByMoons 14 _ _ _ _ _ _ h
def bX10_longitudeByMoons_98 (d rc rs : Nat) (l1 : Option XO) (l2 : Int64) (l4 : Int32) (l5 : Int32) (σ : XH) (Q : XV → XH → Prop) : Prop :=
  Ex d rc rs m_X10_longitudeByMoons 8 [vR (some (11, 0)), vR l1, vL l2, vU, vI l4, vI (l5 + 1), vU, vU] [] σ Q
theorem sX10_longitudeByMoons_98 {d rc rs : Nat} {l1 : Option XO} {l2 : Int64} {l4 : Int32} {l5 : Int32} {σ : XH} {Q : XV → XH → Prop} (h : bX10_longitudeByMoons_98 d rc rs l1 l2 l4 l5 σ Q) : Ex d rc rs m_X10_longitudeByMoons 98 [vR (some (11, 0)), vR l1, vL l2, vU, vI l4, vI l5, vU, vU] [] σ Q :=
  xtree_sound (stop := stpX10_longitudeByMoons) okX10_longitudeByMoons 4 _ _ _ _ _ _ h
def bX10_longitudeByMoons_122 (d rc rs : Nat) (q0 : Int32) (σ : XH) (Q : XV → XH → Prop) : Prop :=
  Q (vI q0) σ
theorem sX10_longitudeByMoons_122 {d rc rs : Nat} {q0 : Int32} {σ : XH} {Q : XV → XH → Prop} (h : bX10_longitudeByMoons_122 d rc rs q0 σ Q) : Ex d rc rs m_X10_longitudeByMoons 122 [vU, vU, vU, vU, vU, vU, vU, vU] [vI q0] σ Q :=
  xtree_sound (stop := stpX10_longitudeByMoons) okX10_longitudeByMoons 3 _ _ _ _ _ _ h
/-! SpotTimers.copyOut(LSpotTimers$Clock;IILSpotTimers$Tape;J)I -/
theorem dX10_copyOut_0 : decode cX10_copyOut 0 = .ok (.aload 4, 2) := by decide +kernel
theorem dX10_copyOut_2 : decode cX10_copyOut 2 = .ok (.invokevirtual 209, 3) := by decide +kernel
theorem dX10_copyOut_5 : decode cX10_copyOut 5 = .ok (.ifCond .ne 5, 3) := by decide +kernel
theorem dX10_copyOut_8 : decode cX10_copyOut 8 = .ok (.iconst 1, 1) := by decide +kernel
theorem dX10_copyOut_9 : decode cX10_copyOut 9 = .ok (.ireturn, 1) := by decide +kernel
theorem dX10_copyOut_10 : decode cX10_copyOut 10 = .ok (.lload 5, 2) := by decide +kernel
theorem dX10_copyOut_12 : decode cX10_copyOut 12 = .ok (.lconst 0, 1) := by decide +kernel
theorem dX10_copyOut_13 : decode cX10_copyOut 13 = .ok (.lcmp, 1) := by decide +kernel
theorem dX10_copyOut_14 : decode cX10_copyOut 14 = .ok (.ifCond .lt 15, 3) := by decide +kernel
theorem dX10_copyOut_17 : decode cX10_copyOut 17 = .ok (.lload 5, 2) := by decide +kernel
theorem dX10_copyOut_19 : decode cX10_copyOut 19 = .ok (.aload 4, 2) := by decide +kernel
theorem dX10_copyOut_21 : decode cX10_copyOut 21 = .ok (.getfield 436, 3) := by decide +kernel
theorem dX10_copyOut_24 : decode cX10_copyOut 24 = .ok (.i2l, 1) := by decide +kernel
theorem dX10_copyOut_25 : decode cX10_copyOut 25 = .ok (.lcmp, 1) := by decide +kernel
theorem dX10_copyOut_26 : decode cX10_copyOut 26 = .ok (.ifCond .lt 5, 3) := by decide +kernel
theorem dX10_copyOut_29 : decode cX10_copyOut 29 = .ok (.iconst 2, 1) := by decide +kernel
theorem dX10_copyOut_30 : decode cX10_copyOut 30 = .ok (.ireturn, 1) := by decide +kernel
theorem dX10_copyOut_31 : decode cX10_copyOut 31 = .ok (.aload 4, 2) := by decide +kernel
theorem dX10_copyOut_33 : decode cX10_copyOut 33 = .ok (.getfield 394, 3) := by decide +kernel
theorem dX10_copyOut_36 : decode cX10_copyOut 36 = .ok (.lload 5, 2) := by decide +kernel
theorem dX10_copyOut_38 : decode cX10_copyOut 38 = .ok (.l2i, 1) := by decide +kernel
theorem dX10_copyOut_39 : decode cX10_copyOut 39 = .ok (.iaload, 1) := by decide +kernel
theorem dX10_copyOut_40 : decode cX10_copyOut 40 = .ok (.istore 7, 2) := by decide +kernel
theorem dX10_copyOut_42 : decode cX10_copyOut 42 = .ok (.iload 7, 2) := by decide +kernel
theorem dX10_copyOut_44 : decode cX10_copyOut 44 = .ok (.ldc_w 393, 3) := by decide +kernel
theorem dX10_copyOut_47 : decode cX10_copyOut 47 = .ok (.if_icmp .ne 5, 3) := by decide +kernel
theorem dX10_copyOut_50 : decode cX10_copyOut 50 = .ok (.iconst 0, 1) := by decide +kernel
theorem dX10_copyOut_51 : decode cX10_copyOut 51 = .ok (.ireturn, 1) := by decide +kernel
theorem dX10_copyOut_52 : decode cX10_copyOut 52 = .ok (.iload 7, 2) := by decide +kernel
theorem dX10_copyOut_54 : decode cX10_copyOut 54 = .ok (.bipush 8, 2) := by decide +kernel
theorem dX10_copyOut_56 : decode cX10_copyOut 56 = .ok (.invokestatic 437, 3) := by decide +kernel
theorem dX10_copyOut_59 : decode cX10_copyOut 59 = .ok (.istore 8, 2) := by decide +kernel
theorem dX10_copyOut_61 : decode cX10_copyOut 61 = .ok (.iload 8, 2) := by decide +kernel
theorem dX10_copyOut_63 : decode cX10_copyOut 63 = .ok (.invokestatic 117, 3) := by decide +kernel
theorem dX10_copyOut_66 : decode cX10_copyOut 66 = .ok (.ifCond .ne 5, 3) := by decide +kernel
theorem dX10_copyOut_69 : decode cX10_copyOut 69 = .ok (.iconst 3, 1) := by decide +kernel
theorem dX10_copyOut_70 : decode cX10_copyOut 70 = .ok (.ireturn, 1) := by decide +kernel
theorem dX10_copyOut_71 : decode cX10_copyOut 71 = .ok (.aload_n 0, 1) := by decide +kernel
theorem dX10_copyOut_72 : decode cX10_copyOut 72 = .ok (.getfield 21, 3) := by decide +kernel
theorem dX10_copyOut_75 : decode cX10_copyOut 75 = .ok (.invokevirtual 91, 3) := by decide +kernel
theorem dX10_copyOut_78 : decode cX10_copyOut 78 = .ok (.bipush 90, 2) := by decide +kernel
theorem dX10_copyOut_80 : decode cX10_copyOut 80 = .ok (.if_icmp .lt 5, 3) := by decide +kernel
theorem dX10_copyOut_83 : decode cX10_copyOut 83 = .ok (.iconst 4, 1) := by decide +kernel
theorem dX10_copyOut_84 : decode cX10_copyOut 84 = .ok (.ireturn, 1) := by decide +kernel
theorem dX10_copyOut_85 : decode cX10_copyOut 85 = .ok (.aload_n 0, 1) := by decide +kernel
theorem dX10_copyOut_86 : decode cX10_copyOut 86 = .ok (.iconst 3, 1) := by decide +kernel
theorem dX10_copyOut_87 : decode cX10_copyOut 87 = .ok (.aload_n 1, 1) := by decide +kernel
theorem dX10_copyOut_88 : decode cX10_copyOut 88 = .ok (.iload_n 2, 1) := by decide +kernel
theorem dX10_copyOut_89 : decode cX10_copyOut 89 = .ok (.iload 8, 2) := by decide +kernel
theorem dX10_copyOut_91 : decode cX10_copyOut 91 = .ok (.aconst_null, 1) := by decide +kernel
theorem dX10_copyOut_92 : decode cX10_copyOut 92 = .ok (.invokevirtual 138, 3) := by decide +kernel
theorem dX10_copyOut_95 : decode cX10_copyOut 95 = .ok (.iload_n 3, 1) := by decide +kernel
theorem dX10_copyOut_96 : decode cX10_copyOut 96 = .ok (.putfield 142, 3) := by decide +kernel
theorem dX10_copyOut_99 : decode cX10_copyOut 99 = .ok (.iconst 0, 1) := by decide +kernel
theorem dX10_copyOut_100 : decode cX10_copyOut 100 = .ok (.ireturn, 1) := by decide +kernel
theorem oX10_copyOut_0 : OKI 127 0 (.aload 4, 2, [4], 0, 0, []) := And.intro dX10_copyOut_0 (And.intro rfl (rfl))
theorem oX10_copyOut_2 : OKI 127 2 (.invokevirtual 209, 5, [63, 1, 11, 0, 0, 1], 0, 0, []) := And.intro dX10_copyOut_2 (And.intro rfl (And.intro (by decide) (And.intro (by decide) (And.intro mo_X9_holdsRow (And.intro (tm_3 _ (List.mem_of_getElem? (i := 167) rfl) rfl) (And.intro (tm_3 _ (List.mem_of_getElem? (i := 168) rfl) rfl) (And.intro (tm_3 _ (List.mem_of_getElem? (i := 169) rfl) rfl) (Or.inl ⟨(RX9, TX9, 3), rfl, rfl⟩))))))))
theorem oX10_copyOut_5 : OKI 127 5 (.ifCond .ne 5, 8, [10], 0, 0, []) := And.intro dX10_copyOut_5 (And.intro rfl (by decide))
theorem oX10_copyOut_8 : OKI 127 8 (.iconst 1, 9, [], 1, 0, []) := And.intro dX10_copyOut_8 (And.intro rfl (by decide +kernel))
theorem oX10_copyOut_9 : OKI 127 9 (.ireturn, 10, [0], 0, 0, []) := And.intro dX10_copyOut_9 (Or.inl (And.intro rfl rfl))
theorem oX10_copyOut_10 : OKI 127 10 (.lload 5, 12, [5], 0, 0, []) := And.intro dX10_copyOut_10 (And.intro rfl (rfl))
theorem oX10_copyOut_12 : OKI 127 12 (.lconst 0, 13, [], 0, 0, []) := And.intro dX10_copyOut_12 (And.intro rfl (by decide +kernel))
theorem oX10_copyOut_13 : OKI 127 13 (.lcmp, 14, [], 0, 0, []) := And.intro dX10_copyOut_13 rfl
theorem oX10_copyOut_14 : OKI 127 14 (.ifCond .lt 15, 17, [29], 0, 0, []) := And.intro dX10_copyOut_14 (And.intro rfl (by decide))
theorem oX10_copyOut_17 : OKI 127 17 (.lload 5, 19, [5], 0, 0, []) := And.intro dX10_copyOut_17 (And.intro rfl (rfl))
theorem oX10_copyOut_19 : OKI 127 19 (.aload 4, 21, [4], 0, 0, []) := And.intro dX10_copyOut_19 (And.intro rfl (rfl))
theorem oX10_copyOut_21 : OKI 127 21 (.getfield 436, 24, [10, 2, 0], 0, 0, []) := And.intro dX10_copyOut_21 (And.intro rfl (⟨(RX9, TX9, 3), "SpotTimers$Tape", rfl, by decide, tm_1 _ (List.mem_of_getElem? (i := 222) rfl) rfl, Or.inl rfl, Or.inr (Or.inr (And.intro rfl (Or.inl rfl)))⟩))
theorem oX10_copyOut_24 : OKI 127 24 (.i2l, 25, [], 0, 0, []) := And.intro dX10_copyOut_24 rfl
theorem oX10_copyOut_25 : OKI 127 25 (.lcmp, 26, [], 0, 0, []) := And.intro dX10_copyOut_25 rfl
theorem oX10_copyOut_26 : OKI 127 26 (.ifCond .lt 5, 29, [31], 0, 0, []) := And.intro dX10_copyOut_26 (And.intro rfl (by decide))
theorem oX10_copyOut_29 : OKI 127 29 (.iconst 2, 30, [], 2, 0, []) := And.intro dX10_copyOut_29 (And.intro rfl (by decide +kernel))
theorem oX10_copyOut_30 : OKI 127 30 (.ireturn, 31, [0], 0, 0, []) := And.intro dX10_copyOut_30 (Or.inl (And.intro rfl rfl))
theorem oX10_copyOut_31 : OKI 127 31 (.aload 4, 33, [4], 0, 0, []) := And.intro dX10_copyOut_31 (And.intro rfl (rfl))
theorem oX10_copyOut_33 : OKI 127 33 (.getfield 394, 36, [10, 0, 2, 114, 0], 0, 0, []) := And.intro dX10_copyOut_33 (And.intro rfl (⟨(RX9, TX9, 3), "SpotTimers$Tape", rfl, by decide, tm_1 _ (List.mem_of_getElem? (i := 218) rfl) rfl, Or.inl rfl, rfl, rfl⟩))
theorem oX10_copyOut_36 : OKI 127 36 (.lload 5, 38, [5], 0, 0, []) := And.intro dX10_copyOut_36 (And.intro rfl (rfl))
theorem oX10_copyOut_38 : OKI 127 38 (.l2i, 39, [], 0, 0, []) := And.intro dX10_copyOut_38 rfl
theorem oX10_copyOut_39 : OKI 127 39 (.iaload, 40, [], 0, 0, []) := And.intro dX10_copyOut_39 rfl
theorem oX10_copyOut_40 : OKI 127 40 (.istore 7, 42, [7], 0, 0, []) := And.intro dX10_copyOut_40 (And.intro rfl (And.intro rfl (by decide)))
theorem oX10_copyOut_42 : OKI 127 42 (.iload 7, 44, [7], 0, 0, []) := And.intro dX10_copyOut_42 (And.intro rfl (rfl))
theorem oX10_copyOut_44 : OKI 127 44 (.ldc_w 393, 47, [], 999999999, 0, []) := And.intro dX10_copyOut_44 (And.intro rfl (tm_3 _ (List.mem_of_getElem? (i := 175) rfl) rfl))
theorem oX10_copyOut_47 : OKI 127 47 (.if_icmp .ne 5, 50, [52], 0, 0, []) := And.intro dX10_copyOut_47 (And.intro rfl (by decide))
theorem oX10_copyOut_50 : OKI 127 50 (.iconst 0, 51, [], 0, 0, []) := And.intro dX10_copyOut_50 (And.intro rfl (by decide +kernel))
theorem oX10_copyOut_51 : OKI 127 51 (.ireturn, 52, [0], 0, 0, []) := And.intro dX10_copyOut_51 (Or.inl (And.intro rfl rfl))
theorem oX10_copyOut_52 : OKI 127 52 (.iload 7, 54, [7], 0, 0, []) := And.intro dX10_copyOut_52 (And.intro rfl (rfl))
theorem oX10_copyOut_54 : OKI 127 54 (.bipush 8, 56, [], 8, 0, []) := And.intro dX10_copyOut_54 (And.intro rfl (by decide +kernel))
theorem oX10_copyOut_56 : OKI 127 56 (.invokestatic 437, 59, [248, 2, 0, 0, 0, 1], 0, 0, []) := And.intro dX10_copyOut_56 (And.intro rfl (And.intro rfl (And.intro mo_J9_floorDiv_7cf53 (And.intro (Or.inl (tm_3 _ (List.mem_of_getElem? (i := 176) rfl) rfl)) (tm_2 _ (List.mem_of_getElem? (i := 62) rfl) rfl)))))
theorem oX10_copyOut_59 : OKI 127 59 (.istore 8, 61, [8], 0, 0, []) := And.intro dX10_copyOut_59 (And.intro rfl (And.intro rfl (by decide)))
theorem oX10_copyOut_61 : OKI 127 61 (.iload 8, 63, [8], 0, 0, []) := And.intro dX10_copyOut_61 (And.intro rfl (rfl))
theorem oX10_copyOut_63 : OKI 127 63 (.invokestatic 117, 66, [112, 1, 0, 0, 0, 1], 0, 0, []) := And.intro dX10_copyOut_63 (And.intro rfl (And.intro rfl (And.intro mo_X10_isTime (And.intro (Or.inl (tm_2 _ (List.mem_of_getElem? (i := 210) rfl) rfl)) (tm_2 _ (List.mem_of_getElem? (i := 211) rfl) rfl)))))
theorem oX10_copyOut_66 : OKI 127 66 (.ifCond .ne 5, 69, [71], 0, 0, []) := And.intro dX10_copyOut_66 (And.intro rfl (by decide))
theorem oX10_copyOut_69 : OKI 127 69 (.iconst 3, 70, [], 3, 0, []) := And.intro dX10_copyOut_69 (And.intro rfl (by decide +kernel))
theorem oX10_copyOut_70 : OKI 127 70 (.ireturn, 71, [0], 0, 0, []) := And.intro dX10_copyOut_70 (Or.inl (And.intro rfl rfl))
theorem oX10_copyOut_71 : OKI 127 71 (.aload_n 0, 72, [0], 0, 0, []) := And.intro dX10_copyOut_71 (And.intro rfl (rfl))
theorem oX10_copyOut_72 : OKI 127 72 (.getfield 21, 75, [11, 2, 2, 0, 3], 0, 0, []) := And.intro dX10_copyOut_72 (And.intro rfl (⟨(RX10, TX10, 15), "SpotTimers", rfl, by decide, tm_1 _ (List.mem_of_getElem? (i := 232) rfl) rfl, Or.inl rfl, rfl, rfl⟩))
theorem oX10_copyOut_75 : OKI 127 75 (.invokevirtual 91, 78, [271, 1, 1, 0, 0, 1], 0, 0, []) := And.intro dX10_copyOut_75 (And.intro rfl (And.intro (by decide) (And.intro (by decide) (And.intro mo_Jx4a65c_size_8abf5 (And.intro (tm_2 _ (List.mem_of_getElem? (i := 50) rfl) rfl) (And.intro (tm_2 _ (List.mem_of_getElem? (i := 51) rfl) rfl) (And.intro (tm_2 _ (List.mem_of_getElem? (i := 52) rfl) rfl) (Or.inl ⟨(RJx4a65c, TJx4a65c, 3), rfl, rfl⟩))))))))
theorem oX10_copyOut_78 : OKI 127 78 (.bipush 90, 80, [], 90, 0, []) := And.intro dX10_copyOut_78 (And.intro rfl (by decide +kernel))
theorem oX10_copyOut_80 : OKI 127 80 (.if_icmp .lt 5, 83, [85], 0, 0, []) := And.intro dX10_copyOut_80 (And.intro rfl (by decide))
theorem oX10_copyOut_83 : OKI 127 83 (.iconst 4, 84, [], 4, 0, []) := And.intro dX10_copyOut_83 (And.intro rfl (by decide +kernel))
theorem oX10_copyOut_84 : OKI 127 84 (.ireturn, 85, [0], 0, 0, []) := And.intro dX10_copyOut_84 (Or.inl (And.intro rfl rfl))
theorem oX10_copyOut_85 : OKI 127 85 (.aload_n 0, 86, [0], 0, 0, []) := And.intro dX10_copyOut_85 (And.intro rfl (rfl))
theorem oX10_copyOut_86 : OKI 127 86 (.iconst 3, 87, [], 3, 0, []) := And.intro dX10_copyOut_86 (And.intro rfl (by decide +kernel))
theorem oX10_copyOut_87 : OKI 127 87 (.aload_n 1, 88, [1], 0, 0, []) := And.intro dX10_copyOut_87 (And.intro rfl (rfl))
theorem oX10_copyOut_88 : OKI 127 88 (.iload_n 2, 89, [2], 0, 0, []) := And.intro dX10_copyOut_88 (And.intro rfl (rfl))
theorem oX10_copyOut_89 : OKI 127 89 (.iload 8, 91, [8], 0, 0, []) := And.intro dX10_copyOut_89 (And.intro rfl (rfl))
theorem oX10_copyOut_91 : OKI 127 91 (.aconst_null, 92, [], 0, 0, []) := And.intro dX10_copyOut_91 rfl
theorem oX10_copyOut_92 : OKI 127 92 (.invokevirtual 138, 95, [124, 6, 12, 2, 211, 3], 0, 0, []) := And.intro dX10_copyOut_92 (And.intro rfl (And.intro (by decide) (And.intro (by decide) (And.intro mo_X10_tell (And.intro (tm_3 _ (List.mem_of_getElem? (i := 38) rfl) rfl) (And.intro (tm_3 _ (List.mem_of_getElem? (i := 40) rfl) rfl) (And.intro (pm_1 _ (List.mem_of_getElem? (i := 8) rfl)) (Or.inl ⟨(RX10, TX10, 15), rfl, rfl⟩))))))))
theorem oX10_copyOut_95 : OKI 127 95 (.iload_n 3, 96, [3], 0, 0, []) := And.intro dX10_copyOut_95 (And.intro rfl (rfl))
theorem oX10_copyOut_96 : OKI 127 96 (.putfield 142, 99, [5, 7, 0], 0, 0, []) := And.intro dX10_copyOut_96 (And.intro rfl (⟨(RX4, TX4, 11), "SpotTimers$Reading", rfl, by decide, tm_3 _ (List.mem_of_getElem? (i := 70) rfl) rfl, Or.inl rfl, Or.inl rfl, rfl⟩))
theorem oX10_copyOut_99 : OKI 127 99 (.iconst 0, 100, [], 0, 0, []) := And.intro dX10_copyOut_99 (And.intro rfl (by decide +kernel))
theorem oX10_copyOut_100 : OKI 127 100 (.ireturn, 101, [0], 0, 0, []) := And.intro dX10_copyOut_100 (Or.inl (And.intro rfl rfl))
def pfX10_copyOut (pc : Nat) : Option XE := (bif Nat.blt pc 51 then (bif Nat.blt pc 25 then (bif Nat.blt pc 12 then (bif Nat.blt pc 8 then (bif Nat.blt pc 2 then (bif Nat.beq pc 0 then some (.aload 4, 2, [4], 0, 0, []) else none) else (bif Nat.blt pc 5 then (bif Nat.beq pc 2 then some (.invokevirtual 209, 5, [63, 1, 11, 0, 0, 1], 0, 0, []) else none) else (bif Nat.beq pc 5 then some (.ifCond .ne 5, 8, [10], 0, 0, []) else none))) else (bif Nat.blt pc 9 then (bif Nat.beq pc 8 then some (.iconst 1, 9, [], 1, 0, []) else none) else (bif Nat.blt pc 10 then (bif Nat.beq pc 9 then some (.ireturn, 10, [0], 0, 0, []) else none) else (bif Nat.beq pc 10 then some (.lload 5, 12, [5], 0, 0, []) else none)))) else (bif Nat.blt pc 17 then (bif Nat.blt pc 13 then (bif Nat.beq pc 12 then some (.lconst 0, 13, [], 0, 0, []) else none) else (bif Nat.blt pc 14 then (bif Nat.beq pc 13 then some (.lcmp, 14, [], 0, 0, []) else none) else (bif Nat.beq pc 14 then some (.ifCond .lt 15, 17, [29], 0, 0, []) else none))) else (bif Nat.blt pc 21 then (bif Nat.blt pc 19 then (bif Nat.beq pc 17 then some (.lload 5, 19, [5], 0, 0, []) else none) else (bif Nat.beq pc 19 then some (.aload 4, 21, [4], 0, 0, []) else none)) else (bif Nat.blt pc 24 then (bif Nat.beq pc 21 then some (.getfield 436, 24, [10, 2, 0], 0, 0, []) else none) else (bif Nat.beq pc 24 then some (.i2l, 25, [], 0, 0, []) else none))))) else (bif Nat.blt pc 38 then (bif Nat.blt pc 30 then (bif Nat.blt pc 26 then (bif Nat.beq pc 25 then some (.lcmp, 26, [], 0, 0, []) else none) else (bif Nat.blt pc 29 then (bif Nat.beq pc 26 then some (.ifCond .lt 5, 29, [31], 0, 0, []) else none) else (bif Nat.beq pc 29 then some (.iconst 2, 30, [], 2, 0, []) else none))) else (bif Nat.blt pc 33 then (bif Nat.blt pc 31 then (bif Nat.beq pc 30 then some (.ireturn, 31, [0], 0, 0, []) else none) else (bif Nat.beq pc 31 then some (.aload 4, 33, [4], 0, 0, []) else none)) else (bif Nat.blt pc 36 then (bif Nat.beq pc 33 then some (.getfield 394, 36, [10, 0, 2, 114, 0], 0, 0, []) else none) else (bif Nat.beq pc 36 then some (.lload 5, 38, [5], 0, 0, []) else none)))) else (bif Nat.blt pc 42 then (bif Nat.blt pc 39 then (bif Nat.beq pc 38 then some (.l2i, 39, [], 0, 0, []) else none) else (bif Nat.blt pc 40 then (bif Nat.beq pc 39 then some (.iaload, 40, [], 0, 0, []) else none) else (bif Nat.beq pc 40 then some (.istore 7, 42, [7], 0, 0, []) else none))) else (bif Nat.blt pc 47 then (bif Nat.blt pc 44 then (bif Nat.beq pc 42 then some (.iload 7, 44, [7], 0, 0, []) else none) else (bif Nat.beq pc 44 then some (.ldc_w 393, 47, [], 999999999, 0, []) else none)) else (bif Nat.blt pc 50 then (bif Nat.beq pc 47 then some (.if_icmp .ne 5, 50, [52], 0, 0, []) else none) else (bif Nat.beq pc 50 then some (.iconst 0, 51, [], 0, 0, []) else none)))))) else (bif Nat.blt pc 80 then (bif Nat.blt pc 66 then (bif Nat.blt pc 56 then (bif Nat.blt pc 52 then (bif Nat.beq pc 51 then some (.ireturn, 52, [0], 0, 0, []) else none) else (bif Nat.blt pc 54 then (bif Nat.beq pc 52 then some (.iload 7, 54, [7], 0, 0, []) else none) else (bif Nat.beq pc 54 then some (.bipush 8, 56, [], 8, 0, []) else none))) else (bif Nat.blt pc 61 then (bif Nat.blt pc 59 then (bif Nat.beq pc 56 then some (.invokestatic 437, 59, [248, 2, 0, 0, 0, 1], 0, 0, []) else none) else (bif Nat.beq pc 59 then some (.istore 8, 61, [8], 0, 0, []) else none)) else (bif Nat.blt pc 63 then (bif Nat.beq pc 61 then some (.iload 8, 63, [8], 0, 0, []) else none) else (bif Nat.beq pc 63 then some (.invokestatic 117, 66, [112, 1, 0, 0, 0, 1], 0, 0, []) else none)))) else (bif Nat.blt pc 71 then (bif Nat.blt pc 69 then (bif Nat.beq pc 66 then some (.ifCond .ne 5, 69, [71], 0, 0, []) else none) else (bif Nat.blt pc 70 then (bif Nat.beq pc 69 then some (.iconst 3, 70, [], 3, 0, []) else none) else (bif Nat.beq pc 70 then some (.ireturn, 71, [0], 0, 0, []) else none))) else (bif Nat.blt pc 75 then (bif Nat.blt pc 72 then (bif Nat.beq pc 71 then some (.aload_n 0, 72, [0], 0, 0, []) else none) else (bif Nat.beq pc 72 then some (.getfield 21, 75, [11, 2, 2, 0, 3], 0, 0, []) else none)) else (bif Nat.blt pc 78 then (bif Nat.beq pc 75 then some (.invokevirtual 91, 78, [271, 1, 1, 0, 0, 1], 0, 0, []) else none) else (bif Nat.beq pc 78 then some (.bipush 90, 80, [], 90, 0, []) else none))))) else (bif Nat.blt pc 89 then (bif Nat.blt pc 85 then (bif Nat.blt pc 83 then (bif Nat.beq pc 80 then some (.if_icmp .lt 5, 83, [85], 0, 0, []) else none) else (bif Nat.blt pc 84 then (bif Nat.beq pc 83 then some (.iconst 4, 84, [], 4, 0, []) else none) else (bif Nat.beq pc 84 then some (.ireturn, 85, [0], 0, 0, []) else none))) else (bif Nat.blt pc 87 then (bif Nat.blt pc 86 then (bif Nat.beq pc 85 then some (.aload_n 0, 86, [0], 0, 0, []) else none) else (bif Nat.beq pc 86 then some (.iconst 3, 87, [], 3, 0, []) else none)) else (bif Nat.blt pc 88 then (bif Nat.beq pc 87 then some (.aload_n 1, 88, [1], 0, 0, []) else none) else (bif Nat.beq pc 88 then some (.iload_n 2, 89, [2], 0, 0, []) else none)))) else (bif Nat.blt pc 95 then (bif Nat.blt pc 91 then (bif Nat.beq pc 89 then some (.iload 8, 91, [8], 0, 0, []) else none) else (bif Nat.blt pc 92 then (bif Nat.beq pc 91 then some (.aconst_null, 92, [], 0, 0, []) else none) else (bif Nat.beq pc 92 then some (.invokevirtual 138, 95, [124, 6, 12, 2, 211, 3], 0, 0, []) else none))) else (bif Nat.blt pc 99 then (bif Nat.blt pc 96 then (bif Nat.beq pc 95 then some (.iload_n 3, 96, [3], 0, 0, []) else none) else (bif Nat.beq pc 96 then some (.putfield 142, 99, [5, 7, 0], 0, 0, []) else none)) else (bif Nat.blt pc 100 then (bif Nat.beq pc 99 then some (.iconst 0, 100, [], 0, 0, []) else none) else (bif Nat.beq pc 100 then some (.ireturn, 101, [0], 0, 0, []) else none)))))))
theorem okX10_copyOut : ∀ pc Y, pfX10_copyOut pc = some Y → OKI m_X10_copyOut pc Y := fun pc Y => ((bt_node (bt_node (bt_node (bt_node (bt_node (bt_leaf (P := OKI m_X10_copyOut) oX10_copyOut_0) (bt_node (bt_leaf (P := OKI m_X10_copyOut) oX10_copyOut_2) (bt_leaf (P := OKI m_X10_copyOut) oX10_copyOut_5))) (bt_node (bt_leaf (P := OKI m_X10_copyOut) oX10_copyOut_8) (bt_node (bt_leaf (P := OKI m_X10_copyOut) oX10_copyOut_9) (bt_leaf (P := OKI m_X10_copyOut) oX10_copyOut_10)))) (bt_node (bt_node (bt_leaf (P := OKI m_X10_copyOut) oX10_copyOut_12) (bt_node (bt_leaf (P := OKI m_X10_copyOut) oX10_copyOut_13) (bt_leaf (P := OKI m_X10_copyOut) oX10_copyOut_14))) (bt_node (bt_node (bt_leaf (P := OKI m_X10_copyOut) oX10_copyOut_17) (bt_leaf (P := OKI m_X10_copyOut) oX10_copyOut_19)) (bt_node (bt_leaf (P := OKI m_X10_copyOut) oX10_copyOut_21) (bt_leaf (P := OKI m_X10_copyOut) oX10_copyOut_24))))) (bt_node (bt_node (bt_node (bt_leaf (P := OKI m_X10_copyOut) oX10_copyOut_25) (bt_node (bt_leaf (P := OKI m_X10_copyOut) oX10_copyOut_26) (bt_leaf (P := OKI m_X10_copyOut) oX10_copyOut_29))) (bt_node (bt_node (bt_leaf (P := OKI m_X10_copyOut) oX10_copyOut_30) (bt_leaf (P := OKI m_X10_copyOut) oX10_copyOut_31)) (bt_node (bt_leaf (P := OKI m_X10_copyOut) oX10_copyOut_33) (bt_leaf (P := OKI m_X10_copyOut) oX10_copyOut_36)))) (bt_node (bt_node (bt_leaf (P := OKI m_X10_copyOut) oX10_copyOut_38) (bt_node (bt_leaf (P := OKI m_X10_copyOut) oX10_copyOut_39) (bt_leaf (P := OKI m_X10_copyOut) oX10_copyOut_40))) (bt_node (bt_node (bt_leaf (P := OKI m_X10_copyOut) oX10_copyOut_42) (bt_leaf (P := OKI m_X10_copyOut) oX10_copyOut_44)) (bt_node (bt_leaf (P := OKI m_X10_copyOut) oX10_copyOut_47) (bt_leaf (P := OKI m_X10_copyOut) oX10_copyOut_50)))))) (bt_node (bt_node (bt_node (bt_node (bt_leaf (P := OKI m_X10_copyOut) oX10_copyOut_51) (bt_node (bt_leaf (P := OKI m_X10_copyOut) oX10_copyOut_52) (bt_leaf (P := OKI m_X10_copyOut) oX10_copyOut_54))) (bt_node (bt_node (bt_leaf (P := OKI m_X10_copyOut) oX10_copyOut_56) (bt_leaf (P := OKI m_X10_copyOut) oX10_copyOut_59)) (bt_node (bt_leaf (P := OKI m_X10_copyOut) oX10_copyOut_61) (bt_leaf (P := OKI m_X10_copyOut) oX10_copyOut_63)))) (bt_node (bt_node (bt_leaf (P := OKI m_X10_copyOut) oX10_copyOut_66) (bt_node (bt_leaf (P := OKI m_X10_copyOut) oX10_copyOut_69) (bt_leaf (P := OKI m_X10_copyOut) oX10_copyOut_70))) (bt_node (bt_node (bt_leaf (P := OKI m_X10_copyOut) oX10_copyOut_71) (bt_leaf (P := OKI m_X10_copyOut) oX10_copyOut_72)) (bt_node (bt_leaf (P := OKI m_X10_copyOut) oX10_copyOut_75) (bt_leaf (P := OKI m_X10_copyOut) oX10_copyOut_78))))) (bt_node (bt_node (bt_node (bt_leaf (P := OKI m_X10_copyOut) oX10_copyOut_80) (bt_node (bt_leaf (P := OKI m_X10_copyOut) oX10_copyOut_83) (bt_leaf (P := OKI m_X10_copyOut) oX10_copyOut_84))) (bt_node (bt_node (bt_leaf (P := OKI m_X10_copyOut) oX10_copyOut_85) (bt_leaf (P := OKI m_X10_copyOut) oX10_copyOut_86)) (bt_node (bt_leaf (P := OKI m_X10_copyOut) oX10_copyOut_87) (bt_leaf (P := OKI m_X10_copyOut) oX10_copyOut_88)))) (bt_node (bt_node (bt_leaf (P := OKI m_X10_copyOut) oX10_copyOut_89) (bt_node (bt_leaf (P := OKI m_X10_copyOut) oX10_copyOut_91) (bt_leaf (P := OKI m_X10_copyOut) oX10_copyOut_92))) (bt_node (bt_node (bt_leaf (P := OKI m_X10_copyOut) oX10_copyOut_95) (bt_leaf (P := OKI m_X10_copyOut) oX10_copyOut_96)) (bt_node (bt_leaf (P := OKI m_X10_copyOut) oX10_copyOut_99) (bt_leaf (P := OKI m_X10_copyOut) oX10_copyOut_100))))))) : pfX10_copyOut pc = some Y → OKI m_X10_copyOut pc Y)
def stpX10_copyOut (pc : Nat) : Option (List Bool) := (bif Nat.blt pc 99 then (bif Nat.beq pc 29 then some [false, false, false, false, false, false, false, false, false] else none) else (bif Nat.beq pc 99 then some [false, false, false, false, false, false, false, false, false] else none))
def bX10_copyOut_0 (d rc rs : Nat) (a1 : Option XO) (a2 : Int32) (a3 : Int32) (a4 : Option XO) (a5 : Int64) (σ : XH) (Q : XV → XH → Prop) : Prop :=
  (drf a4 10 fun i15 => (1 ≤ d ∧ Ec (d - 1) 0 0 m_X9_holdsRow [vR (some (10, i15))] σ (kI fun x2 h1 => ((x2 = 0 → Q (vI 1) h1) ∧ (¬ x2 = 0 → (((lg_cmp a5 0) < 0 → Ex d rc rs m_X10_copyOut 29 [vU, vU, vU, vU, vU, vU, vU, vU, vU] [] h1 Q) ∧ (¬ (lg_cmp a5 0) < 0 → (drf a4 10 fun i3 => (((lg_cmp a5 ((hi h1 10 i3 2).toInt64)) < 0 → (drf a4 10 fun i4 => (hr h1 10 i4 0 = some (114, i4) ∧ ((vp_in a5.toInt32 (hn h1 114 i4) ∧ (((hi h1 114 i4 a5.toInt32.toNatClampNeg) = 999999999 → Q (vI 0) h1) ∧ (¬ (hi h1 114 i4 a5.toInt32.toNatClampNeg) = 999999999 → (1 ≤ d ∧ Ec (d - 1) 0 0 m_J9_floorDiv_7cf53 [vI (hi h1 114 i4 a5.toInt32.toNatClampNeg), vI 8] h1 (kI fun x6 h5 => (1 ≤ d ∧ Ec (d - 1) 0 0 m_X10_isTime [vI x6] h5 (kI fun x8 h7 => ((x8 = 0 → Q (vI 3) h7) ∧ (¬ x8 = 0 → ((hr h7 11 0 2 = some (0, 2) ∧ ((1 ≤ d ∧ Ec (d - 1) 0 0 m_Jx4a65c_size_8abf5 [vR (some (0, 2))] h7 (kI fun x10 h9 => ((x10 < 90 → ((1 ≤ d ∧ 2 ≤ rc ∧ 211 ≤ rs ∧ Ec (d - 1) 2 211 m_X10_tell [vR (some (11, 0)), vI 3, vR a1, vI a2, vI x6, vR none] h9 (kR fun x12 h11 => (drf x12 5 fun i13 => (∀ h14, h14 = wI h11 5 i13 7 a3 → Ex d (rc - 2) (rs - 211) m_X10_copyOut 99 [vU, vU, vU, vU, vU, vU, vU, vU, vU] [] h14 Q)))))) ∧ (¬ x10 < 90 → Q (vI 4) h9)))))))))))))))))))) ∧ (¬ (lg_cmp a5 ((hi h1 10 i3 2).toInt64)) < 0 → Ex d rc rs m_X10_copyOut 29 [vU, vU, vU, vU, vU, vU, vU, vU, vU] [] h1 Q))))))))))
set_option maxRecDepth 40000 in
set_option maxHeartbeats 4000000 in
theorem sX10_copyOut_0 {d rc rs : Nat} {a1 : Option XO} {a2 : Int32} {a3 : Int32} {a4 : Option XO} {a5 : Int64} {σ : XH} {Q : XV → XH → Prop} (h : bX10_copyOut_0 d rc rs a1 a2 a3 a4 a5 σ Q) : Ex d rc rs m_X10_copyOut 0 [vR (some (11, 0)), vR a1, vI a2, vI a3, vR a4, vL a5, vU, vU, vU] [] σ Q :=
  xtree_sound (stop := stpX10_copyOut) okX10_copyOut 45 _ _ _ _ _ _ h
def bX10_copyOut_29 (d rc rs : Nat)  (σ : XH) (Q : XV → XH → Prop) : Prop :=
  Q (vI 2) σ
theorem sX10_copyOut_29 {d rc rs : Nat}  {σ : XH} {Q : XV → XH → Prop} (h : bX10_copyOut_29 d rc rs  σ Q) : Ex d rc rs m_X10_copyOut 29 [vU, vU, vU, vU, vU, vU, vU, vU, vU] [] σ Q :=
  xtree_sound (stop := stpX10_copyOut) okX10_copyOut 4 _ _ _ _ _ _ h
def bX10_copyOut_99 (d rc rs : Nat)  (σ : XH) (Q : XV → XH → Prop) : Prop :=
  Q (vI 0) σ
theorem sX10_copyOut_99 {d rc rs : Nat}  {σ : XH} {Q : XV → XH → Prop} (h : bX10_copyOut_99 d rc rs  σ Q) : Ex d rc rs m_X10_copyOut 99 [vU, vU, vU, vU, vU, vU, vU, vU, vU] [] σ Q :=
  xtree_sound (stop := stpX10_copyOut) okX10_copyOut 4 _ _ _ _ _ _ h
