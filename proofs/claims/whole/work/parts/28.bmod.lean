/-! ===== blocks: 28.bmod ===== -/
/-! SpotTimersModel.shift(IIIII)I -/
theorem dX11_shift_0 : decode cX11_shift 0 = .ok (.aload_n 0, 1) := by decide +kernel
theorem dX11_shift_1 : decode cX11_shift 1 = .ok (.iload_n 1, 1) := by decide +kernel
theorem dX11_shift_2 : decode cX11_shift 2 = .ok (.invokevirtual 295, 3) := by decide +kernel
theorem dX11_shift_5 : decode cX11_shift 5 = .ok (.ifCond .eq 11, 3) := by decide +kernel
theorem dX11_shift_8 : decode cX11_shift 8 = .ok (.aload_n 0, 1) := by decide +kernel
theorem dX11_shift_9 : decode cX11_shift 9 = .ok (.iload_n 3, 1) := by decide +kernel
theorem dX11_shift_10 : decode cX11_shift 10 = .ok (.invokevirtual 295, 3) := by decide +kernel
theorem dX11_shift_13 : decode cX11_shift 13 = .ok (.ifCond .ne 5, 3) := by decide +kernel
theorem dX11_shift_16 : decode cX11_shift 16 = .ok (.iconst (-1), 1) := by decide +kernel
theorem dX11_shift_17 : decode cX11_shift 17 = .ok (.ireturn, 1) := by decide +kernel
theorem dX11_shift_18 : decode cX11_shift 18 = .ok (.aload_n 0, 1) := by decide +kernel
theorem dX11_shift_19 : decode cX11_shift 19 = .ok (.getfield 209, 3) := by decide +kernel
theorem dX11_shift_22 : decode cX11_shift 22 = .ok (.iload_n 1, 1) := by decide +kernel
theorem dX11_shift_23 : decode cX11_shift 23 = .ok (.iaload, 1) := by decide +kernel
theorem dX11_shift_24 : decode cX11_shift 24 = .ok (.ifCond .lt 12, 3) := by decide +kernel
theorem dX11_shift_27 : decode cX11_shift 27 = .ok (.aload_n 0, 1) := by decide +kernel
theorem dX11_shift_28 : decode cX11_shift 28 = .ok (.getfield 209, 3) := by decide +kernel
theorem dX11_shift_31 : decode cX11_shift 31 = .ok (.iload_n 3, 1) := by decide +kernel
theorem dX11_shift_32 : decode cX11_shift 32 = .ok (.iaload, 1) := by decide +kernel
theorem dX11_shift_33 : decode cX11_shift 33 = .ok (.ifCond .ge 6, 3) := by decide +kernel
theorem dX11_shift_36 : decode cX11_shift 36 = .ok (.bipush (-11), 2) := by decide +kernel
theorem dX11_shift_38 : decode cX11_shift 38 = .ok (.ireturn, 1) := by decide +kernel
theorem dX11_shift_39 : decode cX11_shift 39 = .ok (.aload_n 0, 1) := by decide +kernel
theorem dX11_shift_40 : decode cX11_shift 40 = .ok (.getfield 209, 3) := by decide +kernel
theorem dX11_shift_43 : decode cX11_shift 43 = .ok (.iload_n 1, 1) := by decide +kernel
theorem dX11_shift_44 : decode cX11_shift 44 = .ok (.iaload, 1) := by decide +kernel
theorem dX11_shift_45 : decode cX11_shift 45 = .ok (.aload_n 0, 1) := by decide +kernel
theorem dX11_shift_46 : decode cX11_shift 46 = .ok (.getfield 209, 3) := by decide +kernel
theorem dX11_shift_49 : decode cX11_shift 49 = .ok (.iload_n 3, 1) := by decide +kernel
theorem dX11_shift_50 : decode cX11_shift 50 = .ok (.iaload, 1) := by decide +kernel
theorem dX11_shift_51 : decode cX11_shift 51 = .ok (.if_icmp .eq 6, 3) := by decide +kernel
theorem dX11_shift_54 : decode cX11_shift 54 = .ok (.bipush (-12), 2) := by decide +kernel
theorem dX11_shift_56 : decode cX11_shift 56 = .ok (.ireturn, 1) := by decide +kernel
theorem dX11_shift_57 : decode cX11_shift 57 = .ok (.iload 5, 2) := by decide +kernel
theorem dX11_shift_59 : decode cX11_shift 59 = .ok (.ifCond .lt 39, 3) := by decide +kernel
theorem dX11_shift_62 : decode cX11_shift 62 = .ok (.iload_n 2, 1) := by decide +kernel
theorem dX11_shift_63 : decode cX11_shift 63 = .ok (.ifCond .lt 35, 3) := by decide +kernel
theorem dX11_shift_66 : decode cX11_shift 66 = .ok (.iload 4, 2) := by decide +kernel
theorem dX11_shift_68 : decode cX11_shift 68 = .ok (.ifCond .lt 30, 3) := by decide +kernel
theorem dX11_shift_71 : decode cX11_shift 71 = .ok (.iload_n 2, 1) := by decide +kernel
theorem dX11_shift_72 : decode cX11_shift 72 = .ok (.aload_n 0, 1) := by decide +kernel
theorem dX11_shift_73 : decode cX11_shift 73 = .ok (.getfield 212, 3) := by decide +kernel
theorem dX11_shift_76 : decode cX11_shift 76 = .ok (.iload_n 1, 1) := by decide +kernel
theorem dX11_shift_77 : decode cX11_shift 77 = .ok (.iaload, 1) := by decide +kernel
theorem dX11_shift_78 : decode cX11_shift 78 = .ok (.iload 5, 2) := by decide +kernel
theorem dX11_shift_80 : decode cX11_shift 80 = .ok (.isub, 1) := by decide +kernel
theorem dX11_shift_81 : decode cX11_shift 81 = .ok (.if_icmp .gt 17, 3) := by decide +kernel
theorem dX11_shift_84 : decode cX11_shift 84 = .ok (.iload 4, 2) := by decide +kernel
theorem dX11_shift_86 : decode cX11_shift 86 = .ok (.aload_n 0, 1) := by decide +kernel
theorem dX11_shift_87 : decode cX11_shift 87 = .ok (.getfield 212, 3) := by decide +kernel
theorem dX11_shift_90 : decode cX11_shift 90 = .ok (.iload_n 3, 1) := by decide +kernel
theorem dX11_shift_91 : decode cX11_shift 91 = .ok (.iaload, 1) := by decide +kernel
theorem dX11_shift_92 : decode cX11_shift 92 = .ok (.iload 5, 2) := by decide +kernel
theorem dX11_shift_94 : decode cX11_shift 94 = .ok (.isub, 1) := by decide +kernel
theorem dX11_shift_95 : decode cX11_shift 95 = .ok (.if_icmp .le 6, 3) := by decide +kernel
theorem dX11_shift_98 : decode cX11_shift 98 = .ok (.bipush (-13), 2) := by decide +kernel
theorem dX11_shift_100 : decode cX11_shift 100 = .ok (.ireturn, 1) := by decide +kernel
theorem dX11_shift_101 : decode cX11_shift 101 = .ok (.iconst 0, 1) := by decide +kernel
theorem dX11_shift_102 : decode cX11_shift 102 = .ok (.istore 6, 2) := by decide +kernel
theorem dX11_shift_104 : decode cX11_shift 104 = .ok (.iload 6, 2) := by decide +kernel
theorem dX11_shift_106 : decode cX11_shift 106 = .ok (.iload 5, 2) := by decide +kernel
theorem dX11_shift_108 : decode cX11_shift 108 = .ok (.if_icmp .ge 30, 3) := by decide +kernel
theorem dX11_shift_111 : decode cX11_shift 111 = .ok (.aload_n 0, 1) := by decide +kernel
theorem dX11_shift_112 : decode cX11_shift 112 = .ok (.getfield 218, 3) := by decide +kernel
theorem dX11_shift_115 : decode cX11_shift 115 = .ok (.iload 6, 2) := by decide +kernel
theorem dX11_shift_117 : decode cX11_shift 117 = .ok (.aload_n 0, 1) := by decide +kernel
theorem dX11_shift_118 : decode cX11_shift 118 = .ok (.getfield 215, 3) := by decide +kernel
theorem dX11_shift_121 : decode cX11_shift 121 = .ok (.bipush 60, 2) := by decide +kernel
theorem dX11_shift_123 : decode cX11_shift 123 = .ok (.iload_n 1, 1) := by decide +kernel
theorem dX11_shift_124 : decode cX11_shift 124 = .ok (.imul, 1) := by decide +kernel
theorem dX11_shift_125 : decode cX11_shift 125 = .ok (.iload_n 2, 1) := by decide +kernel
theorem dX11_shift_126 : decode cX11_shift 126 = .ok (.iadd, 1) := by decide +kernel
theorem dX11_shift_127 : decode cX11_shift 127 = .ok (.iload 6, 2) := by decide +kernel
theorem dX11_shift_129 : decode cX11_shift 129 = .ok (.iadd, 1) := by decide +kernel
theorem dX11_shift_130 : decode cX11_shift 130 = .ok (.iaload, 1) := by decide +kernel
theorem dX11_shift_131 : decode cX11_shift 131 = .ok (.iastore, 1) := by decide +kernel
theorem dX11_shift_132 : decode cX11_shift 132 = .ok (.iinc 6 1, 3) := by decide +kernel
theorem dX11_shift_135 : decode cX11_shift 135 = .ok (.goto (-31), 3) := by decide +kernel
theorem dX11_shift_138 : decode cX11_shift 138 = .ok (.iconst 0, 1) := by decide +kernel
theorem dX11_shift_139 : decode cX11_shift 139 = .ok (.istore 6, 2) := by decide +kernel
theorem dX11_shift_141 : decode cX11_shift 141 = .ok (.iload 6, 2) := by decide +kernel
theorem dX11_shift_143 : decode cX11_shift 143 = .ok (.iload 5, 2) := by decide +kernel
theorem dX11_shift_145 : decode cX11_shift 145 = .ok (.if_icmp .ge 31, 3) := by decide +kernel
theorem dX11_shift_148 : decode cX11_shift 148 = .ok (.aload_n 0, 1) := by decide +kernel
theorem dX11_shift_149 : decode cX11_shift 149 = .ok (.getfield 215, 3) := by decide +kernel
theorem dX11_shift_152 : decode cX11_shift 152 = .ok (.bipush 60, 2) := by decide +kernel
theorem dX11_shift_154 : decode cX11_shift 154 = .ok (.iload_n 3, 1) := by decide +kernel
theorem dX11_shift_155 : decode cX11_shift 155 = .ok (.imul, 1) := by decide +kernel
theorem dX11_shift_156 : decode cX11_shift 156 = .ok (.iload 4, 2) := by decide +kernel
theorem dX11_shift_158 : decode cX11_shift 158 = .ok (.iadd, 1) := by decide +kernel
theorem dX11_shift_159 : decode cX11_shift 159 = .ok (.iload 6, 2) := by decide +kernel
theorem dX11_shift_161 : decode cX11_shift 161 = .ok (.iadd, 1) := by decide +kernel
theorem dX11_shift_162 : decode cX11_shift 162 = .ok (.aload_n 0, 1) := by decide +kernel
theorem dX11_shift_163 : decode cX11_shift 163 = .ok (.getfield 218, 3) := by decide +kernel
theorem dX11_shift_166 : decode cX11_shift 166 = .ok (.iload 6, 2) := by decide +kernel
theorem dX11_shift_168 : decode cX11_shift 168 = .ok (.iaload, 1) := by decide +kernel
theorem dX11_shift_169 : decode cX11_shift 169 = .ok (.iastore, 1) := by decide +kernel
theorem dX11_shift_170 : decode cX11_shift 170 = .ok (.iinc 6 1, 3) := by decide +kernel
theorem dX11_shift_173 : decode cX11_shift 173 = .ok (.goto (-32), 3) := by decide +kernel
theorem dX11_shift_176 : decode cX11_shift 176 = .ok (.iload 5, 2) := by decide +kernel
theorem dX11_shift_178 : decode cX11_shift 178 = .ok (.ireturn, 1) := by decide +kernel
theorem oX11_shift_0 : OKI 246 0 (.aload_n 0, 1, [0], 0, 0, []) := And.intro dX11_shift_0 (And.intro rfl (rfl))
theorem oX11_shift_1 : OKI 246 1 (.iload_n 1, 2, [1], 0, 0, []) := And.intro dX11_shift_1 (And.intro rfl (rfl))
theorem oX11_shift_2 : OKI 246 2 (.invokevirtual 295, 5, [241, 2, 13, 0, 0, 1], 0, 0, []) := And.intro dX11_shift_2 (And.intro rfl (And.intro (by decide) (And.intro (by decide) (And.intro mo_X11_isTape (And.intro (tm_7 _ (List.mem_of_getElem? (i := 74) rfl) rfl) (And.intro (tm_7 _ (List.mem_of_getElem? (i := 76) rfl) rfl) (And.intro (pm_4 _ (List.mem_of_getElem? (i := 11) rfl)) (Or.inl ⟨(RX11, TX11, 69), rfl, rfl⟩))))))))
theorem oX11_shift_5 : OKI 246 5 (.ifCond .eq 11, 8, [16], 0, 0, []) := And.intro dX11_shift_5 (And.intro rfl (by decide))
theorem oX11_shift_8 : OKI 246 8 (.aload_n 0, 9, [0], 0, 0, []) := And.intro dX11_shift_8 (And.intro rfl (rfl))
theorem oX11_shift_9 : OKI 246 9 (.iload_n 3, 10, [3], 0, 0, []) := And.intro dX11_shift_9 (And.intro rfl (rfl))
theorem oX11_shift_10 : OKI 246 10 (.invokevirtual 295, 13, [241, 2, 13, 0, 0, 1], 0, 0, []) := And.intro dX11_shift_10 (And.intro rfl (And.intro (by decide) (And.intro (by decide) (And.intro mo_X11_isTape (And.intro (tm_7 _ (List.mem_of_getElem? (i := 74) rfl) rfl) (And.intro (tm_7 _ (List.mem_of_getElem? (i := 76) rfl) rfl) (And.intro (pm_4 _ (List.mem_of_getElem? (i := 11) rfl)) (Or.inl ⟨(RX11, TX11, 69), rfl, rfl⟩))))))))
theorem oX11_shift_13 : OKI 246 13 (.ifCond .ne 5, 16, [18], 0, 0, []) := And.intro dX11_shift_13 (And.intro rfl (by decide))
theorem oX11_shift_16 : OKI 246 16 (.iconst (-1), 17, [], (-1), 0, []) := And.intro dX11_shift_16 (And.intro rfl (by decide +kernel))
theorem oX11_shift_17 : OKI 246 17 (.ireturn, 18, [0], 0, 0, []) := And.intro dX11_shift_17 (Or.inl (And.intro rfl rfl))
theorem oX11_shift_18 : OKI 246 18 (.aload_n 0, 19, [0], 0, 0, []) := And.intro dX11_shift_18 (And.intro rfl (rfl))
theorem oX11_shift_19 : OKI 246 19 (.getfield 209, 22, [12, 65, 2, 151, 0], 0, 0, []) := And.intro dX11_shift_19 (And.intro rfl (⟨(RX11, TX11, 69), "SpotTimersModel", rfl, by decide, tm_6 _ (List.mem_of_getElem? (i := 31) rfl) rfl, Or.inl rfl, rfl, rfl⟩))
theorem oX11_shift_22 : OKI 246 22 (.iload_n 1, 23, [1], 0, 0, []) := And.intro dX11_shift_22 (And.intro rfl (rfl))
theorem oX11_shift_23 : OKI 246 23 (.iaload, 24, [], 0, 0, []) := And.intro dX11_shift_23 rfl
theorem oX11_shift_24 : OKI 246 24 (.ifCond .lt 12, 27, [36], 0, 0, []) := And.intro dX11_shift_24 (And.intro rfl (by decide))
theorem oX11_shift_27 : OKI 246 27 (.aload_n 0, 28, [0], 0, 0, []) := And.intro dX11_shift_27 (And.intro rfl (rfl))
theorem oX11_shift_28 : OKI 246 28 (.getfield 209, 31, [12, 65, 2, 151, 0], 0, 0, []) := And.intro dX11_shift_28 (And.intro rfl (⟨(RX11, TX11, 69), "SpotTimersModel", rfl, by decide, tm_6 _ (List.mem_of_getElem? (i := 31) rfl) rfl, Or.inl rfl, rfl, rfl⟩))
theorem oX11_shift_31 : OKI 246 31 (.iload_n 3, 32, [3], 0, 0, []) := And.intro dX11_shift_31 (And.intro rfl (rfl))
theorem oX11_shift_32 : OKI 246 32 (.iaload, 33, [], 0, 0, []) := And.intro dX11_shift_32 rfl
theorem oX11_shift_33 : OKI 246 33 (.ifCond .ge 6, 36, [39], 0, 0, []) := And.intro dX11_shift_33 (And.intro rfl (by decide))
theorem oX11_shift_36 : OKI 246 36 (.bipush (-11), 38, [], (-11), 0, []) := And.intro dX11_shift_36 (And.intro rfl (by decide +kernel))
theorem oX11_shift_38 : OKI 246 38 (.ireturn, 39, [0], 0, 0, []) := And.intro dX11_shift_38 (Or.inl (And.intro rfl rfl))
theorem oX11_shift_39 : OKI 246 39 (.aload_n 0, 40, [0], 0, 0, []) := And.intro dX11_shift_39 (And.intro rfl (rfl))
theorem oX11_shift_40 : OKI 246 40 (.getfield 209, 43, [12, 65, 2, 151, 0], 0, 0, []) := And.intro dX11_shift_40 (And.intro rfl (⟨(RX11, TX11, 69), "SpotTimersModel", rfl, by decide, tm_6 _ (List.mem_of_getElem? (i := 31) rfl) rfl, Or.inl rfl, rfl, rfl⟩))
theorem oX11_shift_43 : OKI 246 43 (.iload_n 1, 44, [1], 0, 0, []) := And.intro dX11_shift_43 (And.intro rfl (rfl))
theorem oX11_shift_44 : OKI 246 44 (.iaload, 45, [], 0, 0, []) := And.intro dX11_shift_44 rfl
theorem oX11_shift_45 : OKI 246 45 (.aload_n 0, 46, [0], 0, 0, []) := And.intro dX11_shift_45 (And.intro rfl (rfl))
theorem oX11_shift_46 : OKI 246 46 (.getfield 209, 49, [12, 65, 2, 151, 0], 0, 0, []) := And.intro dX11_shift_46 (And.intro rfl (⟨(RX11, TX11, 69), "SpotTimersModel", rfl, by decide, tm_6 _ (List.mem_of_getElem? (i := 31) rfl) rfl, Or.inl rfl, rfl, rfl⟩))
theorem oX11_shift_49 : OKI 246 49 (.iload_n 3, 50, [3], 0, 0, []) := And.intro dX11_shift_49 (And.intro rfl (rfl))
theorem oX11_shift_50 : OKI 246 50 (.iaload, 51, [], 0, 0, []) := And.intro dX11_shift_50 rfl
theorem oX11_shift_51 : OKI 246 51 (.if_icmp .eq 6, 54, [57], 0, 0, []) := And.intro dX11_shift_51 (And.intro rfl (by decide))
theorem oX11_shift_54 : OKI 246 54 (.bipush (-12), 56, [], (-12), 0, []) := And.intro dX11_shift_54 (And.intro rfl (by decide +kernel))
theorem oX11_shift_56 : OKI 246 56 (.ireturn, 57, [0], 0, 0, []) := And.intro dX11_shift_56 (Or.inl (And.intro rfl rfl))
theorem oX11_shift_57 : OKI 246 57 (.iload 5, 59, [5], 0, 0, []) := And.intro dX11_shift_57 (And.intro rfl (rfl))
theorem oX11_shift_59 : OKI 246 59 (.ifCond .lt 39, 62, [98], 0, 0, []) := And.intro dX11_shift_59 (And.intro rfl (by decide))
theorem oX11_shift_62 : OKI 246 62 (.iload_n 2, 63, [2], 0, 0, []) := And.intro dX11_shift_62 (And.intro rfl (rfl))
theorem oX11_shift_63 : OKI 246 63 (.ifCond .lt 35, 66, [98], 0, 0, []) := And.intro dX11_shift_63 (And.intro rfl (by decide))
theorem oX11_shift_66 : OKI 246 66 (.iload 4, 68, [4], 0, 0, []) := And.intro dX11_shift_66 (And.intro rfl (rfl))
theorem oX11_shift_68 : OKI 246 68 (.ifCond .lt 30, 71, [98], 0, 0, []) := And.intro dX11_shift_68 (And.intro rfl (by decide))
theorem oX11_shift_71 : OKI 246 71 (.iload_n 2, 72, [2], 0, 0, []) := And.intro dX11_shift_71 (And.intro rfl (rfl))
theorem oX11_shift_72 : OKI 246 72 (.aload_n 0, 73, [0], 0, 0, []) := And.intro dX11_shift_72 (And.intro rfl (rfl))
theorem oX11_shift_73 : OKI 246 73 (.getfield 212, 76, [12, 66, 2, 152, 0], 0, 0, []) := And.intro dX11_shift_73 (And.intro rfl (⟨(RX11, TX11, 69), "SpotTimersModel", rfl, by decide, tm_6 _ (List.mem_of_getElem? (i := 32) rfl) rfl, Or.inl rfl, rfl, rfl⟩))
theorem oX11_shift_76 : OKI 246 76 (.iload_n 1, 77, [1], 0, 0, []) := And.intro dX11_shift_76 (And.intro rfl (rfl))
theorem oX11_shift_77 : OKI 246 77 (.iaload, 78, [], 0, 0, []) := And.intro dX11_shift_77 rfl
theorem oX11_shift_78 : OKI 246 78 (.iload 5, 80, [5], 0, 0, []) := And.intro dX11_shift_78 (And.intro rfl (rfl))
theorem oX11_shift_80 : OKI 246 80 (.isub, 81, [], 0, 0, []) := And.intro dX11_shift_80 rfl
theorem oX11_shift_81 : OKI 246 81 (.if_icmp .gt 17, 84, [98], 0, 0, []) := And.intro dX11_shift_81 (And.intro rfl (by decide))
theorem oX11_shift_84 : OKI 246 84 (.iload 4, 86, [4], 0, 0, []) := And.intro dX11_shift_84 (And.intro rfl (rfl))
theorem oX11_shift_86 : OKI 246 86 (.aload_n 0, 87, [0], 0, 0, []) := And.intro dX11_shift_86 (And.intro rfl (rfl))
theorem oX11_shift_87 : OKI 246 87 (.getfield 212, 90, [12, 66, 2, 152, 0], 0, 0, []) := And.intro dX11_shift_87 (And.intro rfl (⟨(RX11, TX11, 69), "SpotTimersModel", rfl, by decide, tm_6 _ (List.mem_of_getElem? (i := 32) rfl) rfl, Or.inl rfl, rfl, rfl⟩))
theorem oX11_shift_90 : OKI 246 90 (.iload_n 3, 91, [3], 0, 0, []) := And.intro dX11_shift_90 (And.intro rfl (rfl))
theorem oX11_shift_91 : OKI 246 91 (.iaload, 92, [], 0, 0, []) := And.intro dX11_shift_91 rfl
theorem oX11_shift_92 : OKI 246 92 (.iload 5, 94, [5], 0, 0, []) := And.intro dX11_shift_92 (And.intro rfl (rfl))
theorem oX11_shift_94 : OKI 246 94 (.isub, 95, [], 0, 0, []) := And.intro dX11_shift_94 rfl
theorem oX11_shift_95 : OKI 246 95 (.if_icmp .le 6, 98, [101], 0, 0, []) := And.intro dX11_shift_95 (And.intro rfl (by decide))
theorem oX11_shift_98 : OKI 246 98 (.bipush (-13), 100, [], (-13), 0, []) := And.intro dX11_shift_98 (And.intro rfl (by decide +kernel))
theorem oX11_shift_100 : OKI 246 100 (.ireturn, 101, [0], 0, 0, []) := And.intro dX11_shift_100 (Or.inl (And.intro rfl rfl))
theorem oX11_shift_101 : OKI 246 101 (.iconst 0, 102, [], 0, 0, []) := And.intro dX11_shift_101 (And.intro rfl (by decide +kernel))
theorem oX11_shift_102 : OKI 246 102 (.istore 6, 104, [6], 0, 0, []) := And.intro dX11_shift_102 (And.intro rfl (And.intro rfl (by decide)))
theorem oX11_shift_104 : OKI 246 104 (.iload 6, 106, [6], 0, 0, []) := And.intro dX11_shift_104 (And.intro rfl (rfl))
theorem oX11_shift_106 : OKI 246 106 (.iload 5, 108, [5], 0, 0, []) := And.intro dX11_shift_106 (And.intro rfl (rfl))
theorem oX11_shift_108 : OKI 246 108 (.if_icmp .ge 30, 111, [138], 0, 0, []) := And.intro dX11_shift_108 (And.intro rfl (by decide))
theorem oX11_shift_111 : OKI 246 111 (.aload_n 0, 112, [0], 0, 0, []) := And.intro dX11_shift_111 (And.intro rfl (rfl))
theorem oX11_shift_112 : OKI 246 112 (.getfield 218, 115, [12, 68, 2, 154, 0], 0, 0, []) := And.intro dX11_shift_112 (And.intro rfl (⟨(RX11, TX11, 69), "SpotTimersModel", rfl, by decide, tm_6 _ (List.mem_of_getElem? (i := 34) rfl) rfl, Or.inl rfl, rfl, rfl⟩))
theorem oX11_shift_115 : OKI 246 115 (.iload 6, 117, [6], 0, 0, []) := And.intro dX11_shift_115 (And.intro rfl (rfl))
theorem oX11_shift_117 : OKI 246 117 (.aload_n 0, 118, [0], 0, 0, []) := And.intro dX11_shift_117 (And.intro rfl (rfl))
theorem oX11_shift_118 : OKI 246 118 (.getfield 215, 121, [12, 67, 2, 153, 0], 0, 0, []) := And.intro dX11_shift_118 (And.intro rfl (⟨(RX11, TX11, 69), "SpotTimersModel", rfl, by decide, tm_6 _ (List.mem_of_getElem? (i := 33) rfl) rfl, Or.inl rfl, rfl, rfl⟩))
theorem oX11_shift_121 : OKI 246 121 (.bipush 60, 123, [], 60, 0, []) := And.intro dX11_shift_121 (And.intro rfl (by decide +kernel))
theorem oX11_shift_123 : OKI 246 123 (.iload_n 1, 124, [1], 0, 0, []) := And.intro dX11_shift_123 (And.intro rfl (rfl))
theorem oX11_shift_124 : OKI 246 124 (.imul, 125, [], 0, 0, []) := And.intro dX11_shift_124 rfl
theorem oX11_shift_125 : OKI 246 125 (.iload_n 2, 126, [2], 0, 0, []) := And.intro dX11_shift_125 (And.intro rfl (rfl))
theorem oX11_shift_126 : OKI 246 126 (.iadd, 127, [], 0, 0, []) := And.intro dX11_shift_126 rfl
theorem oX11_shift_127 : OKI 246 127 (.iload 6, 129, [6], 0, 0, []) := And.intro dX11_shift_127 (And.intro rfl (rfl))
theorem oX11_shift_129 : OKI 246 129 (.iadd, 130, [], 0, 0, []) := And.intro dX11_shift_129 rfl
theorem oX11_shift_130 : OKI 246 130 (.iaload, 131, [], 0, 0, []) := And.intro dX11_shift_130 rfl
theorem oX11_shift_131 : OKI 246 131 (.iastore, 132, [], 0, 0, []) := And.intro dX11_shift_131 rfl
theorem oX11_shift_132 : OKI 246 132 (.iinc 6 1, 135, [6], 1, 0, []) := And.intro dX11_shift_132 (And.intro rfl (And.intro rfl (And.intro (by decide +kernel) (by decide))))
theorem oX11_shift_135 : OKI 246 135 (.goto (-31), 138, [104], 0, 0, []) := And.intro dX11_shift_135 (And.intro rfl (by decide))
theorem oX11_shift_138 : OKI 246 138 (.iconst 0, 139, [], 0, 0, []) := And.intro dX11_shift_138 (And.intro rfl (by decide +kernel))
theorem oX11_shift_139 : OKI 246 139 (.istore 6, 141, [6], 0, 0, []) := And.intro dX11_shift_139 (And.intro rfl (And.intro rfl (by decide)))
theorem oX11_shift_141 : OKI 246 141 (.iload 6, 143, [6], 0, 0, []) := And.intro dX11_shift_141 (And.intro rfl (rfl))
theorem oX11_shift_143 : OKI 246 143 (.iload 5, 145, [5], 0, 0, []) := And.intro dX11_shift_143 (And.intro rfl (rfl))
theorem oX11_shift_145 : OKI 246 145 (.if_icmp .ge 31, 148, [176], 0, 0, []) := And.intro dX11_shift_145 (And.intro rfl (by decide))
theorem oX11_shift_148 : OKI 246 148 (.aload_n 0, 149, [0], 0, 0, []) := And.intro dX11_shift_148 (And.intro rfl (rfl))
theorem oX11_shift_149 : OKI 246 149 (.getfield 215, 152, [12, 67, 2, 153, 0], 0, 0, []) := And.intro dX11_shift_149 (And.intro rfl (⟨(RX11, TX11, 69), "SpotTimersModel", rfl, by decide, tm_6 _ (List.mem_of_getElem? (i := 33) rfl) rfl, Or.inl rfl, rfl, rfl⟩))
theorem oX11_shift_152 : OKI 246 152 (.bipush 60, 154, [], 60, 0, []) := And.intro dX11_shift_152 (And.intro rfl (by decide +kernel))
theorem oX11_shift_154 : OKI 246 154 (.iload_n 3, 155, [3], 0, 0, []) := And.intro dX11_shift_154 (And.intro rfl (rfl))
theorem oX11_shift_155 : OKI 246 155 (.imul, 156, [], 0, 0, []) := And.intro dX11_shift_155 rfl
theorem oX11_shift_156 : OKI 246 156 (.iload 4, 158, [4], 0, 0, []) := And.intro dX11_shift_156 (And.intro rfl (rfl))
theorem oX11_shift_158 : OKI 246 158 (.iadd, 159, [], 0, 0, []) := And.intro dX11_shift_158 rfl
theorem oX11_shift_159 : OKI 246 159 (.iload 6, 161, [6], 0, 0, []) := And.intro dX11_shift_159 (And.intro rfl (rfl))
theorem oX11_shift_161 : OKI 246 161 (.iadd, 162, [], 0, 0, []) := And.intro dX11_shift_161 rfl
theorem oX11_shift_162 : OKI 246 162 (.aload_n 0, 163, [0], 0, 0, []) := And.intro dX11_shift_162 (And.intro rfl (rfl))
theorem oX11_shift_163 : OKI 246 163 (.getfield 218, 166, [12, 68, 2, 154, 0], 0, 0, []) := And.intro dX11_shift_163 (And.intro rfl (⟨(RX11, TX11, 69), "SpotTimersModel", rfl, by decide, tm_6 _ (List.mem_of_getElem? (i := 34) rfl) rfl, Or.inl rfl, rfl, rfl⟩))
theorem oX11_shift_166 : OKI 246 166 (.iload 6, 168, [6], 0, 0, []) := And.intro dX11_shift_166 (And.intro rfl (rfl))
theorem oX11_shift_168 : OKI 246 168 (.iaload, 169, [], 0, 0, []) := And.intro dX11_shift_168 rfl
theorem oX11_shift_169 : OKI 246 169 (.iastore, 170, [], 0, 0, []) := And.intro dX11_shift_169 rfl
theorem oX11_shift_170 : OKI 246 170 (.iinc 6 1, 173, [6], 1, 0, []) := And.intro dX11_shift_170 (And.intro rfl (And.intro rfl (And.intro (by decide +kernel) (by decide))))
theorem oX11_shift_173 : OKI 246 173 (.goto (-32), 176, [141], 0, 0, []) := And.intro dX11_shift_173 (And.intro rfl (by decide))
theorem oX11_shift_176 : OKI 246 176 (.iload 5, 178, [5], 0, 0, []) := And.intro dX11_shift_176 (And.intro rfl (rfl))
theorem oX11_shift_178 : OKI 246 178 (.ireturn, 179, [0], 0, 0, []) := And.intro dX11_shift_178 (Or.inl (And.intro rfl rfl))
def pfX11_shift (pc : Nat) : Option XE := (bif Nat.blt pc 90 then (bif Nat.blt pc 44 then (bif Nat.blt pc 22 then (bif Nat.blt pc 10 then (bif Nat.blt pc 5 then (bif Nat.blt pc 1 then (bif Nat.beq pc 0 then some (.aload_n 0, 1, [0], 0, 0, []) else none) else (bif Nat.blt pc 2 then (bif Nat.beq pc 1 then some (.iload_n 1, 2, [1], 0, 0, []) else none) else (bif Nat.beq pc 2 then some (.invokevirtual 295, 5, [241, 2, 13, 0, 0, 1], 0, 0, []) else none))) else (bif Nat.blt pc 8 then (bif Nat.beq pc 5 then some (.ifCond .eq 11, 8, [16], 0, 0, []) else none) else (bif Nat.blt pc 9 then (bif Nat.beq pc 8 then some (.aload_n 0, 9, [0], 0, 0, []) else none) else (bif Nat.beq pc 9 then some (.iload_n 3, 10, [3], 0, 0, []) else none)))) else (bif Nat.blt pc 17 then (bif Nat.blt pc 13 then (bif Nat.beq pc 10 then some (.invokevirtual 295, 13, [241, 2, 13, 0, 0, 1], 0, 0, []) else none) else (bif Nat.blt pc 16 then (bif Nat.beq pc 13 then some (.ifCond .ne 5, 16, [18], 0, 0, []) else none) else (bif Nat.beq pc 16 then some (.iconst (-1), 17, [], (-1), 0, []) else none))) else (bif Nat.blt pc 18 then (bif Nat.beq pc 17 then some (.ireturn, 18, [0], 0, 0, []) else none) else (bif Nat.blt pc 19 then (bif Nat.beq pc 18 then some (.aload_n 0, 19, [0], 0, 0, []) else none) else (bif Nat.beq pc 19 then some (.getfield 209, 22, [12, 65, 2, 151, 0], 0, 0, []) else none))))) else (bif Nat.blt pc 32 then (bif Nat.blt pc 27 then (bif Nat.blt pc 23 then (bif Nat.beq pc 22 then some (.iload_n 1, 23, [1], 0, 0, []) else none) else (bif Nat.blt pc 24 then (bif Nat.beq pc 23 then some (.iaload, 24, [], 0, 0, []) else none) else (bif Nat.beq pc 24 then some (.ifCond .lt 12, 27, [36], 0, 0, []) else none))) else (bif Nat.blt pc 28 then (bif Nat.beq pc 27 then some (.aload_n 0, 28, [0], 0, 0, []) else none) else (bif Nat.blt pc 31 then (bif Nat.beq pc 28 then some (.getfield 209, 31, [12, 65, 2, 151, 0], 0, 0, []) else none) else (bif Nat.beq pc 31 then some (.iload_n 3, 32, [3], 0, 0, []) else none)))) else (bif Nat.blt pc 38 then (bif Nat.blt pc 33 then (bif Nat.beq pc 32 then some (.iaload, 33, [], 0, 0, []) else none) else (bif Nat.blt pc 36 then (bif Nat.beq pc 33 then some (.ifCond .ge 6, 36, [39], 0, 0, []) else none) else (bif Nat.beq pc 36 then some (.bipush (-11), 38, [], (-11), 0, []) else none))) else (bif Nat.blt pc 40 then (bif Nat.blt pc 39 then (bif Nat.beq pc 38 then some (.ireturn, 39, [0], 0, 0, []) else none) else (bif Nat.beq pc 39 then some (.aload_n 0, 40, [0], 0, 0, []) else none)) else (bif Nat.blt pc 43 then (bif Nat.beq pc 40 then some (.getfield 209, 43, [12, 65, 2, 151, 0], 0, 0, []) else none) else (bif Nat.beq pc 43 then some (.iload_n 1, 44, [1], 0, 0, []) else none)))))) else (bif Nat.blt pc 66 then (bif Nat.blt pc 54 then (bif Nat.blt pc 49 then (bif Nat.blt pc 45 then (bif Nat.beq pc 44 then some (.iaload, 45, [], 0, 0, []) else none) else (bif Nat.blt pc 46 then (bif Nat.beq pc 45 then some (.aload_n 0, 46, [0], 0, 0, []) else none) else (bif Nat.beq pc 46 then some (.getfield 209, 49, [12, 65, 2, 151, 0], 0, 0, []) else none))) else (bif Nat.blt pc 50 then (bif Nat.beq pc 49 then some (.iload_n 3, 50, [3], 0, 0, []) else none) else (bif Nat.blt pc 51 then (bif Nat.beq pc 50 then some (.iaload, 51, [], 0, 0, []) else none) else (bif Nat.beq pc 51 then some (.if_icmp .eq 6, 54, [57], 0, 0, []) else none)))) else (bif Nat.blt pc 59 then (bif Nat.blt pc 56 then (bif Nat.beq pc 54 then some (.bipush (-12), 56, [], (-12), 0, []) else none) else (bif Nat.blt pc 57 then (bif Nat.beq pc 56 then some (.ireturn, 57, [0], 0, 0, []) else none) else (bif Nat.beq pc 57 then some (.iload 5, 59, [5], 0, 0, []) else none))) else (bif Nat.blt pc 62 then (bif Nat.beq pc 59 then some (.ifCond .lt 39, 62, [98], 0, 0, []) else none) else (bif Nat.blt pc 63 then (bif Nat.beq pc 62 then some (.iload_n 2, 63, [2], 0, 0, []) else none) else (bif Nat.beq pc 63 then some (.ifCond .lt 35, 66, [98], 0, 0, []) else none))))) else (bif Nat.blt pc 77 then (bif Nat.blt pc 72 then (bif Nat.blt pc 68 then (bif Nat.beq pc 66 then some (.iload 4, 68, [4], 0, 0, []) else none) else (bif Nat.blt pc 71 then (bif Nat.beq pc 68 then some (.ifCond .lt 30, 71, [98], 0, 0, []) else none) else (bif Nat.beq pc 71 then some (.iload_n 2, 72, [2], 0, 0, []) else none))) else (bif Nat.blt pc 73 then (bif Nat.beq pc 72 then some (.aload_n 0, 73, [0], 0, 0, []) else none) else (bif Nat.blt pc 76 then (bif Nat.beq pc 73 then some (.getfield 212, 76, [12, 66, 2, 152, 0], 0, 0, []) else none) else (bif Nat.beq pc 76 then some (.iload_n 1, 77, [1], 0, 0, []) else none)))) else (bif Nat.blt pc 81 then (bif Nat.blt pc 78 then (bif Nat.beq pc 77 then some (.iaload, 78, [], 0, 0, []) else none) else (bif Nat.blt pc 80 then (bif Nat.beq pc 78 then some (.iload 5, 80, [5], 0, 0, []) else none) else (bif Nat.beq pc 80 then some (.isub, 81, [], 0, 0, []) else none))) else (bif Nat.blt pc 86 then (bif Nat.blt pc 84 then (bif Nat.beq pc 81 then some (.if_icmp .gt 17, 84, [98], 0, 0, []) else none) else (bif Nat.beq pc 84 then some (.iload 4, 86, [4], 0, 0, []) else none)) else (bif Nat.blt pc 87 then (bif Nat.beq pc 86 then some (.aload_n 0, 87, [0], 0, 0, []) else none) else (bif Nat.beq pc 87 then some (.getfield 212, 90, [12, 66, 2, 152, 0], 0, 0, []) else none))))))) else (bif Nat.blt pc 131 then (bif Nat.blt pc 111 then (bif Nat.blt pc 100 then (bif Nat.blt pc 94 then (bif Nat.blt pc 91 then (bif Nat.beq pc 90 then some (.iload_n 3, 91, [3], 0, 0, []) else none) else (bif Nat.blt pc 92 then (bif Nat.beq pc 91 then some (.iaload, 92, [], 0, 0, []) else none) else (bif Nat.beq pc 92 then some (.iload 5, 94, [5], 0, 0, []) else none))) else (bif Nat.blt pc 95 then (bif Nat.beq pc 94 then some (.isub, 95, [], 0, 0, []) else none) else (bif Nat.blt pc 98 then (bif Nat.beq pc 95 then some (.if_icmp .le 6, 98, [101], 0, 0, []) else none) else (bif Nat.beq pc 98 then some (.bipush (-13), 100, [], (-13), 0, []) else none)))) else (bif Nat.blt pc 104 then (bif Nat.blt pc 101 then (bif Nat.beq pc 100 then some (.ireturn, 101, [0], 0, 0, []) else none) else (bif Nat.blt pc 102 then (bif Nat.beq pc 101 then some (.iconst 0, 102, [], 0, 0, []) else none) else (bif Nat.beq pc 102 then some (.istore 6, 104, [6], 0, 0, []) else none))) else (bif Nat.blt pc 106 then (bif Nat.beq pc 104 then some (.iload 6, 106, [6], 0, 0, []) else none) else (bif Nat.blt pc 108 then (bif Nat.beq pc 106 then some (.iload 5, 108, [5], 0, 0, []) else none) else (bif Nat.beq pc 108 then some (.if_icmp .ge 30, 111, [138], 0, 0, []) else none))))) else (bif Nat.blt pc 123 then (bif Nat.blt pc 117 then (bif Nat.blt pc 112 then (bif Nat.beq pc 111 then some (.aload_n 0, 112, [0], 0, 0, []) else none) else (bif Nat.blt pc 115 then (bif Nat.beq pc 112 then some (.getfield 218, 115, [12, 68, 2, 154, 0], 0, 0, []) else none) else (bif Nat.beq pc 115 then some (.iload 6, 117, [6], 0, 0, []) else none))) else (bif Nat.blt pc 118 then (bif Nat.beq pc 117 then some (.aload_n 0, 118, [0], 0, 0, []) else none) else (bif Nat.blt pc 121 then (bif Nat.beq pc 118 then some (.getfield 215, 121, [12, 67, 2, 153, 0], 0, 0, []) else none) else (bif Nat.beq pc 121 then some (.bipush 60, 123, [], 60, 0, []) else none)))) else (bif Nat.blt pc 126 then (bif Nat.blt pc 124 then (bif Nat.beq pc 123 then some (.iload_n 1, 124, [1], 0, 0, []) else none) else (bif Nat.blt pc 125 then (bif Nat.beq pc 124 then some (.imul, 125, [], 0, 0, []) else none) else (bif Nat.beq pc 125 then some (.iload_n 2, 126, [2], 0, 0, []) else none))) else (bif Nat.blt pc 129 then (bif Nat.blt pc 127 then (bif Nat.beq pc 126 then some (.iadd, 127, [], 0, 0, []) else none) else (bif Nat.beq pc 127 then some (.iload 6, 129, [6], 0, 0, []) else none)) else (bif Nat.blt pc 130 then (bif Nat.beq pc 129 then some (.iadd, 130, [], 0, 0, []) else none) else (bif Nat.beq pc 130 then some (.iaload, 131, [], 0, 0, []) else none)))))) else (bif Nat.blt pc 156 then (bif Nat.blt pc 143 then (bif Nat.blt pc 138 then (bif Nat.blt pc 132 then (bif Nat.beq pc 131 then some (.iastore, 132, [], 0, 0, []) else none) else (bif Nat.blt pc 135 then (bif Nat.beq pc 132 then some (.iinc 6 1, 135, [6], 1, 0, []) else none) else (bif Nat.beq pc 135 then some (.goto (-31), 138, [104], 0, 0, []) else none))) else (bif Nat.blt pc 139 then (bif Nat.beq pc 138 then some (.iconst 0, 139, [], 0, 0, []) else none) else (bif Nat.blt pc 141 then (bif Nat.beq pc 139 then some (.istore 6, 141, [6], 0, 0, []) else none) else (bif Nat.beq pc 141 then some (.iload 6, 143, [6], 0, 0, []) else none)))) else (bif Nat.blt pc 149 then (bif Nat.blt pc 145 then (bif Nat.beq pc 143 then some (.iload 5, 145, [5], 0, 0, []) else none) else (bif Nat.blt pc 148 then (bif Nat.beq pc 145 then some (.if_icmp .ge 31, 148, [176], 0, 0, []) else none) else (bif Nat.beq pc 148 then some (.aload_n 0, 149, [0], 0, 0, []) else none))) else (bif Nat.blt pc 154 then (bif Nat.blt pc 152 then (bif Nat.beq pc 149 then some (.getfield 215, 152, [12, 67, 2, 153, 0], 0, 0, []) else none) else (bif Nat.beq pc 152 then some (.bipush 60, 154, [], 60, 0, []) else none)) else (bif Nat.blt pc 155 then (bif Nat.beq pc 154 then some (.iload_n 3, 155, [3], 0, 0, []) else none) else (bif Nat.beq pc 155 then some (.imul, 156, [], 0, 0, []) else none))))) else (bif Nat.blt pc 166 then (bif Nat.blt pc 161 then (bif Nat.blt pc 158 then (bif Nat.beq pc 156 then some (.iload 4, 158, [4], 0, 0, []) else none) else (bif Nat.blt pc 159 then (bif Nat.beq pc 158 then some (.iadd, 159, [], 0, 0, []) else none) else (bif Nat.beq pc 159 then some (.iload 6, 161, [6], 0, 0, []) else none))) else (bif Nat.blt pc 162 then (bif Nat.beq pc 161 then some (.iadd, 162, [], 0, 0, []) else none) else (bif Nat.blt pc 163 then (bif Nat.beq pc 162 then some (.aload_n 0, 163, [0], 0, 0, []) else none) else (bif Nat.beq pc 163 then some (.getfield 218, 166, [12, 68, 2, 154, 0], 0, 0, []) else none)))) else (bif Nat.blt pc 170 then (bif Nat.blt pc 168 then (bif Nat.beq pc 166 then some (.iload 6, 168, [6], 0, 0, []) else none) else (bif Nat.blt pc 169 then (bif Nat.beq pc 168 then some (.iaload, 169, [], 0, 0, []) else none) else (bif Nat.beq pc 169 then some (.iastore, 170, [], 0, 0, []) else none))) else (bif Nat.blt pc 176 then (bif Nat.blt pc 173 then (bif Nat.beq pc 170 then some (.iinc 6 1, 173, [6], 1, 0, []) else none) else (bif Nat.beq pc 173 then some (.goto (-32), 176, [141], 0, 0, []) else none)) else (bif Nat.blt pc 178 then (bif Nat.beq pc 176 then some (.iload 5, 178, [5], 0, 0, []) else none) else (bif Nat.beq pc 178 then some (.ireturn, 179, [0], 0, 0, []) else none))))))))
theorem okX11_shift : ∀ pc Y, pfX11_shift pc = some Y → OKI m_X11_shift pc Y := fun pc Y => ((bt_node (bt_node (bt_node (bt_node (bt_node (bt_node (bt_leaf (P := OKI m_X11_shift) oX11_shift_0) (bt_node (bt_leaf (P := OKI m_X11_shift) oX11_shift_1) (bt_leaf (P := OKI m_X11_shift) oX11_shift_2))) (bt_node (bt_leaf (P := OKI m_X11_shift) oX11_shift_5) (bt_node (bt_leaf (P := OKI m_X11_shift) oX11_shift_8) (bt_leaf (P := OKI m_X11_shift) oX11_shift_9)))) (bt_node (bt_node (bt_leaf (P := OKI m_X11_shift) oX11_shift_10) (bt_node (bt_leaf (P := OKI m_X11_shift) oX11_shift_13) (bt_leaf (P := OKI m_X11_shift) oX11_shift_16))) (bt_node (bt_leaf (P := OKI m_X11_shift) oX11_shift_17) (bt_node (bt_leaf (P := OKI m_X11_shift) oX11_shift_18) (bt_leaf (P := OKI m_X11_shift) oX11_shift_19))))) (bt_node (bt_node (bt_node (bt_leaf (P := OKI m_X11_shift) oX11_shift_22) (bt_node (bt_leaf (P := OKI m_X11_shift) oX11_shift_23) (bt_leaf (P := OKI m_X11_shift) oX11_shift_24))) (bt_node (bt_leaf (P := OKI m_X11_shift) oX11_shift_27) (bt_node (bt_leaf (P := OKI m_X11_shift) oX11_shift_28) (bt_leaf (P := OKI m_X11_shift) oX11_shift_31)))) (bt_node (bt_node (bt_leaf (P := OKI m_X11_shift) oX11_shift_32) (bt_node (bt_leaf (P := OKI m_X11_shift) oX11_shift_33) (bt_leaf (P := OKI m_X11_shift) oX11_shift_36))) (bt_node (bt_node (bt_leaf (P := OKI m_X11_shift) oX11_shift_38) (bt_leaf (P := OKI m_X11_shift) oX11_shift_39)) (bt_node (bt_leaf (P := OKI m_X11_shift) oX11_shift_40) (bt_leaf (P := OKI m_X11_shift) oX11_shift_43)))))) (bt_node (bt_node (bt_node (bt_node (bt_leaf (P := OKI m_X11_shift) oX11_shift_44) (bt_node (bt_leaf (P := OKI m_X11_shift) oX11_shift_45) (bt_leaf (P := OKI m_X11_shift) oX11_shift_46))) (bt_node (bt_leaf (P := OKI m_X11_shift) oX11_shift_49) (bt_node (bt_leaf (P := OKI m_X11_shift) oX11_shift_50) (bt_leaf (P := OKI m_X11_shift) oX11_shift_51)))) (bt_node (bt_node (bt_leaf (P := OKI m_X11_shift) oX11_shift_54) (bt_node (bt_leaf (P := OKI m_X11_shift) oX11_shift_56) (bt_leaf (P := OKI m_X11_shift) oX11_shift_57))) (bt_node (bt_leaf (P := OKI m_X11_shift) oX11_shift_59) (bt_node (bt_leaf (P := OKI m_X11_shift) oX11_shift_62) (bt_leaf (P := OKI m_X11_shift) oX11_shift_63))))) (bt_node (bt_node (bt_node (bt_leaf (P := OKI m_X11_shift) oX11_shift_66) (bt_node (bt_leaf (P := OKI m_X11_shift) oX11_shift_68) (bt_leaf (P := OKI m_X11_shift) oX11_shift_71))) (bt_node (bt_leaf (P := OKI m_X11_shift) oX11_shift_72) (bt_node (bt_leaf (P := OKI m_X11_shift) oX11_shift_73) (bt_leaf (P := OKI m_X11_shift) oX11_shift_76)))) (bt_node (bt_node (bt_leaf (P := OKI m_X11_shift) oX11_shift_77) (bt_node (bt_leaf (P := OKI m_X11_shift) oX11_shift_78) (bt_leaf (P := OKI m_X11_shift) oX11_shift_80))) (bt_node (bt_node (bt_leaf (P := OKI m_X11_shift) oX11_shift_81) (bt_leaf (P := OKI m_X11_shift) oX11_shift_84)) (bt_node (bt_leaf (P := OKI m_X11_shift) oX11_shift_86) (bt_leaf (P := OKI m_X11_shift) oX11_shift_87))))))) (bt_node (bt_node (bt_node (bt_node (bt_node (bt_leaf (P := OKI m_X11_shift) oX11_shift_90) (bt_node (bt_leaf (P := OKI m_X11_shift) oX11_shift_91) (bt_leaf (P := OKI m_X11_shift) oX11_shift_92))) (bt_node (bt_leaf (P := OKI m_X11_shift) oX11_shift_94) (bt_node (bt_leaf (P := OKI m_X11_shift) oX11_shift_95) (bt_leaf (P := OKI m_X11_shift) oX11_shift_98)))) (bt_node (bt_node (bt_leaf (P := OKI m_X11_shift) oX11_shift_100) (bt_node (bt_leaf (P := OKI m_X11_shift) oX11_shift_101) (bt_leaf (P := OKI m_X11_shift) oX11_shift_102))) (bt_node (bt_leaf (P := OKI m_X11_shift) oX11_shift_104) (bt_node (bt_leaf (P := OKI m_X11_shift) oX11_shift_106) (bt_leaf (P := OKI m_X11_shift) oX11_shift_108))))) (bt_node (bt_node (bt_node (bt_leaf (P := OKI m_X11_shift) oX11_shift_111) (bt_node (bt_leaf (P := OKI m_X11_shift) oX11_shift_112) (bt_leaf (P := OKI m_X11_shift) oX11_shift_115))) (bt_node (bt_leaf (P := OKI m_X11_shift) oX11_shift_117) (bt_node (bt_leaf (P := OKI m_X11_shift) oX11_shift_118) (bt_leaf (P := OKI m_X11_shift) oX11_shift_121)))) (bt_node (bt_node (bt_leaf (P := OKI m_X11_shift) oX11_shift_123) (bt_node (bt_leaf (P := OKI m_X11_shift) oX11_shift_124) (bt_leaf (P := OKI m_X11_shift) oX11_shift_125))) (bt_node (bt_node (bt_leaf (P := OKI m_X11_shift) oX11_shift_126) (bt_leaf (P := OKI m_X11_shift) oX11_shift_127)) (bt_node (bt_leaf (P := OKI m_X11_shift) oX11_shift_129) (bt_leaf (P := OKI m_X11_shift) oX11_shift_130)))))) (bt_node (bt_node (bt_node (bt_node (bt_leaf (P := OKI m_X11_shift) oX11_shift_131) (bt_node (bt_leaf (P := OKI m_X11_shift) oX11_shift_132) (bt_leaf (P := OKI m_X11_shift) oX11_shift_135))) (bt_node (bt_leaf (P := OKI m_X11_shift) oX11_shift_138) (bt_node (bt_leaf (P := OKI m_X11_shift) oX11_shift_139) (bt_leaf (P := OKI m_X11_shift) oX11_shift_141)))) (bt_node (bt_node (bt_leaf (P := OKI m_X11_shift) oX11_shift_143) (bt_node (bt_leaf (P := OKI m_X11_shift) oX11_shift_145) (bt_leaf (P := OKI m_X11_shift) oX11_shift_148))) (bt_node (bt_node (bt_leaf (P := OKI m_X11_shift) oX11_shift_149) (bt_leaf (P := OKI m_X11_shift) oX11_shift_152)) (bt_node (bt_leaf (P := OKI m_X11_shift) oX11_shift_154) (bt_leaf (P := OKI m_X11_shift) oX11_shift_155))))) (bt_node (bt_node (bt_node (bt_leaf (P := OKI m_X11_shift) oX11_shift_156) (bt_node (bt_leaf (P := OKI m_X11_shift) oX11_shift_158) (bt_leaf (P := OKI m_X11_shift) oX11_shift_159))) (bt_node (bt_leaf (P := OKI m_X11_shift) oX11_shift_161) (bt_node (bt_leaf (P := OKI m_X11_shift) oX11_shift_162) (bt_leaf (P := OKI m_X11_shift) oX11_shift_163)))) (bt_node (bt_node (bt_leaf (P := OKI m_X11_shift) oX11_shift_166) (bt_node (bt_leaf (P := OKI m_X11_shift) oX11_shift_168) (bt_leaf (P := OKI m_X11_shift) oX11_shift_169))) (bt_node (bt_node (bt_leaf (P := OKI m_X11_shift) oX11_shift_170) (bt_leaf (P := OKI m_X11_shift) oX11_shift_173)) (bt_node (bt_leaf (P := OKI m_X11_shift) oX11_shift_176) (bt_leaf (P := OKI m_X11_shift) oX11_shift_178)))))))) : pfX11_shift pc = some Y → OKI m_X11_shift pc Y)
def stpX11_shift (pc : Nat) : Option (List Bool) := (bif Nat.blt pc 98 then (bif Nat.blt pc 36 then (bif Nat.beq pc 16 then some [false, false, false, false, false, false, false] else none) else (bif Nat.beq pc 36 then some [false, false, false, false, false, false, false] else none)) else (bif Nat.blt pc 104 then (bif Nat.beq pc 98 then some [false, false, false, false, false, false, false] else none) else (bif Nat.blt pc 141 then (bif Nat.beq pc 104 then some [true, true, true, true, true, true, true] else none) else (bif Nat.beq pc 141 then some [true, false, false, true, true, true, true] else none))))
def bX11_shift_0 (d rc rs : Nat) (a1 : Int32) (a2 : Int32) (a3 : Int32) (a4 : Int32) (a5 : Int32) (σ : XH) (Q : XV → XH → Prop) : Prop :=
  ((1 ≤ d ∧ Ec (d - 1) 0 0 m_X11_isTape [vR (some (12, 0)), vI a1] σ (kI fun x2 h1 => ((x2 = 0 → Ex d rc rs m_X11_shift 16 [vU, vU, vU, vU, vU, vU, vU] [] h1 Q) ∧ (¬ x2 = 0 → ((1 ≤ d ∧ Ec (d - 1) 0 0 m_X11_isTape [vR (some (12, 0)), vI a3] h1 (kI fun x4 h3 => ((x4 = 0 → Ex d rc rs m_X11_shift 16 [vU, vU, vU, vU, vU, vU, vU] [] h3 Q) ∧ (¬ x4 = 0 → ((hr h3 12 0 65 = some (151, 0) ∧ ((vp_in a1 (hn h3 151 0) ∧ (((hi h3 151 0 a1.toNatClampNeg) < 0 → Ex d rc rs m_X11_shift 36 [vU, vU, vU, vU, vU, vU, vU] [] h3 Q) ∧ (¬ (hi h3 151 0 a1.toNatClampNeg) < 0 → ((hr h3 12 0 65 = some (151, 0) ∧ ((vp_in a3 (hn h3 151 0) ∧ (((hi h3 151 0 a3.toNatClampNeg) < 0 → Ex d rc rs m_X11_shift 36 [vU, vU, vU, vU, vU, vU, vU] [] h3 Q) ∧ (¬ (hi h3 151 0 a3.toNatClampNeg) < 0 → ((hr h3 12 0 65 = some (151, 0) ∧ ((vp_in a1 (hn h3 151 0) ∧ ((hr h3 12 0 65 = some (151, 0) ∧ ((vp_in a3 (hn h3 151 0) ∧ (((hi h3 151 0 a1.toNatClampNeg) = (hi h3 151 0 a3.toNatClampNeg) → ((a5 < 0 → Ex d rc rs m_X11_shift 98 [vU, vU, vU, vU, vU, vU, vU] [] h3 Q) ∧ (¬ a5 < 0 → ((a2 < 0 → Ex d rc rs m_X11_shift 98 [vU, vU, vU, vU, vU, vU, vU] [] h3 Q) ∧ (¬ a2 < 0 → ((a4 < 0 → Ex d rc rs m_X11_shift 98 [vU, vU, vU, vU, vU, vU, vU] [] h3 Q) ∧ (¬ a4 < 0 → ((hr h3 12 0 66 = some (152, 0) ∧ ((vp_in a1 (hn h3 152 0) ∧ ((((hi h3 152 0 a1.toNatClampNeg) - a5) < a2 → Ex d rc rs m_X11_shift 98 [vU, vU, vU, vU, vU, vU, vU] [] h3 Q) ∧ (¬ ((hi h3 152 0 a1.toNatClampNeg) - a5) < a2 → ((hr h3 12 0 66 = some (152, 0) ∧ ((vp_in a3 (hn h3 152 0) ∧ ((((hi h3 152 0 a3.toNatClampNeg) - a5) < a4 → Ex d rc rs m_X11_shift 98 [vU, vU, vU, vU, vU, vU, vU] [] h3 Q) ∧ (¬ ((hi h3 152 0 a3.toNatClampNeg) - a5) < a4 → Ex d rc rs m_X11_shift 104 [vR (some (12, 0)), vI a1, vI a2, vI a3, vI a4, vI a5, vI 0] [] h3 Q))))))))))))))))))) ∧ (¬ (hi h3 151 0 a1.toNatClampNeg) = (hi h3 151 0 a3.toNatClampNeg) → Q (vI (-12)) h3))))))))))))))))))))))))))))))))
set_option maxRecDepth 40000 in
set_option maxHeartbeats 4000000 in
theorem sX11_shift_0 {d rc rs : Nat} {a1 : Int32} {a2 : Int32} {a3 : Int32} {a4 : Int32} {a5 : Int32} {σ : XH} {Q : XV → XH → Prop} (h : bX11_shift_0 d rc rs a1 a2 a3 a4 a5 σ Q) : Ex d rc rs m_X11_shift 0 [vR (some (12, 0)), vI a1, vI a2, vI a3, vI a4, vI a5, vU] [] σ Q :=
  xtree_sound (stop := stpX11_shift) okX11_shift 53 _ _ _ _ _ _ h
def bX11_shift_16 (d rc rs : Nat)  (σ : XH) (Q : XV → XH → Prop) : Prop :=
  Q (vI (-1)) σ
theorem sX11_shift_16 {d rc rs : Nat}  {σ : XH} {Q : XV → XH → Prop} (h : bX11_shift_16 d rc rs  σ Q) : Ex d rc rs m_X11_shift 16 [vU, vU, vU, vU, vU, vU, vU] [] σ Q :=
  xtree_sound (stop := stpX11_shift) okX11_shift 4 _ _ _ _ _ _ h
def bX11_shift_36 (d rc rs : Nat)  (σ : XH) (Q : XV → XH → Prop) : Prop :=
  Q (vI (-11)) σ
theorem sX11_shift_36 {d rc rs : Nat}  {σ : XH} {Q : XV → XH → Prop} (h : bX11_shift_36 d rc rs  σ Q) : Ex d rc rs m_X11_shift 36 [vU, vU, vU, vU, vU, vU, vU] [] σ Q :=
  xtree_sound (stop := stpX11_shift) okX11_shift 4 _ _ _ _ _ _ h
def bX11_shift_98 (d rc rs : Nat)  (σ : XH) (Q : XV → XH → Prop) : Prop :=
  Q (vI (-13)) σ
theorem sX11_shift_98 {d rc rs : Nat}  {σ : XH} {Q : XV → XH → Prop} (h : bX11_shift_98 d rc rs  σ Q) : Ex d rc rs m_X11_shift 98 [vU, vU, vU, vU, vU, vU, vU] [] σ Q :=
  xtree_sound (stop := stpX11_shift) okX11_shift 4 _ _ _ _ _ _ h
def bX11_shift_104 (d rc rs : Nat) (l1 : Int32) (l2 : Int32) (l3 : Int32) (l4 : Int32) (l5 : Int32) (l6 : Int32) (σ : XH) (Q : XV → XH → Prop) : Prop :=
  ((l6 < l5 → ((hr σ 12 0 68 = some (154, 0) ∧ ((hr σ 12 0 67 = some (153, 0) ∧ ((vp_in (((60 * l1) + l2) + l6) (hn σ 153 0) ∧ ((vp_in l6 (hn σ 154 0) ∧ (∀ h1, h1 = wI σ 154 0 l6.toNatClampNeg (hi σ 153 0 (((60 * l1) + l2) + l6).toNatClampNeg) → Ex d rc rs m_X11_shift 104 [vR (some (12, 0)), vI l1, vI l2, vI l3, vI l4, vI l5, vI (l6 + 1)] [] h1 Q)))))))))) ∧ (¬ l6 < l5 → Ex d rc rs m_X11_shift 141 [vR (some (12, 0)), vU, vU, vI l3, vI l4, vI l5, vI 0] [] σ Q))
theorem sX11_shift_104 {d rc rs : Nat} {l1 : Int32} {l2 : Int32} {l3 : Int32} {l4 : Int32} {l5 : Int32} {l6 : Int32} {σ : XH} {Q : XV → XH → Prop} (h : bX11_shift_104 d rc rs l1 l2 l3 l4 l5 l6 σ Q) : Ex d rc rs m_X11_shift 104 [vR (some (12, 0)), vI l1, vI l2, vI l3, vI l4, vI l5, vI l6] [] σ Q :=
  xtree_sound (stop := stpX11_shift) okX11_shift 21 _ _ _ _ _ _ h
def bX11_shift_141 (d rc rs : Nat) (l3 : Int32) (l4 : Int32) (l5 : Int32) (l6 : Int32) (σ : XH) (Q : XV → XH → Prop) : Prop :=
  ((l6 < l5 → ((hr σ 12 0 67 = some (153, 0) ∧ ((hr σ 12 0 68 = some (154, 0) ∧ ((vp_in l6 (hn σ 154 0) ∧ ((vp_in (((60 * l3) + l4) + l6) (hn σ 153 0) ∧ (∀ h1, h1 = wI σ 153 0 (((60 * l3) + l4) + l6).toNatClampNeg (hi σ 154 0 l6.toNatClampNeg) → Ex d rc rs m_X11_shift 141 [vR (some (12, 0)), vU, vU, vI l3, vI l4, vI l5, vI (l6 + 1)] [] h1 Q)))))))))) ∧ (¬ l6 < l5 → Q (vI l5) σ))
theorem sX11_shift_141 {d rc rs : Nat} {l3 : Int32} {l4 : Int32} {l5 : Int32} {l6 : Int32} {σ : XH} {Q : XV → XH → Prop} (h : bX11_shift_141 d rc rs l3 l4 l5 l6 σ Q) : Ex d rc rs m_X11_shift 141 [vR (some (12, 0)), vU, vU, vI l3, vI l4, vI l5, vI l6] [] σ Q :=
  xtree_sound (stop := stpX11_shift) okX11_shift 21 _ _ _ _ _ _ h
