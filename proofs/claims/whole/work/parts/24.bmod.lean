/-! ===== blocks: 24.bmod ===== -/
/-! SpotTimersModel.timeOf(II)I -/
theorem dX11_timeOf_0 : decode cX11_timeOf 0 = .ok (.aload_n 0, 1) := by decide +kernel
theorem dX11_timeOf_1 : decode cX11_timeOf 1 = .ok (.getfield 32, 3) := by decide +kernel
theorem dX11_timeOf_4 : decode cX11_timeOf 4 = .ok (.iload_n 1, 1) := by decide +kernel
theorem dX11_timeOf_5 : decode cX11_timeOf 5 = .ok (.iaload, 1) := by decide +kernel
theorem dX11_timeOf_6 : decode cX11_timeOf 6 = .ok (.ifCond .lt 17, 3) := by decide +kernel
theorem dX11_timeOf_9 : decode cX11_timeOf 9 = .ok (.iload_n 2, 1) := by decide +kernel
theorem dX11_timeOf_10 : decode cX11_timeOf 10 = .ok (.aload_n 0, 1) := by decide +kernel
theorem dX11_timeOf_11 : decode cX11_timeOf 11 = .ok (.getfield 32, 3) := by decide +kernel
theorem dX11_timeOf_14 : decode cX11_timeOf 14 = .ok (.iload_n 1, 1) := by decide +kernel
theorem dX11_timeOf_15 : decode cX11_timeOf 15 = .ok (.iaload, 1) := by decide +kernel
theorem dX11_timeOf_16 : decode cX11_timeOf 16 = .ok (.if_icmp .le 7, 3) := by decide +kernel
theorem dX11_timeOf_19 : decode cX11_timeOf 19 = .ok (.ldc_w 256, 3) := by decide +kernel
theorem dX11_timeOf_22 : decode cX11_timeOf 22 = .ok (.ireturn, 1) := by decide +kernel
theorem dX11_timeOf_23 : decode cX11_timeOf 23 = .ok (.aload_n 0, 1) := by decide +kernel
theorem dX11_timeOf_24 : decode cX11_timeOf 24 = .ok (.iload_n 1, 1) := by decide +kernel
theorem dX11_timeOf_25 : decode cX11_timeOf 25 = .ok (.iload_n 2, 1) := by decide +kernel
theorem dX11_timeOf_26 : decode cX11_timeOf 26 = .ok (.invokevirtual 264, 3) := by decide +kernel
theorem dX11_timeOf_29 : decode cX11_timeOf 29 = .ok (.istore_n 3, 1) := by decide +kernel
theorem dX11_timeOf_30 : decode cX11_timeOf 30 = .ok (.aload_n 0, 1) := by decide +kernel
theorem dX11_timeOf_31 : decode cX11_timeOf 31 = .ok (.iload_n 1, 1) := by decide +kernel
theorem dX11_timeOf_32 : decode cX11_timeOf 32 = .ok (.iload_n 2, 1) := by decide +kernel
theorem dX11_timeOf_33 : decode cX11_timeOf 33 = .ok (.iconst 1, 1) := by decide +kernel
theorem dX11_timeOf_34 : decode cX11_timeOf 34 = .ok (.iadd, 1) := by decide +kernel
theorem dX11_timeOf_35 : decode cX11_timeOf 35 = .ok (.invokevirtual 268, 3) := by decide +kernel
theorem dX11_timeOf_38 : decode cX11_timeOf 38 = .ok (.istore 4, 2) := by decide +kernel
theorem dX11_timeOf_40 : decode cX11_timeOf 40 = .ok (.iload_n 3, 1) := by decide +kernel
theorem dX11_timeOf_41 : decode cX11_timeOf 41 = .ok (.ifCond .ge 12, 3) := by decide +kernel
theorem dX11_timeOf_44 : decode cX11_timeOf 44 = .ok (.iload 4, 2) := by decide +kernel
theorem dX11_timeOf_46 : decode cX11_timeOf 46 = .ok (.ifCond .ge 7, 3) := by decide +kernel
theorem dX11_timeOf_49 : decode cX11_timeOf 49 = .ok (.ldc_w 256, 3) := by decide +kernel
theorem dX11_timeOf_52 : decode cX11_timeOf 52 = .ok (.ireturn, 1) := by decide +kernel
theorem dX11_timeOf_53 : decode cX11_timeOf 53 = .ok (.iload_n 3, 1) := by decide +kernel
theorem dX11_timeOf_54 : decode cX11_timeOf 54 = .ok (.ifCond .ge 24, 3) := by decide +kernel
theorem dX11_timeOf_57 : decode cX11_timeOf 57 = .ok (.iload 4, 2) := by decide +kernel
theorem dX11_timeOf_59 : decode cX11_timeOf 59 = .ok (.istore_n 3, 1) := by decide +kernel
theorem dX11_timeOf_60 : decode cX11_timeOf 60 = .ok (.aload_n 0, 1) := by decide +kernel
theorem dX11_timeOf_61 : decode cX11_timeOf 61 = .ok (.iload_n 1, 1) := by decide +kernel
theorem dX11_timeOf_62 : decode cX11_timeOf 62 = .ok (.aload_n 0, 1) := by decide +kernel
theorem dX11_timeOf_63 : decode cX11_timeOf 63 = .ok (.getfield 47, 3) := by decide +kernel
theorem dX11_timeOf_66 : decode cX11_timeOf 66 = .ok (.iload_n 3, 1) := by decide +kernel
theorem dX11_timeOf_67 : decode cX11_timeOf 67 = .ok (.iaload, 1) := by decide +kernel
theorem dX11_timeOf_68 : decode cX11_timeOf 68 = .ok (.iconst 1, 1) := by decide +kernel
theorem dX11_timeOf_69 : decode cX11_timeOf 69 = .ok (.iadd, 1) := by decide +kernel
theorem dX11_timeOf_70 : decode cX11_timeOf 70 = .ok (.invokevirtual 268, 3) := by decide +kernel
theorem dX11_timeOf_73 : decode cX11_timeOf 73 = .ok (.istore 4, 2) := by decide +kernel
theorem dX11_timeOf_75 : decode cX11_timeOf 75 = .ok (.goto 36, 3) := by decide +kernel
theorem dX11_timeOf_78 : decode cX11_timeOf 78 = .ok (.iload 4, 2) := by decide +kernel
theorem dX11_timeOf_80 : decode cX11_timeOf 80 = .ok (.ifCond .ge 31, 3) := by decide +kernel
theorem dX11_timeOf_83 : decode cX11_timeOf 83 = .ok (.iload_n 3, 1) := by decide +kernel
theorem dX11_timeOf_84 : decode cX11_timeOf 84 = .ok (.istore 4, 2) := by decide +kernel
theorem dX11_timeOf_86 : decode cX11_timeOf 86 = .ok (.aload_n 0, 1) := by decide +kernel
theorem dX11_timeOf_87 : decode cX11_timeOf 87 = .ok (.iload_n 1, 1) := by decide +kernel
theorem dX11_timeOf_88 : decode cX11_timeOf 88 = .ok (.aload_n 0, 1) := by decide +kernel
theorem dX11_timeOf_89 : decode cX11_timeOf 89 = .ok (.getfield 47, 3) := by decide +kernel
theorem dX11_timeOf_92 : decode cX11_timeOf 92 = .ok (.iload 4, 2) := by decide +kernel
theorem dX11_timeOf_94 : decode cX11_timeOf 94 = .ok (.iaload, 1) := by decide +kernel
theorem dX11_timeOf_95 : decode cX11_timeOf 95 = .ok (.iconst 1, 1) := by decide +kernel
theorem dX11_timeOf_96 : decode cX11_timeOf 96 = .ok (.isub, 1) := by decide +kernel
theorem dX11_timeOf_97 : decode cX11_timeOf 97 = .ok (.invokevirtual 264, 3) := by decide +kernel
theorem dX11_timeOf_100 : decode cX11_timeOf 100 = .ok (.istore_n 3, 1) := by decide +kernel
theorem dX11_timeOf_101 : decode cX11_timeOf 101 = .ok (.iload_n 3, 1) := by decide +kernel
theorem dX11_timeOf_102 : decode cX11_timeOf 102 = .ok (.ifCond .ge 9, 3) := by decide +kernel
theorem dX11_timeOf_105 : decode cX11_timeOf 105 = .ok (.iload 4, 2) := by decide +kernel
theorem dX11_timeOf_107 : decode cX11_timeOf 107 = .ok (.istore_n 3, 1) := by decide +kernel
theorem dX11_timeOf_108 : decode cX11_timeOf 108 = .ok (.iconst (-1), 1) := by decide +kernel
theorem dX11_timeOf_109 : decode cX11_timeOf 109 = .ok (.istore 4, 2) := by decide +kernel
theorem dX11_timeOf_111 : decode cX11_timeOf 111 = .ok (.iload 4, 2) := by decide +kernel
theorem dX11_timeOf_113 : decode cX11_timeOf 113 = .ok (.ifCond .ge 24, 3) := by decide +kernel
theorem dX11_timeOf_116 : decode cX11_timeOf 116 = .ok (.aload_n 0, 1) := by decide +kernel
theorem dX11_timeOf_117 : decode cX11_timeOf 117 = .ok (.getfield 50, 3) := by decide +kernel
theorem dX11_timeOf_120 : decode cX11_timeOf 120 = .ok (.iload_n 3, 1) := by decide +kernel
theorem dX11_timeOf_121 : decode cX11_timeOf 121 = .ok (.iaload, 1) := by decide +kernel
theorem dX11_timeOf_122 : decode cX11_timeOf 122 = .ok (.i2l, 1) := by decide +kernel
theorem dX11_timeOf_123 : decode cX11_timeOf 123 = .ok (.iload_n 2, 1) := by decide +kernel
theorem dX11_timeOf_124 : decode cX11_timeOf 124 = .ok (.i2l, 1) := by decide +kernel
theorem dX11_timeOf_125 : decode cX11_timeOf 125 = .ok (.ladd, 1) := by decide +kernel
theorem dX11_timeOf_126 : decode cX11_timeOf 126 = .ok (.aload_n 0, 1) := by decide +kernel
theorem dX11_timeOf_127 : decode cX11_timeOf 127 = .ok (.getfield 47, 3) := by decide +kernel
theorem dX11_timeOf_130 : decode cX11_timeOf 130 = .ok (.iload_n 3, 1) := by decide +kernel
theorem dX11_timeOf_131 : decode cX11_timeOf 131 = .ok (.iaload, 1) := by decide +kernel
theorem dX11_timeOf_132 : decode cX11_timeOf 132 = .ok (.i2l, 1) := by decide +kernel
theorem dX11_timeOf_133 : decode cX11_timeOf 133 = .ok (.lsub, 1) := by decide +kernel
theorem dX11_timeOf_134 : decode cX11_timeOf 134 = .ok (.goto 58, 3) := by decide +kernel
theorem dX11_timeOf_137 : decode cX11_timeOf 137 = .ok (.aload_n 0, 1) := by decide +kernel
theorem dX11_timeOf_138 : decode cX11_timeOf 138 = .ok (.getfield 50, 3) := by decide +kernel
theorem dX11_timeOf_141 : decode cX11_timeOf 141 = .ok (.iload_n 3, 1) := by decide +kernel
theorem dX11_timeOf_142 : decode cX11_timeOf 142 = .ok (.iaload, 1) := by decide +kernel
theorem dX11_timeOf_143 : decode cX11_timeOf 143 = .ok (.i2l, 1) := by decide +kernel
theorem dX11_timeOf_144 : decode cX11_timeOf 144 = .ok (.aload_n 0, 1) := by decide +kernel
theorem dX11_timeOf_145 : decode cX11_timeOf 145 = .ok (.iload_n 2, 1) := by decide +kernel
theorem dX11_timeOf_146 : decode cX11_timeOf 146 = .ok (.i2l, 1) := by decide +kernel
theorem dX11_timeOf_147 : decode cX11_timeOf 147 = .ok (.aload_n 0, 1) := by decide +kernel
theorem dX11_timeOf_148 : decode cX11_timeOf 148 = .ok (.getfield 47, 3) := by decide +kernel
theorem dX11_timeOf_151 : decode cX11_timeOf 151 = .ok (.iload_n 3, 1) := by decide +kernel
theorem dX11_timeOf_152 : decode cX11_timeOf 152 = .ok (.iaload, 1) := by decide +kernel
theorem dX11_timeOf_153 : decode cX11_timeOf 153 = .ok (.i2l, 1) := by decide +kernel
theorem dX11_timeOf_154 : decode cX11_timeOf 154 = .ok (.lsub, 1) := by decide +kernel
theorem dX11_timeOf_155 : decode cX11_timeOf 155 = .ok (.aload_n 0, 1) := by decide +kernel
theorem dX11_timeOf_156 : decode cX11_timeOf 156 = .ok (.getfield 50, 3) := by decide +kernel
theorem dX11_timeOf_159 : decode cX11_timeOf 159 = .ok (.iload 4, 2) := by decide +kernel
theorem dX11_timeOf_161 : decode cX11_timeOf 161 = .ok (.iaload, 1) := by decide +kernel
theorem dX11_timeOf_162 : decode cX11_timeOf 162 = .ok (.i2l, 1) := by decide +kernel
theorem dX11_timeOf_163 : decode cX11_timeOf 163 = .ok (.aload_n 0, 1) := by decide +kernel
theorem dX11_timeOf_164 : decode cX11_timeOf 164 = .ok (.getfield 50, 3) := by decide +kernel
theorem dX11_timeOf_167 : decode cX11_timeOf 167 = .ok (.iload_n 3, 1) := by decide +kernel
theorem dX11_timeOf_168 : decode cX11_timeOf 168 = .ok (.iaload, 1) := by decide +kernel
theorem dX11_timeOf_169 : decode cX11_timeOf 169 = .ok (.i2l, 1) := by decide +kernel
theorem dX11_timeOf_170 : decode cX11_timeOf 170 = .ok (.lsub, 1) := by decide +kernel
theorem dX11_timeOf_171 : decode cX11_timeOf 171 = .ok (.lmul, 1) := by decide +kernel
theorem dX11_timeOf_172 : decode cX11_timeOf 172 = .ok (.aload_n 0, 1) := by decide +kernel
theorem dX11_timeOf_173 : decode cX11_timeOf 173 = .ok (.getfield 47, 3) := by decide +kernel
theorem dX11_timeOf_176 : decode cX11_timeOf 176 = .ok (.iload 4, 2) := by decide +kernel
theorem dX11_timeOf_178 : decode cX11_timeOf 178 = .ok (.iaload, 1) := by decide +kernel
theorem dX11_timeOf_179 : decode cX11_timeOf 179 = .ok (.i2l, 1) := by decide +kernel
theorem dX11_timeOf_180 : decode cX11_timeOf 180 = .ok (.aload_n 0, 1) := by decide +kernel
theorem dX11_timeOf_181 : decode cX11_timeOf 181 = .ok (.getfield 47, 3) := by decide +kernel
theorem dX11_timeOf_184 : decode cX11_timeOf 184 = .ok (.iload_n 3, 1) := by decide +kernel
theorem dX11_timeOf_185 : decode cX11_timeOf 185 = .ok (.iaload, 1) := by decide +kernel
theorem dX11_timeOf_186 : decode cX11_timeOf 186 = .ok (.i2l, 1) := by decide +kernel
theorem dX11_timeOf_187 : decode cX11_timeOf 187 = .ok (.lsub, 1) := by decide +kernel
theorem dX11_timeOf_188 : decode cX11_timeOf 188 = .ok (.invokevirtual 271, 3) := by decide +kernel
theorem dX11_timeOf_191 : decode cX11_timeOf 191 = .ok (.ladd, 1) := by decide +kernel
theorem dX11_timeOf_192 : decode cX11_timeOf 192 = .ok (.lstore 5, 2) := by decide +kernel
theorem dX11_timeOf_194 : decode cX11_timeOf 194 = .ok (.lload 5, 2) := by decide +kernel
theorem dX11_timeOf_196 : decode cX11_timeOf 196 = .ok (.ldc2_w 275, 3) := by decide +kernel
theorem dX11_timeOf_199 : decode cX11_timeOf 199 = .ok (.lcmp, 1) := by decide +kernel
theorem dX11_timeOf_200 : decode cX11_timeOf 200 = .ok (.ifCond .lt 12, 3) := by decide +kernel
theorem dX11_timeOf_203 : decode cX11_timeOf 203 = .ok (.lload 5, 2) := by decide +kernel
theorem dX11_timeOf_205 : decode cX11_timeOf 205 = .ok (.ldc2_w 277, 3) := by decide +kernel
theorem dX11_timeOf_208 : decode cX11_timeOf 208 = .ok (.lcmp, 1) := by decide +kernel
theorem dX11_timeOf_209 : decode cX11_timeOf 209 = .ok (.ifCond .le 9, 3) := by decide +kernel
theorem dX11_timeOf_212 : decode cX11_timeOf 212 = .ok (.ldc_w 256, 3) := by decide +kernel
theorem dX11_timeOf_215 : decode cX11_timeOf 215 = .ok (.goto 6, 3) := by decide +kernel
theorem dX11_timeOf_218 : decode cX11_timeOf 218 = .ok (.lload 5, 2) := by decide +kernel
theorem dX11_timeOf_220 : decode cX11_timeOf 220 = .ok (.l2i, 1) := by decide +kernel
theorem dX11_timeOf_221 : decode cX11_timeOf 221 = .ok (.ireturn, 1) := by decide +kernel
theorem oX11_timeOf_0 : OKI 165 0 (.aload_n 0, 1, [0], 0, 0, []) := And.intro dX11_timeOf_0 (And.intro rfl (rfl))
theorem oX11_timeOf_1 : OKI 165 1 (.getfield 32, 4, [12, 7, 2, 119, 0], 0, 0, []) := And.intro dX11_timeOf_1 (And.intro rfl (⟨(RX11, TX11, 69), "SpotTimersModel", rfl, by decide, tm_5 _ (List.mem_of_getElem? (i := 213) rfl) rfl, Or.inl rfl, rfl, rfl⟩))
theorem oX11_timeOf_4 : OKI 165 4 (.iload_n 1, 5, [1], 0, 0, []) := And.intro dX11_timeOf_4 (And.intro rfl (rfl))
theorem oX11_timeOf_5 : OKI 165 5 (.iaload, 6, [], 0, 0, []) := And.intro dX11_timeOf_5 rfl
theorem oX11_timeOf_6 : OKI 165 6 (.ifCond .lt 17, 9, [23], 0, 0, []) := And.intro dX11_timeOf_6 (And.intro rfl (by decide))
theorem oX11_timeOf_9 : OKI 165 9 (.iload_n 2, 10, [2], 0, 0, []) := And.intro dX11_timeOf_9 (And.intro rfl (rfl))
theorem oX11_timeOf_10 : OKI 165 10 (.aload_n 0, 11, [0], 0, 0, []) := And.intro dX11_timeOf_10 (And.intro rfl (rfl))
theorem oX11_timeOf_11 : OKI 165 11 (.getfield 32, 14, [12, 7, 2, 119, 0], 0, 0, []) := And.intro dX11_timeOf_11 (And.intro rfl (⟨(RX11, TX11, 69), "SpotTimersModel", rfl, by decide, tm_5 _ (List.mem_of_getElem? (i := 213) rfl) rfl, Or.inl rfl, rfl, rfl⟩))
theorem oX11_timeOf_14 : OKI 165 14 (.iload_n 1, 15, [1], 0, 0, []) := And.intro dX11_timeOf_14 (And.intro rfl (rfl))
theorem oX11_timeOf_15 : OKI 165 15 (.iaload, 16, [], 0, 0, []) := And.intro dX11_timeOf_15 rfl
theorem oX11_timeOf_16 : OKI 165 16 (.if_icmp .le 7, 19, [23], 0, 0, []) := And.intro dX11_timeOf_16 (And.intro rfl (by decide))
theorem oX11_timeOf_19 : OKI 165 19 (.ldc_w 256, 22, [], (-1000000000), 0, []) := And.intro dX11_timeOf_19 (And.intro rfl (tm_7 _ (List.mem_of_getElem? (i := 11) rfl) rfl))
theorem oX11_timeOf_22 : OKI 165 22 (.ireturn, 23, [0], 0, 0, []) := And.intro dX11_timeOf_22 (Or.inl (And.intro rfl rfl))
theorem oX11_timeOf_23 : OKI 165 23 (.aload_n 0, 24, [0], 0, 0, []) := And.intro dX11_timeOf_23 (And.intro rfl (rfl))
theorem oX11_timeOf_24 : OKI 165 24 (.iload_n 1, 25, [1], 0, 0, []) := And.intro dX11_timeOf_24 (And.intro rfl (rfl))
theorem oX11_timeOf_25 : OKI 165 25 (.iload_n 2, 26, [2], 0, 0, []) := And.intro dX11_timeOf_25 (And.intro rfl (rfl))
theorem oX11_timeOf_26 : OKI 165 26 (.invokevirtual 264, 29, [162, 3, 13, 0, 0, 1], 0, 0, []) := And.intro dX11_timeOf_26 (And.intro rfl (And.intro (by decide) (And.intro (by decide) (And.intro mo_X11_starBelow (And.intro (tm_7 _ (List.mem_of_getElem? (i := 24) rfl) rfl) (And.intro (tm_7 _ (List.mem_of_getElem? (i := 26) rfl) rfl) (And.intro (pm_4 _ (List.mem_of_getElem? (i := 3) rfl)) (Or.inl ⟨(RX11, TX11, 69), rfl, rfl⟩))))))))
theorem oX11_timeOf_29 : OKI 165 29 (.istore_n 3, 30, [3], 0, 0, []) := And.intro dX11_timeOf_29 (And.intro rfl (And.intro rfl (by decide)))
theorem oX11_timeOf_30 : OKI 165 30 (.aload_n 0, 31, [0], 0, 0, []) := And.intro dX11_timeOf_30 (And.intro rfl (rfl))
theorem oX11_timeOf_31 : OKI 165 31 (.iload_n 1, 32, [1], 0, 0, []) := And.intro dX11_timeOf_31 (And.intro rfl (rfl))
theorem oX11_timeOf_32 : OKI 165 32 (.iload_n 2, 33, [2], 0, 0, []) := And.intro dX11_timeOf_32 (And.intro rfl (rfl))
theorem oX11_timeOf_33 : OKI 165 33 (.iconst 1, 34, [], 1, 0, []) := And.intro dX11_timeOf_33 (And.intro rfl (by decide +kernel))
theorem oX11_timeOf_34 : OKI 165 34 (.iadd, 35, [], 0, 0, []) := And.intro dX11_timeOf_34 rfl
theorem oX11_timeOf_35 : OKI 165 35 (.invokevirtual 268, 38, [163, 3, 13, 0, 0, 1], 0, 0, []) := And.intro dX11_timeOf_35 (And.intro rfl (And.intro (by decide) (And.intro (by decide) (And.intro mo_X11_starAbove (And.intro (tm_7 _ (List.mem_of_getElem? (i := 32) rfl) rfl) (And.intro (tm_7 _ (List.mem_of_getElem? (i := 34) rfl) rfl) (And.intro (pm_4 _ (List.mem_of_getElem? (i := 5) rfl)) (Or.inl ⟨(RX11, TX11, 69), rfl, rfl⟩))))))))
theorem oX11_timeOf_38 : OKI 165 38 (.istore 4, 40, [4], 0, 0, []) := And.intro dX11_timeOf_38 (And.intro rfl (And.intro rfl (by decide)))
theorem oX11_timeOf_40 : OKI 165 40 (.iload_n 3, 41, [3], 0, 0, []) := And.intro dX11_timeOf_40 (And.intro rfl (rfl))
theorem oX11_timeOf_41 : OKI 165 41 (.ifCond .ge 12, 44, [53], 0, 0, []) := And.intro dX11_timeOf_41 (And.intro rfl (by decide))
theorem oX11_timeOf_44 : OKI 165 44 (.iload 4, 46, [4], 0, 0, []) := And.intro dX11_timeOf_44 (And.intro rfl (rfl))
theorem oX11_timeOf_46 : OKI 165 46 (.ifCond .ge 7, 49, [53], 0, 0, []) := And.intro dX11_timeOf_46 (And.intro rfl (by decide))
theorem oX11_timeOf_49 : OKI 165 49 (.ldc_w 256, 52, [], (-1000000000), 0, []) := And.intro dX11_timeOf_49 (And.intro rfl (tm_7 _ (List.mem_of_getElem? (i := 11) rfl) rfl))
theorem oX11_timeOf_52 : OKI 165 52 (.ireturn, 53, [0], 0, 0, []) := And.intro dX11_timeOf_52 (Or.inl (And.intro rfl rfl))
theorem oX11_timeOf_53 : OKI 165 53 (.iload_n 3, 54, [3], 0, 0, []) := And.intro dX11_timeOf_53 (And.intro rfl (rfl))
theorem oX11_timeOf_54 : OKI 165 54 (.ifCond .ge 24, 57, [78], 0, 0, []) := And.intro dX11_timeOf_54 (And.intro rfl (by decide))
theorem oX11_timeOf_57 : OKI 165 57 (.iload 4, 59, [4], 0, 0, []) := And.intro dX11_timeOf_57 (And.intro rfl (rfl))
theorem oX11_timeOf_59 : OKI 165 59 (.istore_n 3, 60, [3], 0, 0, []) := And.intro dX11_timeOf_59 (And.intro rfl (And.intro rfl (by decide)))
theorem oX11_timeOf_60 : OKI 165 60 (.aload_n 0, 61, [0], 0, 0, []) := And.intro dX11_timeOf_60 (And.intro rfl (rfl))
theorem oX11_timeOf_61 : OKI 165 61 (.iload_n 1, 62, [1], 0, 0, []) := And.intro dX11_timeOf_61 (And.intro rfl (rfl))
theorem oX11_timeOf_62 : OKI 165 62 (.aload_n 0, 63, [0], 0, 0, []) := And.intro dX11_timeOf_62 (And.intro rfl (rfl))
theorem oX11_timeOf_63 : OKI 165 63 (.getfield 47, 66, [12, 12, 2, 123, 0], 0, 0, []) := And.intro dX11_timeOf_63 (And.intro rfl (⟨(RX11, TX11, 69), "SpotTimersModel", rfl, by decide, tm_5 _ (List.mem_of_getElem? (i := 218) rfl) rfl, Or.inl rfl, rfl, rfl⟩))
theorem oX11_timeOf_66 : OKI 165 66 (.iload_n 3, 67, [3], 0, 0, []) := And.intro dX11_timeOf_66 (And.intro rfl (rfl))
theorem oX11_timeOf_67 : OKI 165 67 (.iaload, 68, [], 0, 0, []) := And.intro dX11_timeOf_67 rfl
theorem oX11_timeOf_68 : OKI 165 68 (.iconst 1, 69, [], 1, 0, []) := And.intro dX11_timeOf_68 (And.intro rfl (by decide +kernel))
theorem oX11_timeOf_69 : OKI 165 69 (.iadd, 70, [], 0, 0, []) := And.intro dX11_timeOf_69 rfl
theorem oX11_timeOf_70 : OKI 165 70 (.invokevirtual 268, 73, [163, 3, 13, 0, 0, 1], 0, 0, []) := And.intro dX11_timeOf_70 (And.intro rfl (And.intro (by decide) (And.intro (by decide) (And.intro mo_X11_starAbove (And.intro (tm_7 _ (List.mem_of_getElem? (i := 32) rfl) rfl) (And.intro (tm_7 _ (List.mem_of_getElem? (i := 34) rfl) rfl) (And.intro (pm_4 _ (List.mem_of_getElem? (i := 5) rfl)) (Or.inl ⟨(RX11, TX11, 69), rfl, rfl⟩))))))))
theorem oX11_timeOf_73 : OKI 165 73 (.istore 4, 75, [4], 0, 0, []) := And.intro dX11_timeOf_73 (And.intro rfl (And.intro rfl (by decide)))
theorem oX11_timeOf_75 : OKI 165 75 (.goto 36, 78, [111], 0, 0, []) := And.intro dX11_timeOf_75 (And.intro rfl (by decide))
theorem oX11_timeOf_78 : OKI 165 78 (.iload 4, 80, [4], 0, 0, []) := And.intro dX11_timeOf_78 (And.intro rfl (rfl))
theorem oX11_timeOf_80 : OKI 165 80 (.ifCond .ge 31, 83, [111], 0, 0, []) := And.intro dX11_timeOf_80 (And.intro rfl (by decide))
theorem oX11_timeOf_83 : OKI 165 83 (.iload_n 3, 84, [3], 0, 0, []) := And.intro dX11_timeOf_83 (And.intro rfl (rfl))
theorem oX11_timeOf_84 : OKI 165 84 (.istore 4, 86, [4], 0, 0, []) := And.intro dX11_timeOf_84 (And.intro rfl (And.intro rfl (by decide)))
theorem oX11_timeOf_86 : OKI 165 86 (.aload_n 0, 87, [0], 0, 0, []) := And.intro dX11_timeOf_86 (And.intro rfl (rfl))
theorem oX11_timeOf_87 : OKI 165 87 (.iload_n 1, 88, [1], 0, 0, []) := And.intro dX11_timeOf_87 (And.intro rfl (rfl))
theorem oX11_timeOf_88 : OKI 165 88 (.aload_n 0, 89, [0], 0, 0, []) := And.intro dX11_timeOf_88 (And.intro rfl (rfl))
theorem oX11_timeOf_89 : OKI 165 89 (.getfield 47, 92, [12, 12, 2, 123, 0], 0, 0, []) := And.intro dX11_timeOf_89 (And.intro rfl (⟨(RX11, TX11, 69), "SpotTimersModel", rfl, by decide, tm_5 _ (List.mem_of_getElem? (i := 218) rfl) rfl, Or.inl rfl, rfl, rfl⟩))
theorem oX11_timeOf_92 : OKI 165 92 (.iload 4, 94, [4], 0, 0, []) := And.intro dX11_timeOf_92 (And.intro rfl (rfl))
theorem oX11_timeOf_94 : OKI 165 94 (.iaload, 95, [], 0, 0, []) := And.intro dX11_timeOf_94 rfl
theorem oX11_timeOf_95 : OKI 165 95 (.iconst 1, 96, [], 1, 0, []) := And.intro dX11_timeOf_95 (And.intro rfl (by decide +kernel))
theorem oX11_timeOf_96 : OKI 165 96 (.isub, 97, [], 0, 0, []) := And.intro dX11_timeOf_96 rfl
theorem oX11_timeOf_97 : OKI 165 97 (.invokevirtual 264, 100, [162, 3, 13, 0, 0, 1], 0, 0, []) := And.intro dX11_timeOf_97 (And.intro rfl (And.intro (by decide) (And.intro (by decide) (And.intro mo_X11_starBelow (And.intro (tm_7 _ (List.mem_of_getElem? (i := 24) rfl) rfl) (And.intro (tm_7 _ (List.mem_of_getElem? (i := 26) rfl) rfl) (And.intro (pm_4 _ (List.mem_of_getElem? (i := 3) rfl)) (Or.inl ⟨(RX11, TX11, 69), rfl, rfl⟩))))))))
theorem oX11_timeOf_100 : OKI 165 100 (.istore_n 3, 101, [3], 0, 0, []) := And.intro dX11_timeOf_100 (And.intro rfl (And.intro rfl (by decide)))
theorem oX11_timeOf_101 : OKI 165 101 (.iload_n 3, 102, [3], 0, 0, []) := And.intro dX11_timeOf_101 (And.intro rfl (rfl))
theorem oX11_timeOf_102 : OKI 165 102 (.ifCond .ge 9, 105, [111], 0, 0, []) := And.intro dX11_timeOf_102 (And.intro rfl (by decide))
theorem oX11_timeOf_105 : OKI 165 105 (.iload 4, 107, [4], 0, 0, []) := And.intro dX11_timeOf_105 (And.intro rfl (rfl))
theorem oX11_timeOf_107 : OKI 165 107 (.istore_n 3, 108, [3], 0, 0, []) := And.intro dX11_timeOf_107 (And.intro rfl (And.intro rfl (by decide)))
theorem oX11_timeOf_108 : OKI 165 108 (.iconst (-1), 109, [], (-1), 0, []) := And.intro dX11_timeOf_108 (And.intro rfl (by decide +kernel))
theorem oX11_timeOf_109 : OKI 165 109 (.istore 4, 111, [4], 0, 0, []) := And.intro dX11_timeOf_109 (And.intro rfl (And.intro rfl (by decide)))
theorem oX11_timeOf_111 : OKI 165 111 (.iload 4, 113, [4], 0, 0, []) := And.intro dX11_timeOf_111 (And.intro rfl (rfl))
theorem oX11_timeOf_113 : OKI 165 113 (.ifCond .ge 24, 116, [137], 0, 0, []) := And.intro dX11_timeOf_113 (And.intro rfl (by decide))
theorem oX11_timeOf_116 : OKI 165 116 (.aload_n 0, 117, [0], 0, 0, []) := And.intro dX11_timeOf_116 (And.intro rfl (rfl))
theorem oX11_timeOf_117 : OKI 165 117 (.getfield 50, 120, [12, 13, 2, 124, 0], 0, 0, []) := And.intro dX11_timeOf_117 (And.intro rfl (⟨(RX11, TX11, 69), "SpotTimersModel", rfl, by decide, tm_5 _ (List.mem_of_getElem? (i := 219) rfl) rfl, Or.inl rfl, rfl, rfl⟩))
theorem oX11_timeOf_120 : OKI 165 120 (.iload_n 3, 121, [3], 0, 0, []) := And.intro dX11_timeOf_120 (And.intro rfl (rfl))
theorem oX11_timeOf_121 : OKI 165 121 (.iaload, 122, [], 0, 0, []) := And.intro dX11_timeOf_121 rfl
theorem oX11_timeOf_122 : OKI 165 122 (.i2l, 123, [], 0, 0, []) := And.intro dX11_timeOf_122 rfl
theorem oX11_timeOf_123 : OKI 165 123 (.iload_n 2, 124, [2], 0, 0, []) := And.intro dX11_timeOf_123 (And.intro rfl (rfl))
theorem oX11_timeOf_124 : OKI 165 124 (.i2l, 125, [], 0, 0, []) := And.intro dX11_timeOf_124 rfl
theorem oX11_timeOf_125 : OKI 165 125 (.ladd, 126, [], 0, 0, []) := And.intro dX11_timeOf_125 rfl
theorem oX11_timeOf_126 : OKI 165 126 (.aload_n 0, 127, [0], 0, 0, []) := And.intro dX11_timeOf_126 (And.intro rfl (rfl))
theorem oX11_timeOf_127 : OKI 165 127 (.getfield 47, 130, [12, 12, 2, 123, 0], 0, 0, []) := And.intro dX11_timeOf_127 (And.intro rfl (⟨(RX11, TX11, 69), "SpotTimersModel", rfl, by decide, tm_5 _ (List.mem_of_getElem? (i := 218) rfl) rfl, Or.inl rfl, rfl, rfl⟩))
theorem oX11_timeOf_130 : OKI 165 130 (.iload_n 3, 131, [3], 0, 0, []) := And.intro dX11_timeOf_130 (And.intro rfl (rfl))
theorem oX11_timeOf_131 : OKI 165 131 (.iaload, 132, [], 0, 0, []) := And.intro dX11_timeOf_131 rfl
theorem oX11_timeOf_132 : OKI 165 132 (.i2l, 133, [], 0, 0, []) := And.intro dX11_timeOf_132 rfl
theorem oX11_timeOf_133 : OKI 165 133 (.lsub, 134, [], 0, 0, []) := And.intro dX11_timeOf_133 rfl
theorem oX11_timeOf_134 : OKI 165 134 (.goto 58, 137, [192], 0, 0, []) := And.intro dX11_timeOf_134 (And.intro rfl (by decide))
theorem oX11_timeOf_137 : OKI 165 137 (.aload_n 0, 138, [0], 0, 0, []) := And.intro dX11_timeOf_137 (And.intro rfl (rfl))
theorem oX11_timeOf_138 : OKI 165 138 (.getfield 50, 141, [12, 13, 2, 124, 0], 0, 0, []) := And.intro dX11_timeOf_138 (And.intro rfl (⟨(RX11, TX11, 69), "SpotTimersModel", rfl, by decide, tm_5 _ (List.mem_of_getElem? (i := 219) rfl) rfl, Or.inl rfl, rfl, rfl⟩))
theorem oX11_timeOf_141 : OKI 165 141 (.iload_n 3, 142, [3], 0, 0, []) := And.intro dX11_timeOf_141 (And.intro rfl (rfl))
theorem oX11_timeOf_142 : OKI 165 142 (.iaload, 143, [], 0, 0, []) := And.intro dX11_timeOf_142 rfl
theorem oX11_timeOf_143 : OKI 165 143 (.i2l, 144, [], 0, 0, []) := And.intro dX11_timeOf_143 rfl
theorem oX11_timeOf_144 : OKI 165 144 (.aload_n 0, 145, [0], 0, 0, []) := And.intro dX11_timeOf_144 (And.intro rfl (rfl))
theorem oX11_timeOf_145 : OKI 165 145 (.iload_n 2, 146, [2], 0, 0, []) := And.intro dX11_timeOf_145 (And.intro rfl (rfl))
theorem oX11_timeOf_146 : OKI 165 146 (.i2l, 147, [], 0, 0, []) := And.intro dX11_timeOf_146 rfl
theorem oX11_timeOf_147 : OKI 165 147 (.aload_n 0, 148, [0], 0, 0, []) := And.intro dX11_timeOf_147 (And.intro rfl (rfl))
theorem oX11_timeOf_148 : OKI 165 148 (.getfield 47, 151, [12, 12, 2, 123, 0], 0, 0, []) := And.intro dX11_timeOf_148 (And.intro rfl (⟨(RX11, TX11, 69), "SpotTimersModel", rfl, by decide, tm_5 _ (List.mem_of_getElem? (i := 218) rfl) rfl, Or.inl rfl, rfl, rfl⟩))
theorem oX11_timeOf_151 : OKI 165 151 (.iload_n 3, 152, [3], 0, 0, []) := And.intro dX11_timeOf_151 (And.intro rfl (rfl))
theorem oX11_timeOf_152 : OKI 165 152 (.iaload, 153, [], 0, 0, []) := And.intro dX11_timeOf_152 rfl
theorem oX11_timeOf_153 : OKI 165 153 (.i2l, 154, [], 0, 0, []) := And.intro dX11_timeOf_153 rfl
theorem oX11_timeOf_154 : OKI 165 154 (.lsub, 155, [], 0, 0, []) := And.intro dX11_timeOf_154 rfl
theorem oX11_timeOf_155 : OKI 165 155 (.aload_n 0, 156, [0], 0, 0, []) := And.intro dX11_timeOf_155 (And.intro rfl (rfl))
theorem oX11_timeOf_156 : OKI 165 156 (.getfield 50, 159, [12, 13, 2, 124, 0], 0, 0, []) := And.intro dX11_timeOf_156 (And.intro rfl (⟨(RX11, TX11, 69), "SpotTimersModel", rfl, by decide, tm_5 _ (List.mem_of_getElem? (i := 219) rfl) rfl, Or.inl rfl, rfl, rfl⟩))
theorem oX11_timeOf_159 : OKI 165 159 (.iload 4, 161, [4], 0, 0, []) := And.intro dX11_timeOf_159 (And.intro rfl (rfl))
theorem oX11_timeOf_161 : OKI 165 161 (.iaload, 162, [], 0, 0, []) := And.intro dX11_timeOf_161 rfl
theorem oX11_timeOf_162 : OKI 165 162 (.i2l, 163, [], 0, 0, []) := And.intro dX11_timeOf_162 rfl
theorem oX11_timeOf_163 : OKI 165 163 (.aload_n 0, 164, [0], 0, 0, []) := And.intro dX11_timeOf_163 (And.intro rfl (rfl))
theorem oX11_timeOf_164 : OKI 165 164 (.getfield 50, 167, [12, 13, 2, 124, 0], 0, 0, []) := And.intro dX11_timeOf_164 (And.intro rfl (⟨(RX11, TX11, 69), "SpotTimersModel", rfl, by decide, tm_5 _ (List.mem_of_getElem? (i := 219) rfl) rfl, Or.inl rfl, rfl, rfl⟩))
theorem oX11_timeOf_167 : OKI 165 167 (.iload_n 3, 168, [3], 0, 0, []) := And.intro dX11_timeOf_167 (And.intro rfl (rfl))
theorem oX11_timeOf_168 : OKI 165 168 (.iaload, 169, [], 0, 0, []) := And.intro dX11_timeOf_168 rfl
theorem oX11_timeOf_169 : OKI 165 169 (.i2l, 170, [], 0, 0, []) := And.intro dX11_timeOf_169 rfl
theorem oX11_timeOf_170 : OKI 165 170 (.lsub, 171, [], 0, 0, []) := And.intro dX11_timeOf_170 rfl
theorem oX11_timeOf_171 : OKI 165 171 (.lmul, 172, [], 0, 0, []) := And.intro dX11_timeOf_171 rfl
theorem oX11_timeOf_172 : OKI 165 172 (.aload_n 0, 173, [0], 0, 0, []) := And.intro dX11_timeOf_172 (And.intro rfl (rfl))
theorem oX11_timeOf_173 : OKI 165 173 (.getfield 47, 176, [12, 12, 2, 123, 0], 0, 0, []) := And.intro dX11_timeOf_173 (And.intro rfl (⟨(RX11, TX11, 69), "SpotTimersModel", rfl, by decide, tm_5 _ (List.mem_of_getElem? (i := 218) rfl) rfl, Or.inl rfl, rfl, rfl⟩))
theorem oX11_timeOf_176 : OKI 165 176 (.iload 4, 178, [4], 0, 0, []) := And.intro dX11_timeOf_176 (And.intro rfl (rfl))
theorem oX11_timeOf_178 : OKI 165 178 (.iaload, 179, [], 0, 0, []) := And.intro dX11_timeOf_178 rfl
theorem oX11_timeOf_179 : OKI 165 179 (.i2l, 180, [], 0, 0, []) := And.intro dX11_timeOf_179 rfl
theorem oX11_timeOf_180 : OKI 165 180 (.aload_n 0, 181, [0], 0, 0, []) := And.intro dX11_timeOf_180 (And.intro rfl (rfl))
theorem oX11_timeOf_181 : OKI 165 181 (.getfield 47, 184, [12, 12, 2, 123, 0], 0, 0, []) := And.intro dX11_timeOf_181 (And.intro rfl (⟨(RX11, TX11, 69), "SpotTimersModel", rfl, by decide, tm_5 _ (List.mem_of_getElem? (i := 218) rfl) rfl, Or.inl rfl, rfl, rfl⟩))
theorem oX11_timeOf_184 : OKI 165 184 (.iload_n 3, 185, [3], 0, 0, []) := And.intro dX11_timeOf_184 (And.intro rfl (rfl))
theorem oX11_timeOf_185 : OKI 165 185 (.iaload, 186, [], 0, 0, []) := And.intro dX11_timeOf_185 rfl
theorem oX11_timeOf_186 : OKI 165 186 (.i2l, 187, [], 0, 0, []) := And.intro dX11_timeOf_186 rfl
theorem oX11_timeOf_187 : OKI 165 187 (.lsub, 188, [], 0, 0, []) := And.intro dX11_timeOf_187 rfl
theorem oX11_timeOf_188 : OKI 165 188 (.invokevirtual 271, 191, [144, 3, 13, 0, 0, 2], 0, 0, []) := And.intro dX11_timeOf_188 (And.intro rfl (And.intro (by decide) (And.intro (by decide) (And.intro mo_X11_down (And.intro (tm_7 _ (List.mem_of_getElem? (i := 36) rfl) rfl) (And.intro (tm_7 _ (List.mem_of_getElem? (i := 38) rfl) rfl) (And.intro (pm_4 _ (List.mem_of_getElem? (i := 6) rfl)) (Or.inl ⟨(RX11, TX11, 69), rfl, rfl⟩))))))))
theorem oX11_timeOf_191 : OKI 165 191 (.ladd, 192, [], 0, 0, []) := And.intro dX11_timeOf_191 rfl
theorem oX11_timeOf_192 : OKI 165 192 (.lstore 5, 194, [5], 0, 0, []) := And.intro dX11_timeOf_192 (And.intro rfl (And.intro rfl (by decide)))
theorem oX11_timeOf_194 : OKI 165 194 (.lload 5, 196, [5], 0, 0, []) := And.intro dX11_timeOf_194 (And.intro rfl (rfl))
theorem oX11_timeOf_196 : OKI 165 196 (.ldc2_w 275, 199, [], 0, (-2000000), []) := And.intro dX11_timeOf_196 (And.intro rfl (tm_7 _ (List.mem_of_getElem? (i := 40) rfl) rfl))
theorem oX11_timeOf_199 : OKI 165 199 (.lcmp, 200, [], 0, 0, []) := And.intro dX11_timeOf_199 rfl
theorem oX11_timeOf_200 : OKI 165 200 (.ifCond .lt 12, 203, [212], 0, 0, []) := And.intro dX11_timeOf_200 (And.intro rfl (by decide))
theorem oX11_timeOf_203 : OKI 165 203 (.lload 5, 205, [5], 0, 0, []) := And.intro dX11_timeOf_203 (And.intro rfl (rfl))
theorem oX11_timeOf_205 : OKI 165 205 (.ldc2_w 277, 208, [], 0, 2000000, []) := And.intro dX11_timeOf_205 (And.intro rfl (tm_7 _ (List.mem_of_getElem? (i := 41) rfl) rfl))
theorem oX11_timeOf_208 : OKI 165 208 (.lcmp, 209, [], 0, 0, []) := And.intro dX11_timeOf_208 rfl
theorem oX11_timeOf_209 : OKI 165 209 (.ifCond .le 9, 212, [218], 0, 0, []) := And.intro dX11_timeOf_209 (And.intro rfl (by decide))
theorem oX11_timeOf_212 : OKI 165 212 (.ldc_w 256, 215, [], (-1000000000), 0, []) := And.intro dX11_timeOf_212 (And.intro rfl (tm_7 _ (List.mem_of_getElem? (i := 11) rfl) rfl))
theorem oX11_timeOf_215 : OKI 165 215 (.goto 6, 218, [221], 0, 0, []) := And.intro dX11_timeOf_215 (And.intro rfl (by decide))
theorem oX11_timeOf_218 : OKI 165 218 (.lload 5, 220, [5], 0, 0, []) := And.intro dX11_timeOf_218 (And.intro rfl (rfl))
theorem oX11_timeOf_220 : OKI 165 220 (.l2i, 221, [], 0, 0, []) := And.intro dX11_timeOf_220 rfl
theorem oX11_timeOf_221 : OKI 165 221 (.ireturn, 222, [0], 0, 0, []) := And.intro dX11_timeOf_221 (Or.inl (And.intro rfl rfl))
def pfX11_timeOf (pc : Nat) : Option XE := (bif Nat.blt pc 116 then (bif Nat.blt pc 59 then (bif Nat.blt pc 29 then (bif Nat.blt pc 14 then (bif Nat.blt pc 6 then (bif Nat.blt pc 4 then (bif Nat.blt pc 1 then (bif Nat.beq pc 0 then some (.aload_n 0, 1, [0], 0, 0, []) else none) else (bif Nat.beq pc 1 then some (.getfield 32, 4, [12, 7, 2, 119, 0], 0, 0, []) else none)) else (bif Nat.blt pc 5 then (bif Nat.beq pc 4 then some (.iload_n 1, 5, [1], 0, 0, []) else none) else (bif Nat.beq pc 5 then some (.iaload, 6, [], 0, 0, []) else none))) else (bif Nat.blt pc 10 then (bif Nat.blt pc 9 then (bif Nat.beq pc 6 then some (.ifCond .lt 17, 9, [23], 0, 0, []) else none) else (bif Nat.beq pc 9 then some (.iload_n 2, 10, [2], 0, 0, []) else none)) else (bif Nat.blt pc 11 then (bif Nat.beq pc 10 then some (.aload_n 0, 11, [0], 0, 0, []) else none) else (bif Nat.beq pc 11 then some (.getfield 32, 14, [12, 7, 2, 119, 0], 0, 0, []) else none)))) else (bif Nat.blt pc 22 then (bif Nat.blt pc 16 then (bif Nat.blt pc 15 then (bif Nat.beq pc 14 then some (.iload_n 1, 15, [1], 0, 0, []) else none) else (bif Nat.beq pc 15 then some (.iaload, 16, [], 0, 0, []) else none)) else (bif Nat.blt pc 19 then (bif Nat.beq pc 16 then some (.if_icmp .le 7, 19, [23], 0, 0, []) else none) else (bif Nat.beq pc 19 then some (.ldc_w 256, 22, [], (-1000000000), 0, []) else none))) else (bif Nat.blt pc 24 then (bif Nat.blt pc 23 then (bif Nat.beq pc 22 then some (.ireturn, 23, [0], 0, 0, []) else none) else (bif Nat.beq pc 23 then some (.aload_n 0, 24, [0], 0, 0, []) else none)) else (bif Nat.blt pc 25 then (bif Nat.beq pc 24 then some (.iload_n 1, 25, [1], 0, 0, []) else none) else (bif Nat.blt pc 26 then (bif Nat.beq pc 25 then some (.iload_n 2, 26, [2], 0, 0, []) else none) else (bif Nat.beq pc 26 then some (.invokevirtual 264, 29, [162, 3, 13, 0, 0, 1], 0, 0, []) else none)))))) else (bif Nat.blt pc 40 then (bif Nat.blt pc 33 then (bif Nat.blt pc 31 then (bif Nat.blt pc 30 then (bif Nat.beq pc 29 then some (.istore_n 3, 30, [3], 0, 0, []) else none) else (bif Nat.beq pc 30 then some (.aload_n 0, 31, [0], 0, 0, []) else none)) else (bif Nat.blt pc 32 then (bif Nat.beq pc 31 then some (.iload_n 1, 32, [1], 0, 0, []) else none) else (bif Nat.beq pc 32 then some (.iload_n 2, 33, [2], 0, 0, []) else none))) else (bif Nat.blt pc 35 then (bif Nat.blt pc 34 then (bif Nat.beq pc 33 then some (.iconst 1, 34, [], 1, 0, []) else none) else (bif Nat.beq pc 34 then some (.iadd, 35, [], 0, 0, []) else none)) else (bif Nat.blt pc 38 then (bif Nat.beq pc 35 then some (.invokevirtual 268, 38, [163, 3, 13, 0, 0, 1], 0, 0, []) else none) else (bif Nat.beq pc 38 then some (.istore 4, 40, [4], 0, 0, []) else none)))) else (bif Nat.blt pc 49 then (bif Nat.blt pc 44 then (bif Nat.blt pc 41 then (bif Nat.beq pc 40 then some (.iload_n 3, 41, [3], 0, 0, []) else none) else (bif Nat.beq pc 41 then some (.ifCond .ge 12, 44, [53], 0, 0, []) else none)) else (bif Nat.blt pc 46 then (bif Nat.beq pc 44 then some (.iload 4, 46, [4], 0, 0, []) else none) else (bif Nat.beq pc 46 then some (.ifCond .ge 7, 49, [53], 0, 0, []) else none))) else (bif Nat.blt pc 53 then (bif Nat.blt pc 52 then (bif Nat.beq pc 49 then some (.ldc_w 256, 52, [], (-1000000000), 0, []) else none) else (bif Nat.beq pc 52 then some (.ireturn, 53, [0], 0, 0, []) else none)) else (bif Nat.blt pc 54 then (bif Nat.beq pc 53 then some (.iload_n 3, 54, [3], 0, 0, []) else none) else (bif Nat.blt pc 57 then (bif Nat.beq pc 54 then some (.ifCond .ge 24, 57, [78], 0, 0, []) else none) else (bif Nat.beq pc 57 then some (.iload 4, 59, [4], 0, 0, []) else none))))))) else (bif Nat.blt pc 87 then (bif Nat.blt pc 69 then (bif Nat.blt pc 63 then (bif Nat.blt pc 61 then (bif Nat.blt pc 60 then (bif Nat.beq pc 59 then some (.istore_n 3, 60, [3], 0, 0, []) else none) else (bif Nat.beq pc 60 then some (.aload_n 0, 61, [0], 0, 0, []) else none)) else (bif Nat.blt pc 62 then (bif Nat.beq pc 61 then some (.iload_n 1, 62, [1], 0, 0, []) else none) else (bif Nat.beq pc 62 then some (.aload_n 0, 63, [0], 0, 0, []) else none))) else (bif Nat.blt pc 67 then (bif Nat.blt pc 66 then (bif Nat.beq pc 63 then some (.getfield 47, 66, [12, 12, 2, 123, 0], 0, 0, []) else none) else (bif Nat.beq pc 66 then some (.iload_n 3, 67, [3], 0, 0, []) else none)) else (bif Nat.blt pc 68 then (bif Nat.beq pc 67 then some (.iaload, 68, [], 0, 0, []) else none) else (bif Nat.beq pc 68 then some (.iconst 1, 69, [], 1, 0, []) else none)))) else (bif Nat.blt pc 78 then (bif Nat.blt pc 73 then (bif Nat.blt pc 70 then (bif Nat.beq pc 69 then some (.iadd, 70, [], 0, 0, []) else none) else (bif Nat.beq pc 70 then some (.invokevirtual 268, 73, [163, 3, 13, 0, 0, 1], 0, 0, []) else none)) else (bif Nat.blt pc 75 then (bif Nat.beq pc 73 then some (.istore 4, 75, [4], 0, 0, []) else none) else (bif Nat.beq pc 75 then some (.goto 36, 78, [111], 0, 0, []) else none))) else (bif Nat.blt pc 83 then (bif Nat.blt pc 80 then (bif Nat.beq pc 78 then some (.iload 4, 80, [4], 0, 0, []) else none) else (bif Nat.beq pc 80 then some (.ifCond .ge 31, 83, [111], 0, 0, []) else none)) else (bif Nat.blt pc 84 then (bif Nat.beq pc 83 then some (.iload_n 3, 84, [3], 0, 0, []) else none) else (bif Nat.blt pc 86 then (bif Nat.beq pc 84 then some (.istore 4, 86, [4], 0, 0, []) else none) else (bif Nat.beq pc 86 then some (.aload_n 0, 87, [0], 0, 0, []) else none)))))) else (bif Nat.blt pc 100 then (bif Nat.blt pc 94 then (bif Nat.blt pc 89 then (bif Nat.blt pc 88 then (bif Nat.beq pc 87 then some (.iload_n 1, 88, [1], 0, 0, []) else none) else (bif Nat.beq pc 88 then some (.aload_n 0, 89, [0], 0, 0, []) else none)) else (bif Nat.blt pc 92 then (bif Nat.beq pc 89 then some (.getfield 47, 92, [12, 12, 2, 123, 0], 0, 0, []) else none) else (bif Nat.beq pc 92 then some (.iload 4, 94, [4], 0, 0, []) else none))) else (bif Nat.blt pc 96 then (bif Nat.blt pc 95 then (bif Nat.beq pc 94 then some (.iaload, 95, [], 0, 0, []) else none) else (bif Nat.beq pc 95 then some (.iconst 1, 96, [], 1, 0, []) else none)) else (bif Nat.blt pc 97 then (bif Nat.beq pc 96 then some (.isub, 97, [], 0, 0, []) else none) else (bif Nat.beq pc 97 then some (.invokevirtual 264, 100, [162, 3, 13, 0, 0, 1], 0, 0, []) else none)))) else (bif Nat.blt pc 107 then (bif Nat.blt pc 102 then (bif Nat.blt pc 101 then (bif Nat.beq pc 100 then some (.istore_n 3, 101, [3], 0, 0, []) else none) else (bif Nat.beq pc 101 then some (.iload_n 3, 102, [3], 0, 0, []) else none)) else (bif Nat.blt pc 105 then (bif Nat.beq pc 102 then some (.ifCond .ge 9, 105, [111], 0, 0, []) else none) else (bif Nat.beq pc 105 then some (.iload 4, 107, [4], 0, 0, []) else none))) else (bif Nat.blt pc 109 then (bif Nat.blt pc 108 then (bif Nat.beq pc 107 then some (.istore_n 3, 108, [3], 0, 0, []) else none) else (bif Nat.beq pc 108 then some (.iconst (-1), 109, [], (-1), 0, []) else none)) else (bif Nat.blt pc 111 then (bif Nat.beq pc 109 then some (.istore 4, 111, [4], 0, 0, []) else none) else (bif Nat.blt pc 113 then (bif Nat.beq pc 111 then some (.iload 4, 113, [4], 0, 0, []) else none) else (bif Nat.beq pc 113 then some (.ifCond .ge 24, 116, [137], 0, 0, []) else none)))))))) else (bif Nat.blt pc 163 then (bif Nat.blt pc 141 then (bif Nat.blt pc 126 then (bif Nat.blt pc 122 then (bif Nat.blt pc 120 then (bif Nat.blt pc 117 then (bif Nat.beq pc 116 then some (.aload_n 0, 117, [0], 0, 0, []) else none) else (bif Nat.beq pc 117 then some (.getfield 50, 120, [12, 13, 2, 124, 0], 0, 0, []) else none)) else (bif Nat.blt pc 121 then (bif Nat.beq pc 120 then some (.iload_n 3, 121, [3], 0, 0, []) else none) else (bif Nat.beq pc 121 then some (.iaload, 122, [], 0, 0, []) else none))) else (bif Nat.blt pc 124 then (bif Nat.blt pc 123 then (bif Nat.beq pc 122 then some (.i2l, 123, [], 0, 0, []) else none) else (bif Nat.beq pc 123 then some (.iload_n 2, 124, [2], 0, 0, []) else none)) else (bif Nat.blt pc 125 then (bif Nat.beq pc 124 then some (.i2l, 125, [], 0, 0, []) else none) else (bif Nat.beq pc 125 then some (.ladd, 126, [], 0, 0, []) else none)))) else (bif Nat.blt pc 132 then (bif Nat.blt pc 130 then (bif Nat.blt pc 127 then (bif Nat.beq pc 126 then some (.aload_n 0, 127, [0], 0, 0, []) else none) else (bif Nat.beq pc 127 then some (.getfield 47, 130, [12, 12, 2, 123, 0], 0, 0, []) else none)) else (bif Nat.blt pc 131 then (bif Nat.beq pc 130 then some (.iload_n 3, 131, [3], 0, 0, []) else none) else (bif Nat.beq pc 131 then some (.iaload, 132, [], 0, 0, []) else none))) else (bif Nat.blt pc 134 then (bif Nat.blt pc 133 then (bif Nat.beq pc 132 then some (.i2l, 133, [], 0, 0, []) else none) else (bif Nat.beq pc 133 then some (.lsub, 134, [], 0, 0, []) else none)) else (bif Nat.blt pc 137 then (bif Nat.beq pc 134 then some (.goto 58, 137, [192], 0, 0, []) else none) else (bif Nat.blt pc 138 then (bif Nat.beq pc 137 then some (.aload_n 0, 138, [0], 0, 0, []) else none) else (bif Nat.beq pc 138 then some (.getfield 50, 141, [12, 13, 2, 124, 0], 0, 0, []) else none)))))) else (bif Nat.blt pc 151 then (bif Nat.blt pc 145 then (bif Nat.blt pc 143 then (bif Nat.blt pc 142 then (bif Nat.beq pc 141 then some (.iload_n 3, 142, [3], 0, 0, []) else none) else (bif Nat.beq pc 142 then some (.iaload, 143, [], 0, 0, []) else none)) else (bif Nat.blt pc 144 then (bif Nat.beq pc 143 then some (.i2l, 144, [], 0, 0, []) else none) else (bif Nat.beq pc 144 then some (.aload_n 0, 145, [0], 0, 0, []) else none))) else (bif Nat.blt pc 147 then (bif Nat.blt pc 146 then (bif Nat.beq pc 145 then some (.iload_n 2, 146, [2], 0, 0, []) else none) else (bif Nat.beq pc 146 then some (.i2l, 147, [], 0, 0, []) else none)) else (bif Nat.blt pc 148 then (bif Nat.beq pc 147 then some (.aload_n 0, 148, [0], 0, 0, []) else none) else (bif Nat.beq pc 148 then some (.getfield 47, 151, [12, 12, 2, 123, 0], 0, 0, []) else none)))) else (bif Nat.blt pc 155 then (bif Nat.blt pc 153 then (bif Nat.blt pc 152 then (bif Nat.beq pc 151 then some (.iload_n 3, 152, [3], 0, 0, []) else none) else (bif Nat.beq pc 152 then some (.iaload, 153, [], 0, 0, []) else none)) else (bif Nat.blt pc 154 then (bif Nat.beq pc 153 then some (.i2l, 154, [], 0, 0, []) else none) else (bif Nat.beq pc 154 then some (.lsub, 155, [], 0, 0, []) else none))) else (bif Nat.blt pc 159 then (bif Nat.blt pc 156 then (bif Nat.beq pc 155 then some (.aload_n 0, 156, [0], 0, 0, []) else none) else (bif Nat.beq pc 156 then some (.getfield 50, 159, [12, 13, 2, 124, 0], 0, 0, []) else none)) else (bif Nat.blt pc 161 then (bif Nat.beq pc 159 then some (.iload 4, 161, [4], 0, 0, []) else none) else (bif Nat.blt pc 162 then (bif Nat.beq pc 161 then some (.iaload, 162, [], 0, 0, []) else none) else (bif Nat.beq pc 162 then some (.i2l, 163, [], 0, 0, []) else none))))))) else (bif Nat.blt pc 187 then (bif Nat.blt pc 173 then (bif Nat.blt pc 169 then (bif Nat.blt pc 167 then (bif Nat.blt pc 164 then (bif Nat.beq pc 163 then some (.aload_n 0, 164, [0], 0, 0, []) else none) else (bif Nat.beq pc 164 then some (.getfield 50, 167, [12, 13, 2, 124, 0], 0, 0, []) else none)) else (bif Nat.blt pc 168 then (bif Nat.beq pc 167 then some (.iload_n 3, 168, [3], 0, 0, []) else none) else (bif Nat.beq pc 168 then some (.iaload, 169, [], 0, 0, []) else none))) else (bif Nat.blt pc 171 then (bif Nat.blt pc 170 then (bif Nat.beq pc 169 then some (.i2l, 170, [], 0, 0, []) else none) else (bif Nat.beq pc 170 then some (.lsub, 171, [], 0, 0, []) else none)) else (bif Nat.blt pc 172 then (bif Nat.beq pc 171 then some (.lmul, 172, [], 0, 0, []) else none) else (bif Nat.beq pc 172 then some (.aload_n 0, 173, [0], 0, 0, []) else none)))) else (bif Nat.blt pc 180 then (bif Nat.blt pc 178 then (bif Nat.blt pc 176 then (bif Nat.beq pc 173 then some (.getfield 47, 176, [12, 12, 2, 123, 0], 0, 0, []) else none) else (bif Nat.beq pc 176 then some (.iload 4, 178, [4], 0, 0, []) else none)) else (bif Nat.blt pc 179 then (bif Nat.beq pc 178 then some (.iaload, 179, [], 0, 0, []) else none) else (bif Nat.beq pc 179 then some (.i2l, 180, [], 0, 0, []) else none))) else (bif Nat.blt pc 184 then (bif Nat.blt pc 181 then (bif Nat.beq pc 180 then some (.aload_n 0, 181, [0], 0, 0, []) else none) else (bif Nat.beq pc 181 then some (.getfield 47, 184, [12, 12, 2, 123, 0], 0, 0, []) else none)) else (bif Nat.blt pc 185 then (bif Nat.beq pc 184 then some (.iload_n 3, 185, [3], 0, 0, []) else none) else (bif Nat.blt pc 186 then (bif Nat.beq pc 185 then some (.iaload, 186, [], 0, 0, []) else none) else (bif Nat.beq pc 186 then some (.i2l, 187, [], 0, 0, []) else none)))))) else (bif Nat.blt pc 203 then (bif Nat.blt pc 194 then (bif Nat.blt pc 191 then (bif Nat.blt pc 188 then (bif Nat.beq pc 187 then some (.lsub, 188, [], 0, 0, []) else none) else (bif Nat.beq pc 188 then some (.invokevirtual 271, 191, [144, 3, 13, 0, 0, 2], 0, 0, []) else none)) else (bif Nat.blt pc 192 then (bif Nat.beq pc 191 then some (.ladd, 192, [], 0, 0, []) else none) else (bif Nat.beq pc 192 then some (.lstore 5, 194, [5], 0, 0, []) else none))) else (bif Nat.blt pc 199 then (bif Nat.blt pc 196 then (bif Nat.beq pc 194 then some (.lload 5, 196, [5], 0, 0, []) else none) else (bif Nat.beq pc 196 then some (.ldc2_w 275, 199, [], 0, (-2000000), []) else none)) else (bif Nat.blt pc 200 then (bif Nat.beq pc 199 then some (.lcmp, 200, [], 0, 0, []) else none) else (bif Nat.beq pc 200 then some (.ifCond .lt 12, 203, [212], 0, 0, []) else none)))) else (bif Nat.blt pc 212 then (bif Nat.blt pc 208 then (bif Nat.blt pc 205 then (bif Nat.beq pc 203 then some (.lload 5, 205, [5], 0, 0, []) else none) else (bif Nat.beq pc 205 then some (.ldc2_w 277, 208, [], 0, 2000000, []) else none)) else (bif Nat.blt pc 209 then (bif Nat.beq pc 208 then some (.lcmp, 209, [], 0, 0, []) else none) else (bif Nat.beq pc 209 then some (.ifCond .le 9, 212, [218], 0, 0, []) else none))) else (bif Nat.blt pc 218 then (bif Nat.blt pc 215 then (bif Nat.beq pc 212 then some (.ldc_w 256, 215, [], (-1000000000), 0, []) else none) else (bif Nat.beq pc 215 then some (.goto 6, 218, [221], 0, 0, []) else none)) else (bif Nat.blt pc 220 then (bif Nat.beq pc 218 then some (.lload 5, 220, [5], 0, 0, []) else none) else (bif Nat.blt pc 221 then (bif Nat.beq pc 220 then some (.l2i, 221, [], 0, 0, []) else none) else (bif Nat.beq pc 221 then some (.ireturn, 222, [0], 0, 0, []) else none)))))))))
theorem okX11_timeOf : ∀ pc Y, pfX11_timeOf pc = some Y → OKI m_X11_timeOf pc Y := fun pc Y => ((bt_node (bt_node (bt_node (bt_node (bt_node (bt_node (bt_node (bt_leaf (P := OKI m_X11_timeOf) oX11_timeOf_0) (bt_leaf (P := OKI m_X11_timeOf) oX11_timeOf_1)) (bt_node (bt_leaf (P := OKI m_X11_timeOf) oX11_timeOf_4) (bt_leaf (P := OKI m_X11_timeOf) oX11_timeOf_5))) (bt_node (bt_node (bt_leaf (P := OKI m_X11_timeOf) oX11_timeOf_6) (bt_leaf (P := OKI m_X11_timeOf) oX11_timeOf_9)) (bt_node (bt_leaf (P := OKI m_X11_timeOf) oX11_timeOf_10) (bt_leaf (P := OKI m_X11_timeOf) oX11_timeOf_11)))) (bt_node (bt_node (bt_node (bt_leaf (P := OKI m_X11_timeOf) oX11_timeOf_14) (bt_leaf (P := OKI m_X11_timeOf) oX11_timeOf_15)) (bt_node (bt_leaf (P := OKI m_X11_timeOf) oX11_timeOf_16) (bt_leaf (P := OKI m_X11_timeOf) oX11_timeOf_19))) (bt_node (bt_node (bt_leaf (P := OKI m_X11_timeOf) oX11_timeOf_22) (bt_leaf (P := OKI m_X11_timeOf) oX11_timeOf_23)) (bt_node (bt_leaf (P := OKI m_X11_timeOf) oX11_timeOf_24) (bt_node (bt_leaf (P := OKI m_X11_timeOf) oX11_timeOf_25) (bt_leaf (P := OKI m_X11_timeOf) oX11_timeOf_26)))))) (bt_node (bt_node (bt_node (bt_node (bt_leaf (P := OKI m_X11_timeOf) oX11_timeOf_29) (bt_leaf (P := OKI m_X11_timeOf) oX11_timeOf_30)) (bt_node (bt_leaf (P := OKI m_X11_timeOf) oX11_timeOf_31) (bt_leaf (P := OKI m_X11_timeOf) oX11_timeOf_32))) (bt_node (bt_node (bt_leaf (P := OKI m_X11_timeOf) oX11_timeOf_33) (bt_leaf (P := OKI m_X11_timeOf) oX11_timeOf_34)) (bt_node (bt_leaf (P := OKI m_X11_timeOf) oX11_timeOf_35) (bt_leaf (P := OKI m_X11_timeOf) oX11_timeOf_38)))) (bt_node (bt_node (bt_node (bt_leaf (P := OKI m_X11_timeOf) oX11_timeOf_40) (bt_leaf (P := OKI m_X11_timeOf) oX11_timeOf_41)) (bt_node (bt_leaf (P := OKI m_X11_timeOf) oX11_timeOf_44) (bt_leaf (P := OKI m_X11_timeOf) oX11_timeOf_46))) (bt_node (bt_node (bt_leaf (P := OKI m_X11_timeOf) oX11_timeOf_49) (bt_leaf (P := OKI m_X11_timeOf) oX11_timeOf_52)) (bt_node (bt_leaf (P := OKI m_X11_timeOf) oX11_timeOf_53) (bt_node (bt_leaf (P := OKI m_X11_timeOf) oX11_timeOf_54) (bt_leaf (P := OKI m_X11_timeOf) oX11_timeOf_57))))))) (bt_node (bt_node (bt_node (bt_node (bt_node (bt_leaf (P := OKI m_X11_timeOf) oX11_timeOf_59) (bt_leaf (P := OKI m_X11_timeOf) oX11_timeOf_60)) (bt_node (bt_leaf (P := OKI m_X11_timeOf) oX11_timeOf_61) (bt_leaf (P := OKI m_X11_timeOf) oX11_timeOf_62))) (bt_node (bt_node (bt_leaf (P := OKI m_X11_timeOf) oX11_timeOf_63) (bt_leaf (P := OKI m_X11_timeOf) oX11_timeOf_66)) (bt_node (bt_leaf (P := OKI m_X11_timeOf) oX11_timeOf_67) (bt_leaf (P := OKI m_X11_timeOf) oX11_timeOf_68)))) (bt_node (bt_node (bt_node (bt_leaf (P := OKI m_X11_timeOf) oX11_timeOf_69) (bt_leaf (P := OKI m_X11_timeOf) oX11_timeOf_70)) (bt_node (bt_leaf (P := OKI m_X11_timeOf) oX11_timeOf_73) (bt_leaf (P := OKI m_X11_timeOf) oX11_timeOf_75))) (bt_node (bt_node (bt_leaf (P := OKI m_X11_timeOf) oX11_timeOf_78) (bt_leaf (P := OKI m_X11_timeOf) oX11_timeOf_80)) (bt_node (bt_leaf (P := OKI m_X11_timeOf) oX11_timeOf_83) (bt_node (bt_leaf (P := OKI m_X11_timeOf) oX11_timeOf_84) (bt_leaf (P := OKI m_X11_timeOf) oX11_timeOf_86)))))) (bt_node (bt_node (bt_node (bt_node (bt_leaf (P := OKI m_X11_timeOf) oX11_timeOf_87) (bt_leaf (P := OKI m_X11_timeOf) oX11_timeOf_88)) (bt_node (bt_leaf (P := OKI m_X11_timeOf) oX11_timeOf_89) (bt_leaf (P := OKI m_X11_timeOf) oX11_timeOf_92))) (bt_node (bt_node (bt_leaf (P := OKI m_X11_timeOf) oX11_timeOf_94) (bt_leaf (P := OKI m_X11_timeOf) oX11_timeOf_95)) (bt_node (bt_leaf (P := OKI m_X11_timeOf) oX11_timeOf_96) (bt_leaf (P := OKI m_X11_timeOf) oX11_timeOf_97)))) (bt_node (bt_node (bt_node (bt_leaf (P := OKI m_X11_timeOf) oX11_timeOf_100) (bt_leaf (P := OKI m_X11_timeOf) oX11_timeOf_101)) (bt_node (bt_leaf (P := OKI m_X11_timeOf) oX11_timeOf_102) (bt_leaf (P := OKI m_X11_timeOf) oX11_timeOf_105))) (bt_node (bt_node (bt_leaf (P := OKI m_X11_timeOf) oX11_timeOf_107) (bt_leaf (P := OKI m_X11_timeOf) oX11_timeOf_108)) (bt_node (bt_leaf (P := OKI m_X11_timeOf) oX11_timeOf_109) (bt_node (bt_leaf (P := OKI m_X11_timeOf) oX11_timeOf_111) (bt_leaf (P := OKI m_X11_timeOf) oX11_timeOf_113)))))))) (bt_node (bt_node (bt_node (bt_node (bt_node (bt_node (bt_leaf (P := OKI m_X11_timeOf) oX11_timeOf_116) (bt_leaf (P := OKI m_X11_timeOf) oX11_timeOf_117)) (bt_node (bt_leaf (P := OKI m_X11_timeOf) oX11_timeOf_120) (bt_leaf (P := OKI m_X11_timeOf) oX11_timeOf_121))) (bt_node (bt_node (bt_leaf (P := OKI m_X11_timeOf) oX11_timeOf_122) (bt_leaf (P := OKI m_X11_timeOf) oX11_timeOf_123)) (bt_node (bt_leaf (P := OKI m_X11_timeOf) oX11_timeOf_124) (bt_leaf (P := OKI m_X11_timeOf) oX11_timeOf_125)))) (bt_node (bt_node (bt_node (bt_leaf (P := OKI m_X11_timeOf) oX11_timeOf_126) (bt_leaf (P := OKI m_X11_timeOf) oX11_timeOf_127)) (bt_node (bt_leaf (P := OKI m_X11_timeOf) oX11_timeOf_130) (bt_leaf (P := OKI m_X11_timeOf) oX11_timeOf_131))) (bt_node (bt_node (bt_leaf (P := OKI m_X11_timeOf) oX11_timeOf_132) (bt_leaf (P := OKI m_X11_timeOf) oX11_timeOf_133)) (bt_node (bt_leaf (P := OKI m_X11_timeOf) oX11_timeOf_134) (bt_node (bt_leaf (P := OKI m_X11_timeOf) oX11_timeOf_137) (bt_leaf (P := OKI m_X11_timeOf) oX11_timeOf_138)))))) (bt_node (bt_node (bt_node (bt_node (bt_leaf (P := OKI m_X11_timeOf) oX11_timeOf_141) (bt_leaf (P := OKI m_X11_timeOf) oX11_timeOf_142)) (bt_node (bt_leaf (P := OKI m_X11_timeOf) oX11_timeOf_143) (bt_leaf (P := OKI m_X11_timeOf) oX11_timeOf_144))) (bt_node (bt_node (bt_leaf (P := OKI m_X11_timeOf) oX11_timeOf_145) (bt_leaf (P := OKI m_X11_timeOf) oX11_timeOf_146)) (bt_node (bt_leaf (P := OKI m_X11_timeOf) oX11_timeOf_147) (bt_leaf (P := OKI m_X11_timeOf) oX11_timeOf_148)))) (bt_node (bt_node (bt_node (bt_leaf (P := OKI m_X11_timeOf) oX11_timeOf_151) (bt_leaf (P := OKI m_X11_timeOf) oX11_timeOf_152)) (bt_node (bt_leaf (P := OKI m_X11_timeOf) oX11_timeOf_153) (bt_leaf (P := OKI m_X11_timeOf) oX11_timeOf_154))) (bt_node (bt_node (bt_leaf (P := OKI m_X11_timeOf) oX11_timeOf_155) (bt_leaf (P := OKI m_X11_timeOf) oX11_timeOf_156)) (bt_node (bt_leaf (P := OKI m_X11_timeOf) oX11_timeOf_159) (bt_node (bt_leaf (P := OKI m_X11_timeOf) oX11_timeOf_161) (bt_leaf (P := OKI m_X11_timeOf) oX11_timeOf_162))))))) (bt_node (bt_node (bt_node (bt_node (bt_node (bt_leaf (P := OKI m_X11_timeOf) oX11_timeOf_163) (bt_leaf (P := OKI m_X11_timeOf) oX11_timeOf_164)) (bt_node (bt_leaf (P := OKI m_X11_timeOf) oX11_timeOf_167) (bt_leaf (P := OKI m_X11_timeOf) oX11_timeOf_168))) (bt_node (bt_node (bt_leaf (P := OKI m_X11_timeOf) oX11_timeOf_169) (bt_leaf (P := OKI m_X11_timeOf) oX11_timeOf_170)) (bt_node (bt_leaf (P := OKI m_X11_timeOf) oX11_timeOf_171) (bt_leaf (P := OKI m_X11_timeOf) oX11_timeOf_172)))) (bt_node (bt_node (bt_node (bt_leaf (P := OKI m_X11_timeOf) oX11_timeOf_173) (bt_leaf (P := OKI m_X11_timeOf) oX11_timeOf_176)) (bt_node (bt_leaf (P := OKI m_X11_timeOf) oX11_timeOf_178) (bt_leaf (P := OKI m_X11_timeOf) oX11_timeOf_179))) (bt_node (bt_node (bt_leaf (P := OKI m_X11_timeOf) oX11_timeOf_180) (bt_leaf (P := OKI m_X11_timeOf) oX11_timeOf_181)) (bt_node (bt_leaf (P := OKI m_X11_timeOf) oX11_timeOf_184) (bt_node (bt_leaf (P := OKI m_X11_timeOf) oX11_timeOf_185) (bt_leaf (P := OKI m_X11_timeOf) oX11_timeOf_186)))))) (bt_node (bt_node (bt_node (bt_node (bt_leaf (P := OKI m_X11_timeOf) oX11_timeOf_187) (bt_leaf (P := OKI m_X11_timeOf) oX11_timeOf_188)) (bt_node (bt_leaf (P := OKI m_X11_timeOf) oX11_timeOf_191) (bt_leaf (P := OKI m_X11_timeOf) oX11_timeOf_192))) (bt_node (bt_node (bt_leaf (P := OKI m_X11_timeOf) oX11_timeOf_194) (bt_leaf (P := OKI m_X11_timeOf) oX11_timeOf_196)) (bt_node (bt_leaf (P := OKI m_X11_timeOf) oX11_timeOf_199) (bt_leaf (P := OKI m_X11_timeOf) oX11_timeOf_200)))) (bt_node (bt_node (bt_node (bt_leaf (P := OKI m_X11_timeOf) oX11_timeOf_203) (bt_leaf (P := OKI m_X11_timeOf) oX11_timeOf_205)) (bt_node (bt_leaf (P := OKI m_X11_timeOf) oX11_timeOf_208) (bt_leaf (P := OKI m_X11_timeOf) oX11_timeOf_209))) (bt_node (bt_node (bt_leaf (P := OKI m_X11_timeOf) oX11_timeOf_212) (bt_leaf (P := OKI m_X11_timeOf) oX11_timeOf_215)) (bt_node (bt_leaf (P := OKI m_X11_timeOf) oX11_timeOf_218) (bt_node (bt_leaf (P := OKI m_X11_timeOf) oX11_timeOf_220) (bt_leaf (P := OKI m_X11_timeOf) oX11_timeOf_221))))))))) : pfX11_timeOf pc = some Y → OKI m_X11_timeOf pc Y)
def stpX11_timeOf (pc : Nat) : Option (List Bool) := (bif Nat.blt pc 192 then (bif Nat.blt pc 53 then (bif Nat.beq pc 23 then some [true, true, true, false, false, false, false] else none) else (bif Nat.blt pc 111 then (bif Nat.beq pc 53 then some [true, true, true, true, true, false, false] else none) else (bif Nat.beq pc 111 then some [true, false, true, true, true, false, false] else none))) else (bif Nat.blt pc 212 then (bif Nat.beq pc 192 then some [false, false, false, false, false, false, false] else none) else (bif Nat.blt pc 221 then (bif Nat.beq pc 212 then some [false, false, false, false, false, false, false] else none) else (bif Nat.beq pc 221 then some [false, false, false, false, false, false, false] else none))))
def bX11_timeOf_0 (d rc rs : Nat) (a1 : Int32) (a2 : Int32) (σ : XH) (Q : XV → XH → Prop) : Prop :=
  ((hr σ 12 0 7 = some (119, 0) ∧ ((vp_in a1 (hn σ 119 0) ∧ (((hi σ 119 0 a1.toNatClampNeg) < 0 → Ex d rc rs m_X11_timeOf 23 [vR (some (12, 0)), vI a1, vI a2, vU, vU, vU, vU] [] σ Q) ∧ (¬ (hi σ 119 0 a1.toNatClampNeg) < 0 → ((hr σ 12 0 7 = some (119, 0) ∧ ((vp_in a1 (hn σ 119 0) ∧ (((hi σ 119 0 a1.toNatClampNeg) < a2 → Q (vI (-1000000000)) σ) ∧ (¬ (hi σ 119 0 a1.toNatClampNeg) < a2 → Ex d rc rs m_X11_timeOf 23 [vR (some (12, 0)), vI a1, vI a2, vU, vU, vU, vU] [] σ Q))))))))))))
theorem sX11_timeOf_0 {d rc rs : Nat} {a1 : Int32} {a2 : Int32} {σ : XH} {Q : XV → XH → Prop} (h : bX11_timeOf_0 d rc rs a1 a2 σ Q) : Ex d rc rs m_X11_timeOf 0 [vR (some (12, 0)), vI a1, vI a2, vU, vU, vU, vU] [] σ Q :=
  xtree_sound (stop := stpX11_timeOf) okX11_timeOf 15 _ _ _ _ _ _ h
def bX11_timeOf_23 (d rc rs : Nat) (l1 : Int32) (l2 : Int32) (σ : XH) (Q : XV → XH → Prop) : Prop :=
  ((1 ≤ d ∧ Ec (d - 1) 0 0 m_X11_starBelow [vR (some (12, 0)), vI l1, vI l2] σ (kI fun x2 h1 => ((1 ≤ d ∧ Ec (d - 1) 0 0 m_X11_starAbove [vR (some (12, 0)), vI l1, vI (l2 + 1)] h1 (kI fun x4 h3 => ((x2 < 0 → ((x4 < 0 → Q (vI (-1000000000)) h3) ∧ (¬ x4 < 0 → Ex d rc rs m_X11_timeOf 53 [vR (some (12, 0)), vI l1, vI l2, vI x2, vI x4, vU, vU] [] h3 Q))) ∧ (¬ x2 < 0 → Ex d rc rs m_X11_timeOf 53 [vR (some (12, 0)), vI l1, vI l2, vI x2, vI x4, vU, vU] [] h3 Q))))))))
theorem sX11_timeOf_23 {d rc rs : Nat} {l1 : Int32} {l2 : Int32} {σ : XH} {Q : XV → XH → Prop} (h : bX11_timeOf_23 d rc rs l1 l2 σ Q) : Ex d rc rs m_X11_timeOf 23 [vR (some (12, 0)), vI l1, vI l2, vU, vU, vU, vU] [] σ Q :=
  xtree_sound (stop := stpX11_timeOf) okX11_timeOf 20 _ _ _ _ _ _ h
def bX11_timeOf_53 (d rc rs : Nat) (l1 : Int32) (l2 : Int32) (l3 : Int32) (l4 : Int32) (σ : XH) (Q : XV → XH → Prop) : Prop :=
  ((l3 < 0 → ((hr σ 12 0 12 = some (123, 0) ∧ ((vp_in l4 (hn σ 123 0) ∧ ((1 ≤ d ∧ Ec (d - 1) 0 0 m_X11_starAbove [vR (some (12, 0)), vI l1, vI ((hi σ 123 0 l4.toNatClampNeg) + 1)] σ (kI fun x4 h3 => Ex d rc rs m_X11_timeOf 111 [vR (some (12, 0)), vU, vI l2, vI l4, vI x4, vU, vU] [] h3 Q)))))))) ∧ (¬ l3 < 0 → ((l4 < 0 → ((hr σ 12 0 12 = some (123, 0) ∧ ((vp_in l3 (hn σ 123 0) ∧ ((1 ≤ d ∧ Ec (d - 1) 0 0 m_X11_starBelow [vR (some (12, 0)), vI l1, vI ((hi σ 123 0 l3.toNatClampNeg) - 1)] σ (kI fun x2 h1 => ((x2 < 0 → Ex d rc rs m_X11_timeOf 111 [vR (some (12, 0)), vU, vI l2, vI l3, vI (-1), vU, vU] [] h1 Q) ∧ (¬ x2 < 0 → Ex d rc rs m_X11_timeOf 111 [vR (some (12, 0)), vU, vI l2, vI x2, vI l3, vU, vU] [] h1 Q)))))))))) ∧ (¬ l4 < 0 → Ex d rc rs m_X11_timeOf 111 [vR (some (12, 0)), vU, vI l2, vI l3, vI l4, vU, vU] [] σ Q))))
theorem sX11_timeOf_53 {d rc rs : Nat} {l1 : Int32} {l2 : Int32} {l3 : Int32} {l4 : Int32} {σ : XH} {Q : XV → XH → Prop} (h : bX11_timeOf_53 d rc rs l1 l2 l3 l4 σ Q) : Ex d rc rs m_X11_timeOf 53 [vR (some (12, 0)), vI l1, vI l2, vI l3, vI l4, vU, vU] [] σ Q :=
  xtree_sound (stop := stpX11_timeOf) okX11_timeOf 24 _ _ _ _ _ _ h
def bX11_timeOf_111 (d rc rs : Nat) (l2 : Int32) (l3 : Int32) (l4 : Int32) (σ : XH) (Q : XV → XH → Prop) : Prop :=
  ((l4 < 0 → ((hr σ 12 0 13 = some (124, 0) ∧ ((vp_in l3 (hn σ 124 0) ∧ ((hr σ 12 0 12 = some (123, 0) ∧ ((vp_in l3 (hn σ 123 0) ∧ Ex d rc rs m_X11_timeOf 192 [vU, vU, vU, vU, vU, vU, vU] [vL ((((hi σ 124 0 l3.toNatClampNeg).toInt64) + l2.toInt64) - ((hi σ 123 0 l3.toNatClampNeg).toInt64))] σ Q))))))))) ∧ (¬ l4 < 0 → ((hr σ 12 0 13 = some (124, 0) ∧ ((vp_in l3 (hn σ 124 0) ∧ ((hr σ 12 0 12 = some (123, 0) ∧ ((vp_in l3 (hn σ 123 0) ∧ ((hr σ 12 0 13 = some (124, 0) ∧ ((vp_in l4 (hn σ 124 0) ∧ ((hr σ 12 0 13 = some (124, 0) ∧ ((vp_in l3 (hn σ 124 0) ∧ ((hr σ 12 0 12 = some (123, 0) ∧ ((vp_in l4 (hn σ 123 0) ∧ ((hr σ 12 0 12 = some (123, 0) ∧ ((vp_in l3 (hn σ 123 0) ∧ ((1 ≤ d ∧ Ec (d - 1) 0 0 m_X11_down [vR (some (12, 0)), vL ((l2.toInt64 - ((hi σ 123 0 l3.toNatClampNeg).toInt64)) * (((hi σ 124 0 l4.toNatClampNeg).toInt64) - ((hi σ 124 0 l3.toNatClampNeg).toInt64))), vL (((hi σ 123 0 l4.toNatClampNeg).toInt64) - ((hi σ 123 0 l3.toNatClampNeg).toInt64))] σ (kL fun x2 h1 => Ex d rc rs m_X11_timeOf 192 [vU, vU, vU, vU, vU, vU, vU] [vL (((hi σ 124 0 l3.toNatClampNeg).toInt64) + x2)] h1 Q)))))))))))))))))))))))))))))
set_option maxRecDepth 40000 in
set_option maxHeartbeats 4000000 in
theorem sX11_timeOf_111 {d rc rs : Nat} {l2 : Int32} {l3 : Int32} {l4 : Int32} {σ : XH} {Q : XV → XH → Prop} (h : bX11_timeOf_111 d rc rs l2 l3 l4 σ Q) : Ex d rc rs m_X11_timeOf 111 [vR (some (12, 0)), vU, vI l2, vI l3, vI l4, vU, vU] [] σ Q :=
  xtree_sound (stop := stpX11_timeOf) okX11_timeOf 43 _ _ _ _ _ _ h
def bX11_timeOf_192 (d rc rs : Nat) (q0 : Int64) (σ : XH) (Q : XV → XH → Prop) : Prop :=
  (((lg_cmp q0 (-2000000)) < 0 → Ex d rc rs m_X11_timeOf 212 [vU, vU, vU, vU, vU, vU, vU] [] σ Q) ∧ (¬ (lg_cmp q0 (-2000000)) < 0 → ((0 < (lg_cmp q0 2000000) → Ex d rc rs m_X11_timeOf 212 [vU, vU, vU, vU, vU, vU, vU] [] σ Q) ∧ (¬ 0 < (lg_cmp q0 2000000) → Ex d rc rs m_X11_timeOf 221 [vU, vU, vU, vU, vU, vU, vU] [vI q0.toInt32] σ Q))))
theorem sX11_timeOf_192 {d rc rs : Nat} {q0 : Int64} {σ : XH} {Q : XV → XH → Prop} (h : bX11_timeOf_192 d rc rs q0 σ Q) : Ex d rc rs m_X11_timeOf 192 [vU, vU, vU, vU, vU, vU, vU] [vL q0] σ Q :=
  xtree_sound (stop := stpX11_timeOf) okX11_timeOf 13 _ _ _ _ _ _ h
def bX11_timeOf_212 (d rc rs : Nat)  (σ : XH) (Q : XV → XH → Prop) : Prop :=
  Ex d rc rs m_X11_timeOf 221 [vU, vU, vU, vU, vU, vU, vU] [vI (-1000000000)] σ Q
theorem sX11_timeOf_212 {d rc rs : Nat}  {σ : XH} {Q : XV → XH → Prop} (h : bX11_timeOf_212 d rc rs  σ Q) : Ex d rc rs m_X11_timeOf 212 [vU, vU, vU, vU, vU, vU, vU] [] σ Q :=
  xtree_sound (stop := stpX11_timeOf) okX11_timeOf 4 _ _ _ _ _ _ h
def bX11_timeOf_221 (d rc rs : Nat) (q0 : Int32) (σ : XH) (Q : XV → XH → Prop) : Prop :=
  Q (vI q0) σ
theorem sX11_timeOf_221 {d rc rs : Nat} {q0 : Int32} {σ : XH} {Q : XV → XH → Prop} (h : bX11_timeOf_221 d rc rs q0 σ Q) : Ex d rc rs m_X11_timeOf 221 [vU, vU, vU, vU, vU, vU, vU] [vI q0] σ Q :=
  xtree_sound (stop := stpX11_timeOf) okX11_timeOf 3 _ _ _ _ _ _ h
/-! SpotTimersModel.time(II)I -/
theorem dX11_time_0 : decode cX11_time 0 = .ok (.aload_n 0, 1) := by decide +kernel
theorem dX11_time_1 : decode cX11_time 1 = .ok (.iload_n 1, 1) := by decide +kernel
theorem dX11_time_2 : decode cX11_time 2 = .ok (.invokevirtual 233, 3) := by decide +kernel
theorem dX11_time_5 : decode cX11_time 5 = .ok (.ifCond .eq 20, 3) := by decide +kernel
theorem dX11_time_8 : decode cX11_time 8 = .ok (.aload_n 0, 1) := by decide +kernel
theorem dX11_time_9 : decode cX11_time 9 = .ok (.iload_n 2, 1) := by decide +kernel
theorem dX11_time_10 : decode cX11_time 10 = .ok (.invokevirtual 236, 3) := by decide +kernel
theorem dX11_time_13 : decode cX11_time 13 = .ok (.ifCond .eq 12, 3) := by decide +kernel
theorem dX11_time_16 : decode cX11_time 16 = .ok (.aload_n 0, 1) := by decide +kernel
theorem dX11_time_17 : decode cX11_time 17 = .ok (.iload_n 1, 1) := by decide +kernel
theorem dX11_time_18 : decode cX11_time 18 = .ok (.iload_n 2, 1) := by decide +kernel
theorem dX11_time_19 : decode cX11_time 19 = .ok (.invokevirtual 279, 3) := by decide +kernel
theorem dX11_time_22 : decode cX11_time 22 = .ok (.goto 6, 3) := by decide +kernel
theorem dX11_time_25 : decode cX11_time 25 = .ok (.ldc_w 256, 3) := by decide +kernel
theorem dX11_time_28 : decode cX11_time 28 = .ok (.ireturn, 1) := by decide +kernel
theorem oX11_time_0 : OKI 166 0 (.aload_n 0, 1, [0], 0, 0, []) := And.intro dX11_time_0 (And.intro rfl (rfl))
theorem oX11_time_1 : OKI 166 1 (.iload_n 1, 2, [1], 0, 0, []) := And.intro dX11_time_1 (And.intro rfl (rfl))
theorem oX11_time_2 : OKI 166 2 (.invokevirtual 233, 5, [148, 2, 13, 0, 0, 1], 0, 0, []) := And.intro dX11_time_2 (And.intro rfl (And.intro (by decide) (And.intro (by decide) (And.intro mo_X11_isClock (And.intro (tm_6 _ (List.mem_of_getElem? (i := 202) rfl) rfl) (And.intro (tm_6 _ (List.mem_of_getElem? (i := 204) rfl) rfl) (And.intro (pm_3 _ (List.mem_of_getElem? (i := 10) rfl)) (Or.inl ⟨(RX11, TX11, 69), rfl, rfl⟩))))))))
theorem oX11_time_5 : OKI 166 5 (.ifCond .eq 20, 8, [25], 0, 0, []) := And.intro dX11_time_5 (And.intro rfl (by decide))
theorem oX11_time_8 : OKI 166 8 (.aload_n 0, 9, [0], 0, 0, []) := And.intro dX11_time_8 (And.intro rfl (rfl))
theorem oX11_time_9 : OKI 166 9 (.iload_n 2, 10, [2], 0, 0, []) := And.intro dX11_time_9 (And.intro rfl (rfl))
theorem oX11_time_10 : OKI 166 10 (.invokevirtual 236, 13, [142, 2, 13, 0, 0, 1], 0, 0, []) := And.intro dX11_time_10 (And.intro rfl (And.intro (by decide) (And.intro (by decide) (And.intro mo_X11_isTime (And.intro (tm_6 _ (List.mem_of_getElem? (i := 206) rfl) rfl) (And.intro (tm_6 _ (List.mem_of_getElem? (i := 208) rfl) rfl) (And.intro (pm_3 _ (List.mem_of_getElem? (i := 11) rfl)) (Or.inl ⟨(RX11, TX11, 69), rfl, rfl⟩))))))))
theorem oX11_time_13 : OKI 166 13 (.ifCond .eq 12, 16, [25], 0, 0, []) := And.intro dX11_time_13 (And.intro rfl (by decide))
theorem oX11_time_16 : OKI 166 16 (.aload_n 0, 17, [0], 0, 0, []) := And.intro dX11_time_16 (And.intro rfl (rfl))
theorem oX11_time_17 : OKI 166 17 (.iload_n 1, 18, [1], 0, 0, []) := And.intro dX11_time_17 (And.intro rfl (rfl))
theorem oX11_time_18 : OKI 166 18 (.iload_n 2, 19, [2], 0, 0, []) := And.intro dX11_time_18 (And.intro rfl (rfl))
theorem oX11_time_19 : OKI 166 19 (.invokevirtual 279, 22, [165, 3, 13, 0, 0, 1], 0, 0, []) := And.intro dX11_time_19 (And.intro rfl (And.intro (by decide) (And.intro (by decide) (And.intro mo_X11_timeOf (And.intro (tm_7 _ (List.mem_of_getElem? (i := 20) rfl) rfl) (And.intro (tm_7 _ (List.mem_of_getElem? (i := 22) rfl) rfl) (And.intro (pm_4 _ (List.mem_of_getElem? (i := 2) rfl)) (Or.inl ⟨(RX11, TX11, 69), rfl, rfl⟩))))))))
theorem oX11_time_22 : OKI 166 22 (.goto 6, 25, [28], 0, 0, []) := And.intro dX11_time_22 (And.intro rfl (by decide))
theorem oX11_time_25 : OKI 166 25 (.ldc_w 256, 28, [], (-1000000000), 0, []) := And.intro dX11_time_25 (And.intro rfl (tm_7 _ (List.mem_of_getElem? (i := 11) rfl) rfl))
theorem oX11_time_28 : OKI 166 28 (.ireturn, 29, [0], 0, 0, []) := And.intro dX11_time_28 (Or.inl (And.intro rfl rfl))
def pfX11_time (pc : Nat) : Option XE := (bif Nat.blt pc 13 then (bif Nat.blt pc 5 then (bif Nat.blt pc 1 then (bif Nat.beq pc 0 then some (.aload_n 0, 1, [0], 0, 0, []) else none) else (bif Nat.blt pc 2 then (bif Nat.beq pc 1 then some (.iload_n 1, 2, [1], 0, 0, []) else none) else (bif Nat.beq pc 2 then some (.invokevirtual 233, 5, [148, 2, 13, 0, 0, 1], 0, 0, []) else none))) else (bif Nat.blt pc 9 then (bif Nat.blt pc 8 then (bif Nat.beq pc 5 then some (.ifCond .eq 20, 8, [25], 0, 0, []) else none) else (bif Nat.beq pc 8 then some (.aload_n 0, 9, [0], 0, 0, []) else none)) else (bif Nat.blt pc 10 then (bif Nat.beq pc 9 then some (.iload_n 2, 10, [2], 0, 0, []) else none) else (bif Nat.beq pc 10 then some (.invokevirtual 236, 13, [142, 2, 13, 0, 0, 1], 0, 0, []) else none)))) else (bif Nat.blt pc 19 then (bif Nat.blt pc 17 then (bif Nat.blt pc 16 then (bif Nat.beq pc 13 then some (.ifCond .eq 12, 16, [25], 0, 0, []) else none) else (bif Nat.beq pc 16 then some (.aload_n 0, 17, [0], 0, 0, []) else none)) else (bif Nat.blt pc 18 then (bif Nat.beq pc 17 then some (.iload_n 1, 18, [1], 0, 0, []) else none) else (bif Nat.beq pc 18 then some (.iload_n 2, 19, [2], 0, 0, []) else none))) else (bif Nat.blt pc 25 then (bif Nat.blt pc 22 then (bif Nat.beq pc 19 then some (.invokevirtual 279, 22, [165, 3, 13, 0, 0, 1], 0, 0, []) else none) else (bif Nat.beq pc 22 then some (.goto 6, 25, [28], 0, 0, []) else none)) else (bif Nat.blt pc 28 then (bif Nat.beq pc 25 then some (.ldc_w 256, 28, [], (-1000000000), 0, []) else none) else (bif Nat.beq pc 28 then some (.ireturn, 29, [0], 0, 0, []) else none)))))
theorem okX11_time : ∀ pc Y, pfX11_time pc = some Y → OKI m_X11_time pc Y := fun pc Y => ((bt_node (bt_node (bt_node (bt_leaf (P := OKI m_X11_time) oX11_time_0) (bt_node (bt_leaf (P := OKI m_X11_time) oX11_time_1) (bt_leaf (P := OKI m_X11_time) oX11_time_2))) (bt_node (bt_node (bt_leaf (P := OKI m_X11_time) oX11_time_5) (bt_leaf (P := OKI m_X11_time) oX11_time_8)) (bt_node (bt_leaf (P := OKI m_X11_time) oX11_time_9) (bt_leaf (P := OKI m_X11_time) oX11_time_10)))) (bt_node (bt_node (bt_node (bt_leaf (P := OKI m_X11_time) oX11_time_13) (bt_leaf (P := OKI m_X11_time) oX11_time_16)) (bt_node (bt_leaf (P := OKI m_X11_time) oX11_time_17) (bt_leaf (P := OKI m_X11_time) oX11_time_18))) (bt_node (bt_node (bt_leaf (P := OKI m_X11_time) oX11_time_19) (bt_leaf (P := OKI m_X11_time) oX11_time_22)) (bt_node (bt_leaf (P := OKI m_X11_time) oX11_time_25) (bt_leaf (P := OKI m_X11_time) oX11_time_28))))) : pfX11_time pc = some Y → OKI m_X11_time pc Y)
def stpX11_time (pc : Nat) : Option (List Bool) := (bif Nat.blt pc 28 then (bif Nat.beq pc 25 then some [false, false, false] else none) else (bif Nat.beq pc 28 then some [false, false, false] else none))
def bX11_time_0 (d rc rs : Nat) (a1 : Int32) (a2 : Int32) (σ : XH) (Q : XV → XH → Prop) : Prop :=
  ((1 ≤ d ∧ Ec (d - 1) 0 0 m_X11_isClock [vR (some (12, 0)), vI a1] σ (kI fun x2 h1 => ((x2 = 0 → Ex d rc rs m_X11_time 25 [vU, vU, vU] [] h1 Q) ∧ (¬ x2 = 0 → ((1 ≤ d ∧ Ec (d - 1) 0 0 m_X11_isTime [vR (some (12, 0)), vI a2] h1 (kI fun x4 h3 => ((x4 = 0 → Ex d rc rs m_X11_time 25 [vU, vU, vU] [] h3 Q) ∧ (¬ x4 = 0 → ((1 ≤ d ∧ Ec (d - 1) 0 0 m_X11_timeOf [vR (some (12, 0)), vI a1, vI a2] h3 (kI fun x6 h5 => Ex d rc rs m_X11_time 28 [vU, vU, vU] [vI x6] h5 Q)))))))))))))
theorem sX11_time_0 {d rc rs : Nat} {a1 : Int32} {a2 : Int32} {σ : XH} {Q : XV → XH → Prop} (h : bX11_time_0 d rc rs a1 a2 σ Q) : Ex d rc rs m_X11_time 0 [vR (some (12, 0)), vI a1, vI a2] [] σ Q :=
  xtree_sound (stop := stpX11_time) okX11_time 15 _ _ _ _ _ _ h
def bX11_time_25 (d rc rs : Nat)  (σ : XH) (Q : XV → XH → Prop) : Prop :=
  Ex d rc rs m_X11_time 28 [vU, vU, vU] [vI (-1000000000)] σ Q
theorem sX11_time_25 {d rc rs : Nat}  {σ : XH} {Q : XV → XH → Prop} (h : bX11_time_25 d rc rs  σ Q) : Ex d rc rs m_X11_time 25 [vU, vU, vU] [] σ Q :=
  xtree_sound (stop := stpX11_time) okX11_time 3 _ _ _ _ _ _ h
def bX11_time_28 (d rc rs : Nat) (q0 : Int32) (σ : XH) (Q : XV → XH → Prop) : Prop :=
  Q (vI q0) σ
theorem sX11_time_28 {d rc rs : Nat} {q0 : Int32} {σ : XH} {Q : XV → XH → Prop} (h : bX11_time_28 d rc rs q0 σ Q) : Ex d rc rs m_X11_time 28 [vU, vU, vU] [vI q0] σ Q :=
  xtree_sound (stop := stpX11_time) okX11_time 3 _ _ _ _ _ _ h
/-! SpotTimersModel.longitudeOf(I)I -/
theorem dX11_longitudeOf_0 : decode cX11_longitudeOf 0 = .ok (.aload_n 0, 1) := by decide +kernel
theorem dX11_longitudeOf_1 : decode cX11_longitudeOf 1 = .ok (.getfield 22, 3) := by decide +kernel
theorem dX11_longitudeOf_4 : decode cX11_longitudeOf 4 = .ok (.iload_n 1, 1) := by decide +kernel
theorem dX11_longitudeOf_5 : decode cX11_longitudeOf 5 = .ok (.iaload, 1) := by decide +kernel
theorem dX11_longitudeOf_6 : decode cX11_longitudeOf 6 = .ok (.ldc 228, 2) := by decide +kernel
theorem dX11_longitudeOf_8 : decode cX11_longitudeOf 8 = .ok (.if_icmp .eq 10, 3) := by decide +kernel
theorem dX11_longitudeOf_11 : decode cX11_longitudeOf 11 = .ok (.aload_n 0, 1) := by decide +kernel
theorem dX11_longitudeOf_12 : decode cX11_longitudeOf 12 = .ok (.getfield 22, 3) := by decide +kernel
theorem dX11_longitudeOf_15 : decode cX11_longitudeOf 15 = .ok (.iload_n 1, 1) := by decide +kernel
theorem dX11_longitudeOf_16 : decode cX11_longitudeOf 16 = .ok (.iaload, 1) := by decide +kernel
theorem dX11_longitudeOf_17 : decode cX11_longitudeOf 17 = .ok (.ireturn, 1) := by decide +kernel
theorem dX11_longitudeOf_18 : decode cX11_longitudeOf 18 = .ok (.lconst 0, 1) := by decide +kernel
theorem dX11_longitudeOf_19 : decode cX11_longitudeOf 19 = .ok (.lstore_n 2, 1) := by decide +kernel
theorem dX11_longitudeOf_20 : decode cX11_longitudeOf 20 = .ok (.iconst 0, 1) := by decide +kernel
theorem dX11_longitudeOf_21 : decode cX11_longitudeOf 21 = .ok (.istore 4, 2) := by decide +kernel
theorem dX11_longitudeOf_23 : decode cX11_longitudeOf 23 = .ok (.iconst 0, 1) := by decide +kernel
theorem dX11_longitudeOf_24 : decode cX11_longitudeOf 24 = .ok (.istore 5, 2) := by decide +kernel
theorem dX11_longitudeOf_26 : decode cX11_longitudeOf 26 = .ok (.iload 5, 2) := by decide +kernel
theorem dX11_longitudeOf_28 : decode cX11_longitudeOf 28 = .ok (.aload_n 0, 1) := by decide +kernel
theorem dX11_longitudeOf_29 : decode cX11_longitudeOf 29 = .ok (.getfield 35, 3) := by decide +kernel
theorem dX11_longitudeOf_32 : decode cX11_longitudeOf 32 = .ok (.if_icmp .ge 97, 3) := by decide +kernel
theorem dX11_longitudeOf_35 : decode cX11_longitudeOf 35 = .ok (.aload_n 0, 1) := by decide +kernel
theorem dX11_longitudeOf_36 : decode cX11_longitudeOf 36 = .ok (.getfield 38, 3) := by decide +kernel
theorem dX11_longitudeOf_39 : decode cX11_longitudeOf 39 = .ok (.iload 5, 2) := by decide +kernel
theorem dX11_longitudeOf_41 : decode cX11_longitudeOf 41 = .ok (.iaload, 1) := by decide +kernel
theorem dX11_longitudeOf_42 : decode cX11_longitudeOf 42 = .ok (.iconst 2, 1) := by decide +kernel
theorem dX11_longitudeOf_43 : decode cX11_longitudeOf 43 = .ok (.if_icmp .ne 80, 3) := by decide +kernel
theorem dX11_longitudeOf_46 : decode cX11_longitudeOf 46 = .ok (.aload_n 0, 1) := by decide +kernel
theorem dX11_longitudeOf_47 : decode cX11_longitudeOf 47 = .ok (.getfield 65, 3) := by decide +kernel
theorem dX11_longitudeOf_50 : decode cX11_longitudeOf 50 = .ok (.iload 5, 2) := by decide +kernel
theorem dX11_longitudeOf_52 : decode cX11_longitudeOf 52 = .ok (.iaload, 1) := by decide +kernel
theorem dX11_longitudeOf_53 : decode cX11_longitudeOf 53 = .ok (.ifCond .gt 70, 3) := by decide +kernel
theorem dX11_longitudeOf_56 : decode cX11_longitudeOf 56 = .ok (.aload_n 0, 1) := by decide +kernel
theorem dX11_longitudeOf_57 : decode cX11_longitudeOf 57 = .ok (.getfield 29, 3) := by decide +kernel
theorem dX11_longitudeOf_60 : decode cX11_longitudeOf 60 = .ok (.aload_n 0, 1) := by decide +kernel
theorem dX11_longitudeOf_61 : decode cX11_longitudeOf 61 = .ok (.getfield 41, 3) := by decide +kernel
theorem dX11_longitudeOf_64 : decode cX11_longitudeOf 64 = .ok (.iload 5, 2) := by decide +kernel
theorem dX11_longitudeOf_66 : decode cX11_longitudeOf 66 = .ok (.iaload, 1) := by decide +kernel
theorem dX11_longitudeOf_67 : decode cX11_longitudeOf 67 = .ok (.iaload, 1) := by decide +kernel
theorem dX11_longitudeOf_68 : decode cX11_longitudeOf 68 = .ok (.iload_n 1, 1) := by decide +kernel
theorem dX11_longitudeOf_69 : decode cX11_longitudeOf 69 = .ok (.if_icmp .eq 6, 3) := by decide +kernel
theorem dX11_longitudeOf_72 : decode cX11_longitudeOf 72 = .ok (.goto 51, 3) := by decide +kernel
theorem dX11_longitudeOf_75 : decode cX11_longitudeOf 75 = .ok (.aload_n 0, 1) := by decide +kernel
theorem dX11_longitudeOf_76 : decode cX11_longitudeOf 76 = .ok (.aload_n 0, 1) := by decide +kernel
theorem dX11_longitudeOf_77 : decode cX11_longitudeOf 77 = .ok (.getfield 41, 3) := by decide +kernel
theorem dX11_longitudeOf_80 : decode cX11_longitudeOf 80 = .ok (.iload 5, 2) := by decide +kernel
theorem dX11_longitudeOf_82 : decode cX11_longitudeOf 82 = .ok (.iaload, 1) := by decide +kernel
theorem dX11_longitudeOf_83 : decode cX11_longitudeOf 83 = .ok (.aload_n 0, 1) := by decide +kernel
theorem dX11_longitudeOf_84 : decode cX11_longitudeOf 84 = .ok (.getfield 47, 3) := by decide +kernel
theorem dX11_longitudeOf_87 : decode cX11_longitudeOf 87 = .ok (.iload 5, 2) := by decide +kernel
theorem dX11_longitudeOf_89 : decode cX11_longitudeOf 89 = .ok (.iaload, 1) := by decide +kernel
theorem dX11_longitudeOf_90 : decode cX11_longitudeOf 90 = .ok (.invokevirtual 279, 3) := by decide +kernel
theorem dX11_longitudeOf_93 : decode cX11_longitudeOf 93 = .ok (.istore 6, 2) := by decide +kernel
theorem dX11_longitudeOf_95 : decode cX11_longitudeOf 95 = .ok (.iload 6, 2) := by decide +kernel
theorem dX11_longitudeOf_97 : decode cX11_longitudeOf 97 = .ok (.ldc_w 256, 3) := by decide +kernel
theorem dX11_longitudeOf_100 : decode cX11_longitudeOf 100 = .ok (.if_icmp .ne 6, 3) := by decide +kernel
theorem dX11_longitudeOf_103 : decode cX11_longitudeOf 103 = .ok (.goto 20, 3) := by decide +kernel
theorem dX11_longitudeOf_106 : decode cX11_longitudeOf 106 = .ok (.lload_n 2, 1) := by decide +kernel
theorem dX11_longitudeOf_107 : decode cX11_longitudeOf 107 = .ok (.iload 6, 2) := by decide +kernel
theorem dX11_longitudeOf_109 : decode cX11_longitudeOf 109 = .ok (.aload_n 0, 1) := by decide +kernel
theorem dX11_longitudeOf_110 : decode cX11_longitudeOf 110 = .ok (.getfield 50, 3) := by decide +kernel
theorem dX11_longitudeOf_113 : decode cX11_longitudeOf 113 = .ok (.iload 5, 2) := by decide +kernel
theorem dX11_longitudeOf_115 : decode cX11_longitudeOf 115 = .ok (.iaload, 1) := by decide +kernel
theorem dX11_longitudeOf_116 : decode cX11_longitudeOf 116 = .ok (.isub, 1) := by decide +kernel
theorem dX11_longitudeOf_117 : decode cX11_longitudeOf 117 = .ok (.i2l, 1) := by decide +kernel
theorem dX11_longitudeOf_118 : decode cX11_longitudeOf 118 = .ok (.ladd, 1) := by decide +kernel
theorem dX11_longitudeOf_119 : decode cX11_longitudeOf 119 = .ok (.lstore_n 2, 1) := by decide +kernel
theorem dX11_longitudeOf_120 : decode cX11_longitudeOf 120 = .ok (.iinc 4 1, 3) := by decide +kernel
theorem dX11_longitudeOf_123 : decode cX11_longitudeOf 123 = .ok (.iinc 5 1, 3) := by decide +kernel
theorem dX11_longitudeOf_126 : decode cX11_longitudeOf 126 = .ok (.goto (-100), 3) := by decide +kernel
theorem dX11_longitudeOf_129 : decode cX11_longitudeOf 129 = .ok (.iload 4, 2) := by decide +kernel
theorem dX11_longitudeOf_131 : decode cX11_longitudeOf 131 = .ok (.ifCond .ne 9, 3) := by decide +kernel
theorem dX11_longitudeOf_134 : decode cX11_longitudeOf 134 = .ok (.ldc_w 256, 3) := by decide +kernel
theorem dX11_longitudeOf_137 : decode cX11_longitudeOf 137 = .ok (.goto 12, 3) := by decide +kernel
theorem dX11_longitudeOf_140 : decode cX11_longitudeOf 140 = .ok (.aload_n 0, 1) := by decide +kernel
theorem dX11_longitudeOf_141 : decode cX11_longitudeOf 141 = .ok (.lload_n 2, 1) := by decide +kernel
theorem dX11_longitudeOf_142 : decode cX11_longitudeOf 142 = .ok (.iload 4, 2) := by decide +kernel
theorem dX11_longitudeOf_144 : decode cX11_longitudeOf 144 = .ok (.i2l, 1) := by decide +kernel
theorem dX11_longitudeOf_145 : decode cX11_longitudeOf 145 = .ok (.invokevirtual 271, 3) := by decide +kernel
theorem dX11_longitudeOf_148 : decode cX11_longitudeOf 148 = .ok (.l2i, 1) := by decide +kernel
theorem dX11_longitudeOf_149 : decode cX11_longitudeOf 149 = .ok (.ireturn, 1) := by decide +kernel
theorem oX11_longitudeOf_0 : OKI 167 0 (.aload_n 0, 1, [0], 0, 0, []) := And.intro dX11_longitudeOf_0 (And.intro rfl (rfl))
theorem oX11_longitudeOf_1 : OKI 167 1 (.getfield 22, 4, [12, 4, 2, 116, 0], 0, 0, []) := And.intro dX11_longitudeOf_1 (And.intro rfl (⟨(RX11, TX11, 69), "SpotTimersModel", rfl, by decide, tm_5 _ (List.mem_of_getElem? (i := 210) rfl) rfl, Or.inl rfl, rfl, rfl⟩))
theorem oX11_longitudeOf_4 : OKI 167 4 (.iload_n 1, 5, [1], 0, 0, []) := And.intro dX11_longitudeOf_4 (And.intro rfl (rfl))
theorem oX11_longitudeOf_5 : OKI 167 5 (.iaload, 6, [], 0, 0, []) := And.intro dX11_longitudeOf_5 rfl
theorem oX11_longitudeOf_6 : OKI 167 6 (.ldc 228, 8, [], 99999, 0, []) := And.intro dX11_longitudeOf_6 (And.intro rfl (tm_6 _ (List.mem_of_getElem? (i := 189) rfl) rfl))
theorem oX11_longitudeOf_8 : OKI 167 8 (.if_icmp .eq 10, 11, [18], 0, 0, []) := And.intro dX11_longitudeOf_8 (And.intro rfl (by decide))
theorem oX11_longitudeOf_11 : OKI 167 11 (.aload_n 0, 12, [0], 0, 0, []) := And.intro dX11_longitudeOf_11 (And.intro rfl (rfl))
theorem oX11_longitudeOf_12 : OKI 167 12 (.getfield 22, 15, [12, 4, 2, 116, 0], 0, 0, []) := And.intro dX11_longitudeOf_12 (And.intro rfl (⟨(RX11, TX11, 69), "SpotTimersModel", rfl, by decide, tm_5 _ (List.mem_of_getElem? (i := 210) rfl) rfl, Or.inl rfl, rfl, rfl⟩))
theorem oX11_longitudeOf_15 : OKI 167 15 (.iload_n 1, 16, [1], 0, 0, []) := And.intro dX11_longitudeOf_15 (And.intro rfl (rfl))
theorem oX11_longitudeOf_16 : OKI 167 16 (.iaload, 17, [], 0, 0, []) := And.intro dX11_longitudeOf_16 rfl
theorem oX11_longitudeOf_17 : OKI 167 17 (.ireturn, 18, [0], 0, 0, []) := And.intro dX11_longitudeOf_17 (Or.inl (And.intro rfl rfl))
theorem oX11_longitudeOf_18 : OKI 167 18 (.lconst 0, 19, [], 0, 0, []) := And.intro dX11_longitudeOf_18 (And.intro rfl (by decide +kernel))
theorem oX11_longitudeOf_19 : OKI 167 19 (.lstore_n 2, 20, [2], 0, 0, []) := And.intro dX11_longitudeOf_19 (And.intro rfl (And.intro rfl (by decide)))
theorem oX11_longitudeOf_20 : OKI 167 20 (.iconst 0, 21, [], 0, 0, []) := And.intro dX11_longitudeOf_20 (And.intro rfl (by decide +kernel))
theorem oX11_longitudeOf_21 : OKI 167 21 (.istore 4, 23, [4], 0, 0, []) := And.intro dX11_longitudeOf_21 (And.intro rfl (And.intro rfl (by decide)))
theorem oX11_longitudeOf_23 : OKI 167 23 (.iconst 0, 24, [], 0, 0, []) := And.intro dX11_longitudeOf_23 (And.intro rfl (by decide +kernel))
theorem oX11_longitudeOf_24 : OKI 167 24 (.istore 5, 26, [5], 0, 0, []) := And.intro dX11_longitudeOf_24 (And.intro rfl (And.intro rfl (by decide)))
theorem oX11_longitudeOf_26 : OKI 167 26 (.iload 5, 28, [5], 0, 0, []) := And.intro dX11_longitudeOf_26 (And.intro rfl (rfl))
theorem oX11_longitudeOf_28 : OKI 167 28 (.aload_n 0, 29, [0], 0, 0, []) := And.intro dX11_longitudeOf_28 (And.intro rfl (rfl))
theorem oX11_longitudeOf_29 : OKI 167 29 (.getfield 35, 32, [12, 8, 0], 0, 0, []) := And.intro dX11_longitudeOf_29 (And.intro rfl (⟨(RX11, TX11, 69), "SpotTimersModel", rfl, by decide, tm_5 _ (List.mem_of_getElem? (i := 214) rfl) rfl, Or.inl rfl, Or.inr (Or.inr (And.intro rfl (Or.inl rfl)))⟩))
theorem oX11_longitudeOf_32 : OKI 167 32 (.if_icmp .ge 97, 35, [129], 0, 0, []) := And.intro dX11_longitudeOf_32 (And.intro rfl (by decide))
theorem oX11_longitudeOf_35 : OKI 167 35 (.aload_n 0, 36, [0], 0, 0, []) := And.intro dX11_longitudeOf_35 (And.intro rfl (rfl))
theorem oX11_longitudeOf_36 : OKI 167 36 (.getfield 38, 39, [12, 9, 2, 120, 0], 0, 0, []) := And.intro dX11_longitudeOf_36 (And.intro rfl (⟨(RX11, TX11, 69), "SpotTimersModel", rfl, by decide, tm_5 _ (List.mem_of_getElem? (i := 215) rfl) rfl, Or.inl rfl, rfl, rfl⟩))
theorem oX11_longitudeOf_39 : OKI 167 39 (.iload 5, 41, [5], 0, 0, []) := And.intro dX11_longitudeOf_39 (And.intro rfl (rfl))
theorem oX11_longitudeOf_41 : OKI 167 41 (.iaload, 42, [], 0, 0, []) := And.intro dX11_longitudeOf_41 rfl
theorem oX11_longitudeOf_42 : OKI 167 42 (.iconst 2, 43, [], 2, 0, []) := And.intro dX11_longitudeOf_42 (And.intro rfl (by decide +kernel))
theorem oX11_longitudeOf_43 : OKI 167 43 (.if_icmp .ne 80, 46, [123], 0, 0, []) := And.intro dX11_longitudeOf_43 (And.intro rfl (by decide))
theorem oX11_longitudeOf_46 : OKI 167 46 (.aload_n 0, 47, [0], 0, 0, []) := And.intro dX11_longitudeOf_46 (And.intro rfl (rfl))
theorem oX11_longitudeOf_47 : OKI 167 47 (.getfield 65, 50, [12, 18, 2, 129, 0], 0, 0, []) := And.intro dX11_longitudeOf_47 (And.intro rfl (⟨(RX11, TX11, 69), "SpotTimersModel", rfl, by decide, tm_5 _ (List.mem_of_getElem? (i := 224) rfl) rfl, Or.inl rfl, rfl, rfl⟩))
theorem oX11_longitudeOf_50 : OKI 167 50 (.iload 5, 52, [5], 0, 0, []) := And.intro dX11_longitudeOf_50 (And.intro rfl (rfl))
theorem oX11_longitudeOf_52 : OKI 167 52 (.iaload, 53, [], 0, 0, []) := And.intro dX11_longitudeOf_52 rfl
theorem oX11_longitudeOf_53 : OKI 167 53 (.ifCond .gt 70, 56, [123], 0, 0, []) := And.intro dX11_longitudeOf_53 (And.intro rfl (by decide))
theorem oX11_longitudeOf_56 : OKI 167 56 (.aload_n 0, 57, [0], 0, 0, []) := And.intro dX11_longitudeOf_56 (And.intro rfl (rfl))
theorem oX11_longitudeOf_57 : OKI 167 57 (.getfield 29, 60, [12, 6, 2, 118, 0], 0, 0, []) := And.intro dX11_longitudeOf_57 (And.intro rfl (⟨(RX11, TX11, 69), "SpotTimersModel", rfl, by decide, tm_5 _ (List.mem_of_getElem? (i := 212) rfl) rfl, Or.inl rfl, rfl, rfl⟩))
theorem oX11_longitudeOf_60 : OKI 167 60 (.aload_n 0, 61, [0], 0, 0, []) := And.intro dX11_longitudeOf_60 (And.intro rfl (rfl))
theorem oX11_longitudeOf_61 : OKI 167 61 (.getfield 41, 64, [12, 10, 2, 121, 0], 0, 0, []) := And.intro dX11_longitudeOf_61 (And.intro rfl (⟨(RX11, TX11, 69), "SpotTimersModel", rfl, by decide, tm_5 _ (List.mem_of_getElem? (i := 216) rfl) rfl, Or.inl rfl, rfl, rfl⟩))
theorem oX11_longitudeOf_64 : OKI 167 64 (.iload 5, 66, [5], 0, 0, []) := And.intro dX11_longitudeOf_64 (And.intro rfl (rfl))
theorem oX11_longitudeOf_66 : OKI 167 66 (.iaload, 67, [], 0, 0, []) := And.intro dX11_longitudeOf_66 rfl
theorem oX11_longitudeOf_67 : OKI 167 67 (.iaload, 68, [], 0, 0, []) := And.intro dX11_longitudeOf_67 rfl
theorem oX11_longitudeOf_68 : OKI 167 68 (.iload_n 1, 69, [1], 0, 0, []) := And.intro dX11_longitudeOf_68 (And.intro rfl (rfl))
theorem oX11_longitudeOf_69 : OKI 167 69 (.if_icmp .eq 6, 72, [75], 0, 0, []) := And.intro dX11_longitudeOf_69 (And.intro rfl (by decide))
theorem oX11_longitudeOf_72 : OKI 167 72 (.goto 51, 75, [123], 0, 0, []) := And.intro dX11_longitudeOf_72 (And.intro rfl (by decide))
theorem oX11_longitudeOf_75 : OKI 167 75 (.aload_n 0, 76, [0], 0, 0, []) := And.intro dX11_longitudeOf_75 (And.intro rfl (rfl))
theorem oX11_longitudeOf_76 : OKI 167 76 (.aload_n 0, 77, [0], 0, 0, []) := And.intro dX11_longitudeOf_76 (And.intro rfl (rfl))
theorem oX11_longitudeOf_77 : OKI 167 77 (.getfield 41, 80, [12, 10, 2, 121, 0], 0, 0, []) := And.intro dX11_longitudeOf_77 (And.intro rfl (⟨(RX11, TX11, 69), "SpotTimersModel", rfl, by decide, tm_5 _ (List.mem_of_getElem? (i := 216) rfl) rfl, Or.inl rfl, rfl, rfl⟩))
theorem oX11_longitudeOf_80 : OKI 167 80 (.iload 5, 82, [5], 0, 0, []) := And.intro dX11_longitudeOf_80 (And.intro rfl (rfl))
theorem oX11_longitudeOf_82 : OKI 167 82 (.iaload, 83, [], 0, 0, []) := And.intro dX11_longitudeOf_82 rfl
theorem oX11_longitudeOf_83 : OKI 167 83 (.aload_n 0, 84, [0], 0, 0, []) := And.intro dX11_longitudeOf_83 (And.intro rfl (rfl))
theorem oX11_longitudeOf_84 : OKI 167 84 (.getfield 47, 87, [12, 12, 2, 123, 0], 0, 0, []) := And.intro dX11_longitudeOf_84 (And.intro rfl (⟨(RX11, TX11, 69), "SpotTimersModel", rfl, by decide, tm_5 _ (List.mem_of_getElem? (i := 218) rfl) rfl, Or.inl rfl, rfl, rfl⟩))
theorem oX11_longitudeOf_87 : OKI 167 87 (.iload 5, 89, [5], 0, 0, []) := And.intro dX11_longitudeOf_87 (And.intro rfl (rfl))
theorem oX11_longitudeOf_89 : OKI 167 89 (.iaload, 90, [], 0, 0, []) := And.intro dX11_longitudeOf_89 rfl
theorem oX11_longitudeOf_90 : OKI 167 90 (.invokevirtual 279, 93, [165, 3, 13, 0, 0, 1], 0, 0, []) := And.intro dX11_longitudeOf_90 (And.intro rfl (And.intro (by decide) (And.intro (by decide) (And.intro mo_X11_timeOf (And.intro (tm_7 _ (List.mem_of_getElem? (i := 20) rfl) rfl) (And.intro (tm_7 _ (List.mem_of_getElem? (i := 22) rfl) rfl) (And.intro (pm_4 _ (List.mem_of_getElem? (i := 2) rfl)) (Or.inl ⟨(RX11, TX11, 69), rfl, rfl⟩))))))))
theorem oX11_longitudeOf_93 : OKI 167 93 (.istore 6, 95, [6], 0, 0, []) := And.intro dX11_longitudeOf_93 (And.intro rfl (And.intro rfl (by decide)))
theorem oX11_longitudeOf_95 : OKI 167 95 (.iload 6, 97, [6], 0, 0, []) := And.intro dX11_longitudeOf_95 (And.intro rfl (rfl))
theorem oX11_longitudeOf_97 : OKI 167 97 (.ldc_w 256, 100, [], (-1000000000), 0, []) := And.intro dX11_longitudeOf_97 (And.intro rfl (tm_7 _ (List.mem_of_getElem? (i := 11) rfl) rfl))
theorem oX11_longitudeOf_100 : OKI 167 100 (.if_icmp .ne 6, 103, [106], 0, 0, []) := And.intro dX11_longitudeOf_100 (And.intro rfl (by decide))
theorem oX11_longitudeOf_103 : OKI 167 103 (.goto 20, 106, [123], 0, 0, []) := And.intro dX11_longitudeOf_103 (And.intro rfl (by decide))
theorem oX11_longitudeOf_106 : OKI 167 106 (.lload_n 2, 107, [2], 0, 0, []) := And.intro dX11_longitudeOf_106 (And.intro rfl (rfl))
theorem oX11_longitudeOf_107 : OKI 167 107 (.iload 6, 109, [6], 0, 0, []) := And.intro dX11_longitudeOf_107 (And.intro rfl (rfl))
theorem oX11_longitudeOf_109 : OKI 167 109 (.aload_n 0, 110, [0], 0, 0, []) := And.intro dX11_longitudeOf_109 (And.intro rfl (rfl))
theorem oX11_longitudeOf_110 : OKI 167 110 (.getfield 50, 113, [12, 13, 2, 124, 0], 0, 0, []) := And.intro dX11_longitudeOf_110 (And.intro rfl (⟨(RX11, TX11, 69), "SpotTimersModel", rfl, by decide, tm_5 _ (List.mem_of_getElem? (i := 219) rfl) rfl, Or.inl rfl, rfl, rfl⟩))
theorem oX11_longitudeOf_113 : OKI 167 113 (.iload 5, 115, [5], 0, 0, []) := And.intro dX11_longitudeOf_113 (And.intro rfl (rfl))
theorem oX11_longitudeOf_115 : OKI 167 115 (.iaload, 116, [], 0, 0, []) := And.intro dX11_longitudeOf_115 rfl
theorem oX11_longitudeOf_116 : OKI 167 116 (.isub, 117, [], 0, 0, []) := And.intro dX11_longitudeOf_116 rfl
theorem oX11_longitudeOf_117 : OKI 167 117 (.i2l, 118, [], 0, 0, []) := And.intro dX11_longitudeOf_117 rfl
theorem oX11_longitudeOf_118 : OKI 167 118 (.ladd, 119, [], 0, 0, []) := And.intro dX11_longitudeOf_118 rfl
theorem oX11_longitudeOf_119 : OKI 167 119 (.lstore_n 2, 120, [2], 0, 0, []) := And.intro dX11_longitudeOf_119 (And.intro rfl (And.intro rfl (by decide)))
theorem oX11_longitudeOf_120 : OKI 167 120 (.iinc 4 1, 123, [4], 1, 0, []) := And.intro dX11_longitudeOf_120 (And.intro rfl (And.intro rfl (And.intro (by decide +kernel) (by decide))))
theorem oX11_longitudeOf_123 : OKI 167 123 (.iinc 5 1, 126, [5], 1, 0, []) := And.intro dX11_longitudeOf_123 (And.intro rfl (And.intro rfl (And.intro (by decide +kernel) (by decide))))
theorem oX11_longitudeOf_126 : OKI 167 126 (.goto (-100), 129, [26], 0, 0, []) := And.intro dX11_longitudeOf_126 (And.intro rfl (by decide))
theorem oX11_longitudeOf_129 : OKI 167 129 (.iload 4, 131, [4], 0, 0, []) := And.intro dX11_longitudeOf_129 (And.intro rfl (rfl))
theorem oX11_longitudeOf_131 : OKI 167 131 (.ifCond .ne 9, 134, [140], 0, 0, []) := And.intro dX11_longitudeOf_131 (And.intro rfl (by decide))
theorem oX11_longitudeOf_134 : OKI 167 134 (.ldc_w 256, 137, [], (-1000000000), 0, []) := And.intro dX11_longitudeOf_134 (And.intro rfl (tm_7 _ (List.mem_of_getElem? (i := 11) rfl) rfl))
theorem oX11_longitudeOf_137 : OKI 167 137 (.goto 12, 140, [149], 0, 0, []) := And.intro dX11_longitudeOf_137 (And.intro rfl (by decide))
theorem oX11_longitudeOf_140 : OKI 167 140 (.aload_n 0, 141, [0], 0, 0, []) := And.intro dX11_longitudeOf_140 (And.intro rfl (rfl))
theorem oX11_longitudeOf_141 : OKI 167 141 (.lload_n 2, 142, [2], 0, 0, []) := And.intro dX11_longitudeOf_141 (And.intro rfl (rfl))
theorem oX11_longitudeOf_142 : OKI 167 142 (.iload 4, 144, [4], 0, 0, []) := And.intro dX11_longitudeOf_142 (And.intro rfl (rfl))
theorem oX11_longitudeOf_144 : OKI 167 144 (.i2l, 145, [], 0, 0, []) := And.intro dX11_longitudeOf_144 rfl
theorem oX11_longitudeOf_145 : OKI 167 145 (.invokevirtual 271, 148, [144, 3, 13, 0, 0, 2], 0, 0, []) := And.intro dX11_longitudeOf_145 (And.intro rfl (And.intro (by decide) (And.intro (by decide) (And.intro mo_X11_down (And.intro (tm_7 _ (List.mem_of_getElem? (i := 36) rfl) rfl) (And.intro (tm_7 _ (List.mem_of_getElem? (i := 38) rfl) rfl) (And.intro (pm_4 _ (List.mem_of_getElem? (i := 6) rfl)) (Or.inl ⟨(RX11, TX11, 69), rfl, rfl⟩))))))))
theorem oX11_longitudeOf_148 : OKI 167 148 (.l2i, 149, [], 0, 0, []) := And.intro dX11_longitudeOf_148 rfl
theorem oX11_longitudeOf_149 : OKI 167 149 (.ireturn, 150, [0], 0, 0, []) := And.intro dX11_longitudeOf_149 (Or.inl (And.intro rfl rfl))
def pfX11_longitudeOf (pc : Nat) : Option XE := (bif Nat.blt pc 69 then (bif Nat.blt pc 32 then (bif Nat.blt pc 17 then (bif Nat.blt pc 8 then (bif Nat.blt pc 4 then (bif Nat.blt pc 1 then (bif Nat.beq pc 0 then some (.aload_n 0, 1, [0], 0, 0, []) else none) else (bif Nat.beq pc 1 then some (.getfield 22, 4, [12, 4, 2, 116, 0], 0, 0, []) else none)) else (bif Nat.blt pc 5 then (bif Nat.beq pc 4 then some (.iload_n 1, 5, [1], 0, 0, []) else none) else (bif Nat.blt pc 6 then (bif Nat.beq pc 5 then some (.iaload, 6, [], 0, 0, []) else none) else (bif Nat.beq pc 6 then some (.ldc 228, 8, [], 99999, 0, []) else none)))) else (bif Nat.blt pc 12 then (bif Nat.blt pc 11 then (bif Nat.beq pc 8 then some (.if_icmp .eq 10, 11, [18], 0, 0, []) else none) else (bif Nat.beq pc 11 then some (.aload_n 0, 12, [0], 0, 0, []) else none)) else (bif Nat.blt pc 15 then (bif Nat.beq pc 12 then some (.getfield 22, 15, [12, 4, 2, 116, 0], 0, 0, []) else none) else (bif Nat.blt pc 16 then (bif Nat.beq pc 15 then some (.iload_n 1, 16, [1], 0, 0, []) else none) else (bif Nat.beq pc 16 then some (.iaload, 17, [], 0, 0, []) else none))))) else (bif Nat.blt pc 23 then (bif Nat.blt pc 19 then (bif Nat.blt pc 18 then (bif Nat.beq pc 17 then some (.ireturn, 18, [0], 0, 0, []) else none) else (bif Nat.beq pc 18 then some (.lconst 0, 19, [], 0, 0, []) else none)) else (bif Nat.blt pc 20 then (bif Nat.beq pc 19 then some (.lstore_n 2, 20, [2], 0, 0, []) else none) else (bif Nat.blt pc 21 then (bif Nat.beq pc 20 then some (.iconst 0, 21, [], 0, 0, []) else none) else (bif Nat.beq pc 21 then some (.istore 4, 23, [4], 0, 0, []) else none)))) else (bif Nat.blt pc 26 then (bif Nat.blt pc 24 then (bif Nat.beq pc 23 then some (.iconst 0, 24, [], 0, 0, []) else none) else (bif Nat.beq pc 24 then some (.istore 5, 26, [5], 0, 0, []) else none)) else (bif Nat.blt pc 28 then (bif Nat.beq pc 26 then some (.iload 5, 28, [5], 0, 0, []) else none) else (bif Nat.blt pc 29 then (bif Nat.beq pc 28 then some (.aload_n 0, 29, [0], 0, 0, []) else none) else (bif Nat.beq pc 29 then some (.getfield 35, 32, [12, 8, 0], 0, 0, []) else none)))))) else (bif Nat.blt pc 52 then (bif Nat.blt pc 42 then (bif Nat.blt pc 36 then (bif Nat.blt pc 35 then (bif Nat.beq pc 32 then some (.if_icmp .ge 97, 35, [129], 0, 0, []) else none) else (bif Nat.beq pc 35 then some (.aload_n 0, 36, [0], 0, 0, []) else none)) else (bif Nat.blt pc 39 then (bif Nat.beq pc 36 then some (.getfield 38, 39, [12, 9, 2, 120, 0], 0, 0, []) else none) else (bif Nat.blt pc 41 then (bif Nat.beq pc 39 then some (.iload 5, 41, [5], 0, 0, []) else none) else (bif Nat.beq pc 41 then some (.iaload, 42, [], 0, 0, []) else none)))) else (bif Nat.blt pc 46 then (bif Nat.blt pc 43 then (bif Nat.beq pc 42 then some (.iconst 2, 43, [], 2, 0, []) else none) else (bif Nat.beq pc 43 then some (.if_icmp .ne 80, 46, [123], 0, 0, []) else none)) else (bif Nat.blt pc 47 then (bif Nat.beq pc 46 then some (.aload_n 0, 47, [0], 0, 0, []) else none) else (bif Nat.blt pc 50 then (bif Nat.beq pc 47 then some (.getfield 65, 50, [12, 18, 2, 129, 0], 0, 0, []) else none) else (bif Nat.beq pc 50 then some (.iload 5, 52, [5], 0, 0, []) else none))))) else (bif Nat.blt pc 61 then (bif Nat.blt pc 56 then (bif Nat.blt pc 53 then (bif Nat.beq pc 52 then some (.iaload, 53, [], 0, 0, []) else none) else (bif Nat.beq pc 53 then some (.ifCond .gt 70, 56, [123], 0, 0, []) else none)) else (bif Nat.blt pc 57 then (bif Nat.beq pc 56 then some (.aload_n 0, 57, [0], 0, 0, []) else none) else (bif Nat.blt pc 60 then (bif Nat.beq pc 57 then some (.getfield 29, 60, [12, 6, 2, 118, 0], 0, 0, []) else none) else (bif Nat.beq pc 60 then some (.aload_n 0, 61, [0], 0, 0, []) else none)))) else (bif Nat.blt pc 66 then (bif Nat.blt pc 64 then (bif Nat.beq pc 61 then some (.getfield 41, 64, [12, 10, 2, 121, 0], 0, 0, []) else none) else (bif Nat.beq pc 64 then some (.iload 5, 66, [5], 0, 0, []) else none)) else (bif Nat.blt pc 67 then (bif Nat.beq pc 66 then some (.iaload, 67, [], 0, 0, []) else none) else (bif Nat.blt pc 68 then (bif Nat.beq pc 67 then some (.iaload, 68, [], 0, 0, []) else none) else (bif Nat.beq pc 68 then some (.iload_n 1, 69, [1], 0, 0, []) else none))))))) else (bif Nat.blt pc 110 then (bif Nat.blt pc 89 then (bif Nat.blt pc 80 then (bif Nat.blt pc 75 then (bif Nat.blt pc 72 then (bif Nat.beq pc 69 then some (.if_icmp .eq 6, 72, [75], 0, 0, []) else none) else (bif Nat.beq pc 72 then some (.goto 51, 75, [123], 0, 0, []) else none)) else (bif Nat.blt pc 76 then (bif Nat.beq pc 75 then some (.aload_n 0, 76, [0], 0, 0, []) else none) else (bif Nat.blt pc 77 then (bif Nat.beq pc 76 then some (.aload_n 0, 77, [0], 0, 0, []) else none) else (bif Nat.beq pc 77 then some (.getfield 41, 80, [12, 10, 2, 121, 0], 0, 0, []) else none)))) else (bif Nat.blt pc 83 then (bif Nat.blt pc 82 then (bif Nat.beq pc 80 then some (.iload 5, 82, [5], 0, 0, []) else none) else (bif Nat.beq pc 82 then some (.iaload, 83, [], 0, 0, []) else none)) else (bif Nat.blt pc 84 then (bif Nat.beq pc 83 then some (.aload_n 0, 84, [0], 0, 0, []) else none) else (bif Nat.blt pc 87 then (bif Nat.beq pc 84 then some (.getfield 47, 87, [12, 12, 2, 123, 0], 0, 0, []) else none) else (bif Nat.beq pc 87 then some (.iload 5, 89, [5], 0, 0, []) else none))))) else (bif Nat.blt pc 100 then (bif Nat.blt pc 93 then (bif Nat.blt pc 90 then (bif Nat.beq pc 89 then some (.iaload, 90, [], 0, 0, []) else none) else (bif Nat.beq pc 90 then some (.invokevirtual 279, 93, [165, 3, 13, 0, 0, 1], 0, 0, []) else none)) else (bif Nat.blt pc 95 then (bif Nat.beq pc 93 then some (.istore 6, 95, [6], 0, 0, []) else none) else (bif Nat.blt pc 97 then (bif Nat.beq pc 95 then some (.iload 6, 97, [6], 0, 0, []) else none) else (bif Nat.beq pc 97 then some (.ldc_w 256, 100, [], (-1000000000), 0, []) else none)))) else (bif Nat.blt pc 106 then (bif Nat.blt pc 103 then (bif Nat.beq pc 100 then some (.if_icmp .ne 6, 103, [106], 0, 0, []) else none) else (bif Nat.beq pc 103 then some (.goto 20, 106, [123], 0, 0, []) else none)) else (bif Nat.blt pc 107 then (bif Nat.beq pc 106 then some (.lload_n 2, 107, [2], 0, 0, []) else none) else (bif Nat.blt pc 109 then (bif Nat.beq pc 107 then some (.iload 6, 109, [6], 0, 0, []) else none) else (bif Nat.beq pc 109 then some (.aload_n 0, 110, [0], 0, 0, []) else none)))))) else (bif Nat.blt pc 129 then (bif Nat.blt pc 118 then (bif Nat.blt pc 115 then (bif Nat.blt pc 113 then (bif Nat.beq pc 110 then some (.getfield 50, 113, [12, 13, 2, 124, 0], 0, 0, []) else none) else (bif Nat.beq pc 113 then some (.iload 5, 115, [5], 0, 0, []) else none)) else (bif Nat.blt pc 116 then (bif Nat.beq pc 115 then some (.iaload, 116, [], 0, 0, []) else none) else (bif Nat.blt pc 117 then (bif Nat.beq pc 116 then some (.isub, 117, [], 0, 0, []) else none) else (bif Nat.beq pc 117 then some (.i2l, 118, [], 0, 0, []) else none)))) else (bif Nat.blt pc 120 then (bif Nat.blt pc 119 then (bif Nat.beq pc 118 then some (.ladd, 119, [], 0, 0, []) else none) else (bif Nat.beq pc 119 then some (.lstore_n 2, 120, [2], 0, 0, []) else none)) else (bif Nat.blt pc 123 then (bif Nat.beq pc 120 then some (.iinc 4 1, 123, [4], 1, 0, []) else none) else (bif Nat.blt pc 126 then (bif Nat.beq pc 123 then some (.iinc 5 1, 126, [5], 1, 0, []) else none) else (bif Nat.beq pc 126 then some (.goto (-100), 129, [26], 0, 0, []) else none))))) else (bif Nat.blt pc 141 then (bif Nat.blt pc 134 then (bif Nat.blt pc 131 then (bif Nat.beq pc 129 then some (.iload 4, 131, [4], 0, 0, []) else none) else (bif Nat.beq pc 131 then some (.ifCond .ne 9, 134, [140], 0, 0, []) else none)) else (bif Nat.blt pc 137 then (bif Nat.beq pc 134 then some (.ldc_w 256, 137, [], (-1000000000), 0, []) else none) else (bif Nat.blt pc 140 then (bif Nat.beq pc 137 then some (.goto 12, 140, [149], 0, 0, []) else none) else (bif Nat.beq pc 140 then some (.aload_n 0, 141, [0], 0, 0, []) else none)))) else (bif Nat.blt pc 145 then (bif Nat.blt pc 142 then (bif Nat.beq pc 141 then some (.lload_n 2, 142, [2], 0, 0, []) else none) else (bif Nat.blt pc 144 then (bif Nat.beq pc 142 then some (.iload 4, 144, [4], 0, 0, []) else none) else (bif Nat.beq pc 144 then some (.i2l, 145, [], 0, 0, []) else none))) else (bif Nat.blt pc 148 then (bif Nat.beq pc 145 then some (.invokevirtual 271, 148, [144, 3, 13, 0, 0, 2], 0, 0, []) else none) else (bif Nat.blt pc 149 then (bif Nat.beq pc 148 then some (.l2i, 149, [], 0, 0, []) else none) else (bif Nat.beq pc 149 then some (.ireturn, 150, [0], 0, 0, []) else none))))))))
theorem okX11_longitudeOf : ∀ pc Y, pfX11_longitudeOf pc = some Y → OKI m_X11_longitudeOf pc Y := fun pc Y => ((bt_node (bt_node (bt_node (bt_node (bt_node (bt_node (bt_leaf (P := OKI m_X11_longitudeOf) oX11_longitudeOf_0) (bt_leaf (P := OKI m_X11_longitudeOf) oX11_longitudeOf_1)) (bt_node (bt_leaf (P := OKI m_X11_longitudeOf) oX11_longitudeOf_4) (bt_node (bt_leaf (P := OKI m_X11_longitudeOf) oX11_longitudeOf_5) (bt_leaf (P := OKI m_X11_longitudeOf) oX11_longitudeOf_6)))) (bt_node (bt_node (bt_leaf (P := OKI m_X11_longitudeOf) oX11_longitudeOf_8) (bt_leaf (P := OKI m_X11_longitudeOf) oX11_longitudeOf_11)) (bt_node (bt_leaf (P := OKI m_X11_longitudeOf) oX11_longitudeOf_12) (bt_node (bt_leaf (P := OKI m_X11_longitudeOf) oX11_longitudeOf_15) (bt_leaf (P := OKI m_X11_longitudeOf) oX11_longitudeOf_16))))) (bt_node (bt_node (bt_node (bt_leaf (P := OKI m_X11_longitudeOf) oX11_longitudeOf_17) (bt_leaf (P := OKI m_X11_longitudeOf) oX11_longitudeOf_18)) (bt_node (bt_leaf (P := OKI m_X11_longitudeOf) oX11_longitudeOf_19) (bt_node (bt_leaf (P := OKI m_X11_longitudeOf) oX11_longitudeOf_20) (bt_leaf (P := OKI m_X11_longitudeOf) oX11_longitudeOf_21)))) (bt_node (bt_node (bt_leaf (P := OKI m_X11_longitudeOf) oX11_longitudeOf_23) (bt_leaf (P := OKI m_X11_longitudeOf) oX11_longitudeOf_24)) (bt_node (bt_leaf (P := OKI m_X11_longitudeOf) oX11_longitudeOf_26) (bt_node (bt_leaf (P := OKI m_X11_longitudeOf) oX11_longitudeOf_28) (bt_leaf (P := OKI m_X11_longitudeOf) oX11_longitudeOf_29)))))) (bt_node (bt_node (bt_node (bt_node (bt_leaf (P := OKI m_X11_longitudeOf) oX11_longitudeOf_32) (bt_leaf (P := OKI m_X11_longitudeOf) oX11_longitudeOf_35)) (bt_node (bt_leaf (P := OKI m_X11_longitudeOf) oX11_longitudeOf_36) (bt_node (bt_leaf (P := OKI m_X11_longitudeOf) oX11_longitudeOf_39) (bt_leaf (P := OKI m_X11_longitudeOf) oX11_longitudeOf_41)))) (bt_node (bt_node (bt_leaf (P := OKI m_X11_longitudeOf) oX11_longitudeOf_42) (bt_leaf (P := OKI m_X11_longitudeOf) oX11_longitudeOf_43)) (bt_node (bt_leaf (P := OKI m_X11_longitudeOf) oX11_longitudeOf_46) (bt_node (bt_leaf (P := OKI m_X11_longitudeOf) oX11_longitudeOf_47) (bt_leaf (P := OKI m_X11_longitudeOf) oX11_longitudeOf_50))))) (bt_node (bt_node (bt_node (bt_leaf (P := OKI m_X11_longitudeOf) oX11_longitudeOf_52) (bt_leaf (P := OKI m_X11_longitudeOf) oX11_longitudeOf_53)) (bt_node (bt_leaf (P := OKI m_X11_longitudeOf) oX11_longitudeOf_56) (bt_node (bt_leaf (P := OKI m_X11_longitudeOf) oX11_longitudeOf_57) (bt_leaf (P := OKI m_X11_longitudeOf) oX11_longitudeOf_60)))) (bt_node (bt_node (bt_leaf (P := OKI m_X11_longitudeOf) oX11_longitudeOf_61) (bt_leaf (P := OKI m_X11_longitudeOf) oX11_longitudeOf_64)) (bt_node (bt_leaf (P := OKI m_X11_longitudeOf) oX11_longitudeOf_66) (bt_node (bt_leaf (P := OKI m_X11_longitudeOf) oX11_longitudeOf_67) (bt_leaf (P := OKI m_X11_longitudeOf) oX11_longitudeOf_68))))))) (bt_node (bt_node (bt_node (bt_node (bt_node (bt_leaf (P := OKI m_X11_longitudeOf) oX11_longitudeOf_69) (bt_leaf (P := OKI m_X11_longitudeOf) oX11_longitudeOf_72)) (bt_node (bt_leaf (P := OKI m_X11_longitudeOf) oX11_longitudeOf_75) (bt_node (bt_leaf (P := OKI m_X11_longitudeOf) oX11_longitudeOf_76) (bt_leaf (P := OKI m_X11_longitudeOf) oX11_longitudeOf_77)))) (bt_node (bt_node (bt_leaf (P := OKI m_X11_longitudeOf) oX11_longitudeOf_80) (bt_leaf (P := OKI m_X11_longitudeOf) oX11_longitudeOf_82)) (bt_node (bt_leaf (P := OKI m_X11_longitudeOf) oX11_longitudeOf_83) (bt_node (bt_leaf (P := OKI m_X11_longitudeOf) oX11_longitudeOf_84) (bt_leaf (P := OKI m_X11_longitudeOf) oX11_longitudeOf_87))))) (bt_node (bt_node (bt_node (bt_leaf (P := OKI m_X11_longitudeOf) oX11_longitudeOf_89) (bt_leaf (P := OKI m_X11_longitudeOf) oX11_longitudeOf_90)) (bt_node (bt_leaf (P := OKI m_X11_longitudeOf) oX11_longitudeOf_93) (bt_node (bt_leaf (P := OKI m_X11_longitudeOf) oX11_longitudeOf_95) (bt_leaf (P := OKI m_X11_longitudeOf) oX11_longitudeOf_97)))) (bt_node (bt_node (bt_leaf (P := OKI m_X11_longitudeOf) oX11_longitudeOf_100) (bt_leaf (P := OKI m_X11_longitudeOf) oX11_longitudeOf_103)) (bt_node (bt_leaf (P := OKI m_X11_longitudeOf) oX11_longitudeOf_106) (bt_node (bt_leaf (P := OKI m_X11_longitudeOf) oX11_longitudeOf_107) (bt_leaf (P := OKI m_X11_longitudeOf) oX11_longitudeOf_109)))))) (bt_node (bt_node (bt_node (bt_node (bt_leaf (P := OKI m_X11_longitudeOf) oX11_longitudeOf_110) (bt_leaf (P := OKI m_X11_longitudeOf) oX11_longitudeOf_113)) (bt_node (bt_leaf (P := OKI m_X11_longitudeOf) oX11_longitudeOf_115) (bt_node (bt_leaf (P := OKI m_X11_longitudeOf) oX11_longitudeOf_116) (bt_leaf (P := OKI m_X11_longitudeOf) oX11_longitudeOf_117)))) (bt_node (bt_node (bt_leaf (P := OKI m_X11_longitudeOf) oX11_longitudeOf_118) (bt_leaf (P := OKI m_X11_longitudeOf) oX11_longitudeOf_119)) (bt_node (bt_leaf (P := OKI m_X11_longitudeOf) oX11_longitudeOf_120) (bt_node (bt_leaf (P := OKI m_X11_longitudeOf) oX11_longitudeOf_123) (bt_leaf (P := OKI m_X11_longitudeOf) oX11_longitudeOf_126))))) (bt_node (bt_node (bt_node (bt_leaf (P := OKI m_X11_longitudeOf) oX11_longitudeOf_129) (bt_leaf (P := OKI m_X11_longitudeOf) oX11_longitudeOf_131)) (bt_node (bt_leaf (P := OKI m_X11_longitudeOf) oX11_longitudeOf_134) (bt_node (bt_leaf (P := OKI m_X11_longitudeOf) oX11_longitudeOf_137) (bt_leaf (P := OKI m_X11_longitudeOf) oX11_longitudeOf_140)))) (bt_node (bt_node (bt_leaf (P := OKI m_X11_longitudeOf) oX11_longitudeOf_141) (bt_node (bt_leaf (P := OKI m_X11_longitudeOf) oX11_longitudeOf_142) (bt_leaf (P := OKI m_X11_longitudeOf) oX11_longitudeOf_144))) (bt_node (bt_leaf (P := OKI m_X11_longitudeOf) oX11_longitudeOf_145) (bt_node (bt_leaf (P := OKI m_X11_longitudeOf) oX11_longitudeOf_148) (bt_leaf (P := OKI m_X11_longitudeOf) oX11_longitudeOf_149)))))))) : pfX11_longitudeOf pc = some Y → OKI m_X11_longitudeOf pc Y)
def stpX11_longitudeOf (pc : Nat) : Option (List Bool) := (bif Nat.blt pc 123 then (bif Nat.beq pc 26 then some [true, true, true, false, true, true, false] else none) else (bif Nat.blt pc 149 then (bif Nat.beq pc 123 then some [true, true, true, false, true, true, false] else none) else (bif Nat.beq pc 149 then some [false, false, false, false, false, false, false] else none)))
def bX11_longitudeOf_0 (d rc rs : Nat) (a1 : Int32) (σ : XH) (Q : XV → XH → Prop) : Prop :=
  ((hr σ 12 0 4 = some (116, 0) ∧ ((vp_in a1 (hn σ 116 0) ∧ (((hi σ 116 0 a1.toNatClampNeg) = 99999 → Ex d rc rs m_X11_longitudeOf 26 [vR (some (12, 0)), vI a1, vL 0, vU, vI 0, vI 0, vU] [] σ Q) ∧ (¬ (hi σ 116 0 a1.toNatClampNeg) = 99999 → ((hr σ 12 0 4 = some (116, 0) ∧ ((vp_in a1 (hn σ 116 0) ∧ Q (vI (hi σ 116 0 a1.toNatClampNeg)) σ))))))))))
theorem sX11_longitudeOf_0 {d rc rs : Nat} {a1 : Int32} {σ : XH} {Q : XV → XH → Prop} (h : bX11_longitudeOf_0 d rc rs a1 σ Q) : Ex d rc rs m_X11_longitudeOf 0 [vR (some (12, 0)), vI a1, vU, vU, vU, vU, vU] [] σ Q :=
  xtree_sound (stop := stpX11_longitudeOf) okX11_longitudeOf 14 _ _ _ _ _ _ h
def bX11_longitudeOf_26 (d rc rs : Nat) (l1 : Int32) (l2 : Int64) (l4 : Int32) (l5 : Int32) (σ : XH) (Q : XV → XH → Prop) : Prop :=
  (((l5 < (hi σ 12 0 8) → ((hr σ 12 0 9 = some (120, 0) ∧ ((vp_in l5 (hn σ 120 0) ∧ (((hi σ 120 0 l5.toNatClampNeg) = 2 → ((hr σ 12 0 18 = some (129, 0) ∧ ((vp_in l5 (hn σ 129 0) ∧ ((0 < (hi σ 129 0 l5.toNatClampNeg) → Ex d rc rs m_X11_longitudeOf 123 [vR (some (12, 0)), vI l1, vL l2, vU, vI l4, vI l5, vU] [] σ Q) ∧ (¬ 0 < (hi σ 129 0 l5.toNatClampNeg) → ((hr σ 12 0 6 = some (118, 0) ∧ ((hr σ 12 0 10 = some (121, 0) ∧ ((vp_in l5 (hn σ 121 0) ∧ ((vp_in (hi σ 121 0 l5.toNatClampNeg) (hn σ 118 0) ∧ (((hi σ 118 0 (hi σ 121 0 l5.toNatClampNeg).toNatClampNeg) = l1 → ((hr σ 12 0 10 = some (121, 0) ∧ ((vp_in l5 (hn σ 121 0) ∧ ((hr σ 12 0 12 = some (123, 0) ∧ ((vp_in l5 (hn σ 123 0) ∧ ((1 ≤ d ∧ Ec (d - 1) 0 0 m_X11_timeOf [vR (some (12, 0)), vI (hi σ 121 0 l5.toNatClampNeg), vI (hi σ 123 0 l5.toNatClampNeg)] σ (kI fun x4 h3 => ((x4 = (-1000000000) → Ex d rc rs m_X11_longitudeOf 123 [vR (some (12, 0)), vI l1, vL l2, vU, vI l4, vI l5, vU] [] h3 Q) ∧ (¬ x4 = (-1000000000) → ((hr h3 12 0 13 = some (124, 0) ∧ ((vp_in l5 (hn h3 124 0) ∧ Ex d rc rs m_X11_longitudeOf 123 [vR (some (12, 0)), vI l1, vL (l2 + ((x4 - (hi h3 124 0 l5.toNatClampNeg)).toInt64)), vU, vI (l4 + 1), vI l5, vU] [] h3 Q)))))))))))))))))) ∧ (¬ (hi σ 118 0 (hi σ 121 0 l5.toNatClampNeg).toNatClampNeg) = l1 → Ex d rc rs m_X11_longitudeOf 123 [vR (some (12, 0)), vI l1, vL l2, vU, vI l4, vI l5, vU] [] σ Q))))))))))))))))) ∧ (¬ (hi σ 120 0 l5.toNatClampNeg) = 2 → Ex d rc rs m_X11_longitudeOf 123 [vR (some (12, 0)), vI l1, vL l2, vU, vI l4, vI l5, vU] [] σ Q))))))) ∧ (¬ l5 < (hi σ 12 0 8) → ((l4 = 0 → Ex d rc rs m_X11_longitudeOf 149 [vU, vU, vU, vU, vU, vU, vU] [vI (-1000000000)] σ Q) ∧ (¬ l4 = 0 → ((1 ≤ d ∧ Ec (d - 1) 0 0 m_X11_down [vR (some (12, 0)), vL l2, vL l4.toInt64] σ (kL fun x2 h1 => Ex d rc rs m_X11_longitudeOf 149 [vU, vU, vU, vU, vU, vU, vU] [vI x2.toInt32] h1 Q))))))))
set_option maxRecDepth 40000 in
set_option maxHeartbeats 4000000 in
theorem sX11_longitudeOf_26 {d rc rs : Nat} {l1 : Int32} {l2 : Int64} {l4 : Int32} {l5 : Int32} {σ : XH} {Q : XV → XH → Prop} (h : bX11_longitudeOf_26 d rc rs l1 l2 l4 l5 σ Q) : Ex d rc rs m_X11_longitudeOf 26 [vR (some (12, 0)), vI l1, vL l2, vU, vI l4, vI l5, vU] [] σ Q :=
  xtree_sound (stop := stpX11_longitudeOf) okX11_longitudeOf 51 _ _ _ _ _ _ h
def bX11_longitudeOf_123 (d rc rs : Nat) (l1 : Int32) (l2 : Int64) (l4 : Int32) (l5 : Int32) (σ : XH) (Q : XV → XH → Prop) : Prop :=
  Ex d rc rs m_X11_longitudeOf 26 [vR (some (12, 0)), vI l1, vL l2, vU, vI l4, vI (l5 + 1), vU] [] σ Q
theorem sX11_longitudeOf_123 {d rc rs : Nat} {l1 : Int32} {l2 : Int64} {l4 : Int32} {l5 : Int32} {σ : XH} {Q : XV → XH → Prop} (h : bX11_longitudeOf_123 d rc rs l1 l2 l4 l5 σ Q) : Ex d rc rs m_X11_longitudeOf 123 [vR (some (12, 0)), vI l1, vL l2, vU, vI l4, vI l5, vU] [] σ Q :=
  xtree_sound (stop := stpX11_longitudeOf) okX11_longitudeOf 4 _ _ _ _ _ _ h
def bX11_longitudeOf_149 (d rc rs : Nat) (q0 : Int32) (σ : XH) (Q : XV → XH → Prop) : Prop :=
  Q (vI q0) σ
theorem sX11_longitudeOf_149 {d rc rs : Nat} {q0 : Int32} {σ : XH} {Q : XV → XH → Prop} (h : bX11_longitudeOf_149 d rc rs q0 σ Q) : Ex d rc rs m_X11_longitudeOf 149 [vU, vU, vU, vU, vU, vU, vU] [vI q0] σ Q :=
  xtree_sound (stop := stpX11_longitudeOf) okX11_longitudeOf 3 _ _ _ _ _ _ h
/-! SpotTimersModel.longitude(I)I -/
theorem dX11_longitude_0 : decode cX11_longitude 0 = .ok (.aload_n 0, 1) := by decide +kernel
theorem dX11_longitude_1 : decode cX11_longitude 1 = .ok (.iload_n 1, 1) := by decide +kernel
theorem dX11_longitude_2 : decode cX11_longitude 2 = .ok (.invokevirtual 229, 3) := by decide +kernel
theorem dX11_longitude_5 : decode cX11_longitude 5 = .ok (.ifCond .eq 11, 3) := by decide +kernel
theorem dX11_longitude_8 : decode cX11_longitude 8 = .ok (.aload_n 0, 1) := by decide +kernel
theorem dX11_longitude_9 : decode cX11_longitude 9 = .ok (.iload_n 1, 1) := by decide +kernel
theorem dX11_longitude_10 : decode cX11_longitude 10 = .ok (.invokevirtual 282, 3) := by decide +kernel
theorem dX11_longitude_13 : decode cX11_longitude 13 = .ok (.goto 6, 3) := by decide +kernel
theorem dX11_longitude_16 : decode cX11_longitude 16 = .ok (.ldc_w 256, 3) := by decide +kernel
theorem dX11_longitude_19 : decode cX11_longitude 19 = .ok (.ireturn, 1) := by decide +kernel
theorem oX11_longitude_0 : OKI 168 0 (.aload_n 0, 1, [0], 0, 0, []) := And.intro dX11_longitude_0 (And.intro rfl (rfl))
theorem oX11_longitude_1 : OKI 168 1 (.iload_n 1, 2, [1], 0, 0, []) := And.intro dX11_longitude_1 (And.intro rfl (rfl))
theorem oX11_longitude_2 : OKI 168 2 (.invokevirtual 229, 5, [147, 2, 13, 0, 0, 1], 0, 0, []) := And.intro dX11_longitude_2 (And.intro rfl (And.intro (by decide) (And.intro (by decide) (And.intro mo_X11_isStation (And.intro (tm_6 _ (List.mem_of_getElem? (i := 194) rfl) rfl) (And.intro (tm_6 _ (List.mem_of_getElem? (i := 196) rfl) rfl) (And.intro (pm_3 _ (List.mem_of_getElem? (i := 9) rfl)) (Or.inl ⟨(RX11, TX11, 69), rfl, rfl⟩))))))))
theorem oX11_longitude_5 : OKI 168 5 (.ifCond .eq 11, 8, [16], 0, 0, []) := And.intro dX11_longitude_5 (And.intro rfl (by decide))
theorem oX11_longitude_8 : OKI 168 8 (.aload_n 0, 9, [0], 0, 0, []) := And.intro dX11_longitude_8 (And.intro rfl (rfl))
theorem oX11_longitude_9 : OKI 168 9 (.iload_n 1, 10, [1], 0, 0, []) := And.intro dX11_longitude_9 (And.intro rfl (rfl))
theorem oX11_longitude_10 : OKI 168 10 (.invokevirtual 282, 13, [167, 2, 13, 0, 0, 1], 0, 0, []) := And.intro dX11_longitude_10 (And.intro rfl (And.intro (by decide) (And.intro (by decide) (And.intro mo_X11_longitudeOf (And.intro (tm_7 _ (List.mem_of_getElem? (i := 46) rfl) rfl) (And.intro (tm_7 _ (List.mem_of_getElem? (i := 48) rfl) rfl) (And.intro (pm_4 _ (List.mem_of_getElem? (i := 7) rfl)) (Or.inl ⟨(RX11, TX11, 69), rfl, rfl⟩))))))))
theorem oX11_longitude_13 : OKI 168 13 (.goto 6, 16, [19], 0, 0, []) := And.intro dX11_longitude_13 (And.intro rfl (by decide))
theorem oX11_longitude_16 : OKI 168 16 (.ldc_w 256, 19, [], (-1000000000), 0, []) := And.intro dX11_longitude_16 (And.intro rfl (tm_7 _ (List.mem_of_getElem? (i := 11) rfl) rfl))
theorem oX11_longitude_19 : OKI 168 19 (.ireturn, 20, [0], 0, 0, []) := And.intro dX11_longitude_19 (Or.inl (And.intro rfl rfl))
def pfX11_longitude (pc : Nat) : Option XE := (bif Nat.blt pc 9 then (bif Nat.blt pc 2 then (bif Nat.blt pc 1 then (bif Nat.beq pc 0 then some (.aload_n 0, 1, [0], 0, 0, []) else none) else (bif Nat.beq pc 1 then some (.iload_n 1, 2, [1], 0, 0, []) else none)) else (bif Nat.blt pc 5 then (bif Nat.beq pc 2 then some (.invokevirtual 229, 5, [147, 2, 13, 0, 0, 1], 0, 0, []) else none) else (bif Nat.blt pc 8 then (bif Nat.beq pc 5 then some (.ifCond .eq 11, 8, [16], 0, 0, []) else none) else (bif Nat.beq pc 8 then some (.aload_n 0, 9, [0], 0, 0, []) else none)))) else (bif Nat.blt pc 13 then (bif Nat.blt pc 10 then (bif Nat.beq pc 9 then some (.iload_n 1, 10, [1], 0, 0, []) else none) else (bif Nat.beq pc 10 then some (.invokevirtual 282, 13, [167, 2, 13, 0, 0, 1], 0, 0, []) else none)) else (bif Nat.blt pc 16 then (bif Nat.beq pc 13 then some (.goto 6, 16, [19], 0, 0, []) else none) else (bif Nat.blt pc 19 then (bif Nat.beq pc 16 then some (.ldc_w 256, 19, [], (-1000000000), 0, []) else none) else (bif Nat.beq pc 19 then some (.ireturn, 20, [0], 0, 0, []) else none)))))
theorem okX11_longitude : ∀ pc Y, pfX11_longitude pc = some Y → OKI m_X11_longitude pc Y := fun pc Y => ((bt_node (bt_node (bt_node (bt_leaf (P := OKI m_X11_longitude) oX11_longitude_0) (bt_leaf (P := OKI m_X11_longitude) oX11_longitude_1)) (bt_node (bt_leaf (P := OKI m_X11_longitude) oX11_longitude_2) (bt_node (bt_leaf (P := OKI m_X11_longitude) oX11_longitude_5) (bt_leaf (P := OKI m_X11_longitude) oX11_longitude_8)))) (bt_node (bt_node (bt_leaf (P := OKI m_X11_longitude) oX11_longitude_9) (bt_leaf (P := OKI m_X11_longitude) oX11_longitude_10)) (bt_node (bt_leaf (P := OKI m_X11_longitude) oX11_longitude_13) (bt_node (bt_leaf (P := OKI m_X11_longitude) oX11_longitude_16) (bt_leaf (P := OKI m_X11_longitude) oX11_longitude_19))))) : pfX11_longitude pc = some Y → OKI m_X11_longitude pc Y)
def stpX11_longitude (pc : Nat) : Option (List Bool) := (bif Nat.beq pc 19 then some [false, false] else none)
def bX11_longitude_0 (d rc rs : Nat) (a1 : Int32) (σ : XH) (Q : XV → XH → Prop) : Prop :=
  ((1 ≤ d ∧ Ec (d - 1) 0 0 m_X11_isStation [vR (some (12, 0)), vI a1] σ (kI fun x2 h1 => ((x2 = 0 → Ex d rc rs m_X11_longitude 19 [vU, vU] [vI (-1000000000)] h1 Q) ∧ (¬ x2 = 0 → ((1 ≤ d ∧ Ec (d - 1) 0 0 m_X11_longitudeOf [vR (some (12, 0)), vI a1] h1 (kI fun x4 h3 => Ex d rc rs m_X11_longitude 19 [vU, vU] [vI x4] h3 Q))))))))
theorem sX11_longitude_0 {d rc rs : Nat} {a1 : Int32} {σ : XH} {Q : XV → XH → Prop} (h : bX11_longitude_0 d rc rs a1 σ Q) : Ex d rc rs m_X11_longitude 0 [vR (some (12, 0)), vI a1] [] σ Q :=
  xtree_sound (stop := stpX11_longitude) okX11_longitude 10 _ _ _ _ _ _ h
def bX11_longitude_19 (d rc rs : Nat) (q0 : Int32) (σ : XH) (Q : XV → XH → Prop) : Prop :=
  Q (vI q0) σ
theorem sX11_longitude_19 {d rc rs : Nat} {q0 : Int32} {σ : XH} {Q : XV → XH → Prop} (h : bX11_longitude_19 d rc rs q0 σ Q) : Ex d rc rs m_X11_longitude 19 [vU, vU] [vI q0] σ Q :=
  xtree_sound (stop := stpX11_longitude) okX11_longitude 3 _ _ _ _ _ _ h
/-! SpotTimersModel.seenAt(III)I -/
theorem dX11_seenAt_0 : decode cX11_seenAt 0 = .ok (.aload_n 0, 1) := by decide +kernel
theorem dX11_seenAt_1 : decode cX11_seenAt 1 = .ok (.iload_n 1, 1) := by decide +kernel
theorem dX11_seenAt_2 : decode cX11_seenAt 2 = .ok (.iload_n 2, 1) := by decide +kernel
theorem dX11_seenAt_3 : decode cX11_seenAt 3 = .ok (.invokevirtual 279, 3) := by decide +kernel
theorem dX11_seenAt_6 : decode cX11_seenAt 6 = .ok (.istore 4, 2) := by decide +kernel
theorem dX11_seenAt_8 : decode cX11_seenAt 8 = .ok (.aload_n 0, 1) := by decide +kernel
theorem dX11_seenAt_9 : decode cX11_seenAt 9 = .ok (.aload_n 0, 1) := by decide +kernel
theorem dX11_seenAt_10 : decode cX11_seenAt 10 = .ok (.getfield 29, 3) := by decide +kernel
theorem dX11_seenAt_13 : decode cX11_seenAt 13 = .ok (.iload_n 1, 1) := by decide +kernel
theorem dX11_seenAt_14 : decode cX11_seenAt 14 = .ok (.iaload, 1) := by decide +kernel
theorem dX11_seenAt_15 : decode cX11_seenAt 15 = .ok (.invokevirtual 282, 3) := by decide +kernel
theorem dX11_seenAt_18 : decode cX11_seenAt 18 = .ok (.istore 5, 2) := by decide +kernel
theorem dX11_seenAt_20 : decode cX11_seenAt 20 = .ok (.iload 4, 2) := by decide +kernel
theorem dX11_seenAt_22 : decode cX11_seenAt 22 = .ok (.ldc_w 256, 3) := by decide +kernel
theorem dX11_seenAt_25 : decode cX11_seenAt 25 = .ok (.if_icmp .eq 11, 3) := by decide +kernel
theorem dX11_seenAt_28 : decode cX11_seenAt 28 = .ok (.iload 5, 2) := by decide +kernel
theorem dX11_seenAt_30 : decode cX11_seenAt 30 = .ok (.ldc_w 256, 3) := by decide +kernel
theorem dX11_seenAt_33 : decode cX11_seenAt 33 = .ok (.if_icmp .ne 9, 3) := by decide +kernel
theorem dX11_seenAt_36 : decode cX11_seenAt 36 = .ok (.ldc_w 256, 3) := by decide +kernel
theorem dX11_seenAt_39 : decode cX11_seenAt 39 = .ok (.goto 25, 3) := by decide +kernel
theorem dX11_seenAt_42 : decode cX11_seenAt 42 = .ok (.iload 4, 2) := by decide +kernel
theorem dX11_seenAt_44 : decode cX11_seenAt 44 = .ok (.iload 5, 2) := by decide +kernel
theorem dX11_seenAt_46 : decode cX11_seenAt 46 = .ok (.isub, 1) := by decide +kernel
theorem dX11_seenAt_47 : decode cX11_seenAt 47 = .ok (.aload_n 0, 1) := by decide +kernel
theorem dX11_seenAt_48 : decode cX11_seenAt 48 = .ok (.getfield 26, 3) := by decide +kernel
theorem dX11_seenAt_51 : decode cX11_seenAt 51 = .ok (.aload_n 0, 1) := by decide +kernel
theorem dX11_seenAt_52 : decode cX11_seenAt 52 = .ok (.getfield 29, 3) := by decide +kernel
theorem dX11_seenAt_55 : decode cX11_seenAt 55 = .ok (.iload_n 1, 1) := by decide +kernel
theorem dX11_seenAt_56 : decode cX11_seenAt 56 = .ok (.iaload, 1) := by decide +kernel
theorem dX11_seenAt_57 : decode cX11_seenAt 57 = .ok (.iaload, 1) := by decide +kernel
theorem dX11_seenAt_58 : decode cX11_seenAt 58 = .ok (.bipush 100, 2) := by decide +kernel
theorem dX11_seenAt_60 : decode cX11_seenAt 60 = .ok (.idiv, 1) := by decide +kernel
theorem dX11_seenAt_61 : decode cX11_seenAt 61 = .ok (.isub, 1) := by decide +kernel
theorem dX11_seenAt_62 : decode cX11_seenAt 62 = .ok (.iload_n 3, 1) := by decide +kernel
theorem dX11_seenAt_63 : decode cX11_seenAt 63 = .ok (.iadd, 1) := by decide +kernel
theorem dX11_seenAt_64 : decode cX11_seenAt 64 = .ok (.ireturn, 1) := by decide +kernel
theorem oX11_seenAt_0 : OKI 169 0 (.aload_n 0, 1, [0], 0, 0, []) := And.intro dX11_seenAt_0 (And.intro rfl (rfl))
theorem oX11_seenAt_1 : OKI 169 1 (.iload_n 1, 2, [1], 0, 0, []) := And.intro dX11_seenAt_1 (And.intro rfl (rfl))
theorem oX11_seenAt_2 : OKI 169 2 (.iload_n 2, 3, [2], 0, 0, []) := And.intro dX11_seenAt_2 (And.intro rfl (rfl))
theorem oX11_seenAt_3 : OKI 169 3 (.invokevirtual 279, 6, [165, 3, 13, 0, 0, 1], 0, 0, []) := And.intro dX11_seenAt_3 (And.intro rfl (And.intro (by decide) (And.intro (by decide) (And.intro mo_X11_timeOf (And.intro (tm_7 _ (List.mem_of_getElem? (i := 20) rfl) rfl) (And.intro (tm_7 _ (List.mem_of_getElem? (i := 22) rfl) rfl) (And.intro (pm_4 _ (List.mem_of_getElem? (i := 2) rfl)) (Or.inl ⟨(RX11, TX11, 69), rfl, rfl⟩))))))))
theorem oX11_seenAt_6 : OKI 169 6 (.istore 4, 8, [4], 0, 0, []) := And.intro dX11_seenAt_6 (And.intro rfl (And.intro rfl (by decide)))
theorem oX11_seenAt_8 : OKI 169 8 (.aload_n 0, 9, [0], 0, 0, []) := And.intro dX11_seenAt_8 (And.intro rfl (rfl))
theorem oX11_seenAt_9 : OKI 169 9 (.aload_n 0, 10, [0], 0, 0, []) := And.intro dX11_seenAt_9 (And.intro rfl (rfl))
theorem oX11_seenAt_10 : OKI 169 10 (.getfield 29, 13, [12, 6, 2, 118, 0], 0, 0, []) := And.intro dX11_seenAt_10 (And.intro rfl (⟨(RX11, TX11, 69), "SpotTimersModel", rfl, by decide, tm_5 _ (List.mem_of_getElem? (i := 212) rfl) rfl, Or.inl rfl, rfl, rfl⟩))
theorem oX11_seenAt_13 : OKI 169 13 (.iload_n 1, 14, [1], 0, 0, []) := And.intro dX11_seenAt_13 (And.intro rfl (rfl))
theorem oX11_seenAt_14 : OKI 169 14 (.iaload, 15, [], 0, 0, []) := And.intro dX11_seenAt_14 rfl
theorem oX11_seenAt_15 : OKI 169 15 (.invokevirtual 282, 18, [167, 2, 13, 0, 0, 1], 0, 0, []) := And.intro dX11_seenAt_15 (And.intro rfl (And.intro (by decide) (And.intro (by decide) (And.intro mo_X11_longitudeOf (And.intro (tm_7 _ (List.mem_of_getElem? (i := 46) rfl) rfl) (And.intro (tm_7 _ (List.mem_of_getElem? (i := 48) rfl) rfl) (And.intro (pm_4 _ (List.mem_of_getElem? (i := 7) rfl)) (Or.inl ⟨(RX11, TX11, 69), rfl, rfl⟩))))))))
theorem oX11_seenAt_18 : OKI 169 18 (.istore 5, 20, [5], 0, 0, []) := And.intro dX11_seenAt_18 (And.intro rfl (And.intro rfl (by decide)))
theorem oX11_seenAt_20 : OKI 169 20 (.iload 4, 22, [4], 0, 0, []) := And.intro dX11_seenAt_20 (And.intro rfl (rfl))
theorem oX11_seenAt_22 : OKI 169 22 (.ldc_w 256, 25, [], (-1000000000), 0, []) := And.intro dX11_seenAt_22 (And.intro rfl (tm_7 _ (List.mem_of_getElem? (i := 11) rfl) rfl))
theorem oX11_seenAt_25 : OKI 169 25 (.if_icmp .eq 11, 28, [36], 0, 0, []) := And.intro dX11_seenAt_25 (And.intro rfl (by decide))
theorem oX11_seenAt_28 : OKI 169 28 (.iload 5, 30, [5], 0, 0, []) := And.intro dX11_seenAt_28 (And.intro rfl (rfl))
theorem oX11_seenAt_30 : OKI 169 30 (.ldc_w 256, 33, [], (-1000000000), 0, []) := And.intro dX11_seenAt_30 (And.intro rfl (tm_7 _ (List.mem_of_getElem? (i := 11) rfl) rfl))
theorem oX11_seenAt_33 : OKI 169 33 (.if_icmp .ne 9, 36, [42], 0, 0, []) := And.intro dX11_seenAt_33 (And.intro rfl (by decide))
theorem oX11_seenAt_36 : OKI 169 36 (.ldc_w 256, 39, [], (-1000000000), 0, []) := And.intro dX11_seenAt_36 (And.intro rfl (tm_7 _ (List.mem_of_getElem? (i := 11) rfl) rfl))
theorem oX11_seenAt_39 : OKI 169 39 (.goto 25, 42, [64], 0, 0, []) := And.intro dX11_seenAt_39 (And.intro rfl (by decide))
theorem oX11_seenAt_42 : OKI 169 42 (.iload 4, 44, [4], 0, 0, []) := And.intro dX11_seenAt_42 (And.intro rfl (rfl))
theorem oX11_seenAt_44 : OKI 169 44 (.iload 5, 46, [5], 0, 0, []) := And.intro dX11_seenAt_44 (And.intro rfl (rfl))
theorem oX11_seenAt_46 : OKI 169 46 (.isub, 47, [], 0, 0, []) := And.intro dX11_seenAt_46 rfl
theorem oX11_seenAt_47 : OKI 169 47 (.aload_n 0, 48, [0], 0, 0, []) := And.intro dX11_seenAt_47 (And.intro rfl (rfl))
theorem oX11_seenAt_48 : OKI 169 48 (.getfield 26, 51, [12, 5, 2, 117, 0], 0, 0, []) := And.intro dX11_seenAt_48 (And.intro rfl (⟨(RX11, TX11, 69), "SpotTimersModel", rfl, by decide, tm_5 _ (List.mem_of_getElem? (i := 211) rfl) rfl, Or.inl rfl, rfl, rfl⟩))
theorem oX11_seenAt_51 : OKI 169 51 (.aload_n 0, 52, [0], 0, 0, []) := And.intro dX11_seenAt_51 (And.intro rfl (rfl))
theorem oX11_seenAt_52 : OKI 169 52 (.getfield 29, 55, [12, 6, 2, 118, 0], 0, 0, []) := And.intro dX11_seenAt_52 (And.intro rfl (⟨(RX11, TX11, 69), "SpotTimersModel", rfl, by decide, tm_5 _ (List.mem_of_getElem? (i := 212) rfl) rfl, Or.inl rfl, rfl, rfl⟩))
theorem oX11_seenAt_55 : OKI 169 55 (.iload_n 1, 56, [1], 0, 0, []) := And.intro dX11_seenAt_55 (And.intro rfl (rfl))
theorem oX11_seenAt_56 : OKI 169 56 (.iaload, 57, [], 0, 0, []) := And.intro dX11_seenAt_56 rfl
theorem oX11_seenAt_57 : OKI 169 57 (.iaload, 58, [], 0, 0, []) := And.intro dX11_seenAt_57 rfl
theorem oX11_seenAt_58 : OKI 169 58 (.bipush 100, 60, [], 100, 0, []) := And.intro dX11_seenAt_58 (And.intro rfl (by decide +kernel))
theorem oX11_seenAt_60 : OKI 169 60 (.idiv, 61, [], 0, 0, []) := And.intro dX11_seenAt_60 rfl
theorem oX11_seenAt_61 : OKI 169 61 (.isub, 62, [], 0, 0, []) := And.intro dX11_seenAt_61 rfl
theorem oX11_seenAt_62 : OKI 169 62 (.iload_n 3, 63, [3], 0, 0, []) := And.intro dX11_seenAt_62 (And.intro rfl (rfl))
theorem oX11_seenAt_63 : OKI 169 63 (.iadd, 64, [], 0, 0, []) := And.intro dX11_seenAt_63 rfl
theorem oX11_seenAt_64 : OKI 169 64 (.ireturn, 65, [0], 0, 0, []) := And.intro dX11_seenAt_64 (Or.inl (And.intro rfl rfl))
def pfX11_seenAt (pc : Nat) : Option XE := (bif Nat.blt pc 36 then (bif Nat.blt pc 14 then (bif Nat.blt pc 6 then (bif Nat.blt pc 2 then (bif Nat.blt pc 1 then (bif Nat.beq pc 0 then some (.aload_n 0, 1, [0], 0, 0, []) else none) else (bif Nat.beq pc 1 then some (.iload_n 1, 2, [1], 0, 0, []) else none)) else (bif Nat.blt pc 3 then (bif Nat.beq pc 2 then some (.iload_n 2, 3, [2], 0, 0, []) else none) else (bif Nat.beq pc 3 then some (.invokevirtual 279, 6, [165, 3, 13, 0, 0, 1], 0, 0, []) else none))) else (bif Nat.blt pc 9 then (bif Nat.blt pc 8 then (bif Nat.beq pc 6 then some (.istore 4, 8, [4], 0, 0, []) else none) else (bif Nat.beq pc 8 then some (.aload_n 0, 9, [0], 0, 0, []) else none)) else (bif Nat.blt pc 10 then (bif Nat.beq pc 9 then some (.aload_n 0, 10, [0], 0, 0, []) else none) else (bif Nat.blt pc 13 then (bif Nat.beq pc 10 then some (.getfield 29, 13, [12, 6, 2, 118, 0], 0, 0, []) else none) else (bif Nat.beq pc 13 then some (.iload_n 1, 14, [1], 0, 0, []) else none))))) else (bif Nat.blt pc 22 then (bif Nat.blt pc 18 then (bif Nat.blt pc 15 then (bif Nat.beq pc 14 then some (.iaload, 15, [], 0, 0, []) else none) else (bif Nat.beq pc 15 then some (.invokevirtual 282, 18, [167, 2, 13, 0, 0, 1], 0, 0, []) else none)) else (bif Nat.blt pc 20 then (bif Nat.beq pc 18 then some (.istore 5, 20, [5], 0, 0, []) else none) else (bif Nat.beq pc 20 then some (.iload 4, 22, [4], 0, 0, []) else none))) else (bif Nat.blt pc 28 then (bif Nat.blt pc 25 then (bif Nat.beq pc 22 then some (.ldc_w 256, 25, [], (-1000000000), 0, []) else none) else (bif Nat.beq pc 25 then some (.if_icmp .eq 11, 28, [36], 0, 0, []) else none)) else (bif Nat.blt pc 30 then (bif Nat.beq pc 28 then some (.iload 5, 30, [5], 0, 0, []) else none) else (bif Nat.blt pc 33 then (bif Nat.beq pc 30 then some (.ldc_w 256, 33, [], (-1000000000), 0, []) else none) else (bif Nat.beq pc 33 then some (.if_icmp .ne 9, 36, [42], 0, 0, []) else none)))))) else (bif Nat.blt pc 55 then (bif Nat.blt pc 46 then (bif Nat.blt pc 42 then (bif Nat.blt pc 39 then (bif Nat.beq pc 36 then some (.ldc_w 256, 39, [], (-1000000000), 0, []) else none) else (bif Nat.beq pc 39 then some (.goto 25, 42, [64], 0, 0, []) else none)) else (bif Nat.blt pc 44 then (bif Nat.beq pc 42 then some (.iload 4, 44, [4], 0, 0, []) else none) else (bif Nat.beq pc 44 then some (.iload 5, 46, [5], 0, 0, []) else none))) else (bif Nat.blt pc 48 then (bif Nat.blt pc 47 then (bif Nat.beq pc 46 then some (.isub, 47, [], 0, 0, []) else none) else (bif Nat.beq pc 47 then some (.aload_n 0, 48, [0], 0, 0, []) else none)) else (bif Nat.blt pc 51 then (bif Nat.beq pc 48 then some (.getfield 26, 51, [12, 5, 2, 117, 0], 0, 0, []) else none) else (bif Nat.blt pc 52 then (bif Nat.beq pc 51 then some (.aload_n 0, 52, [0], 0, 0, []) else none) else (bif Nat.beq pc 52 then some (.getfield 29, 55, [12, 6, 2, 118, 0], 0, 0, []) else none))))) else (bif Nat.blt pc 60 then (bif Nat.blt pc 57 then (bif Nat.blt pc 56 then (bif Nat.beq pc 55 then some (.iload_n 1, 56, [1], 0, 0, []) else none) else (bif Nat.beq pc 56 then some (.iaload, 57, [], 0, 0, []) else none)) else (bif Nat.blt pc 58 then (bif Nat.beq pc 57 then some (.iaload, 58, [], 0, 0, []) else none) else (bif Nat.beq pc 58 then some (.bipush 100, 60, [], 100, 0, []) else none))) else (bif Nat.blt pc 62 then (bif Nat.blt pc 61 then (bif Nat.beq pc 60 then some (.idiv, 61, [], 0, 0, []) else none) else (bif Nat.beq pc 61 then some (.isub, 62, [], 0, 0, []) else none)) else (bif Nat.blt pc 63 then (bif Nat.beq pc 62 then some (.iload_n 3, 63, [3], 0, 0, []) else none) else (bif Nat.blt pc 64 then (bif Nat.beq pc 63 then some (.iadd, 64, [], 0, 0, []) else none) else (bif Nat.beq pc 64 then some (.ireturn, 65, [0], 0, 0, []) else none)))))))
theorem okX11_seenAt : ∀ pc Y, pfX11_seenAt pc = some Y → OKI m_X11_seenAt pc Y := fun pc Y => ((bt_node (bt_node (bt_node (bt_node (bt_node (bt_leaf (P := OKI m_X11_seenAt) oX11_seenAt_0) (bt_leaf (P := OKI m_X11_seenAt) oX11_seenAt_1)) (bt_node (bt_leaf (P := OKI m_X11_seenAt) oX11_seenAt_2) (bt_leaf (P := OKI m_X11_seenAt) oX11_seenAt_3))) (bt_node (bt_node (bt_leaf (P := OKI m_X11_seenAt) oX11_seenAt_6) (bt_leaf (P := OKI m_X11_seenAt) oX11_seenAt_8)) (bt_node (bt_leaf (P := OKI m_X11_seenAt) oX11_seenAt_9) (bt_node (bt_leaf (P := OKI m_X11_seenAt) oX11_seenAt_10) (bt_leaf (P := OKI m_X11_seenAt) oX11_seenAt_13))))) (bt_node (bt_node (bt_node (bt_leaf (P := OKI m_X11_seenAt) oX11_seenAt_14) (bt_leaf (P := OKI m_X11_seenAt) oX11_seenAt_15)) (bt_node (bt_leaf (P := OKI m_X11_seenAt) oX11_seenAt_18) (bt_leaf (P := OKI m_X11_seenAt) oX11_seenAt_20))) (bt_node (bt_node (bt_leaf (P := OKI m_X11_seenAt) oX11_seenAt_22) (bt_leaf (P := OKI m_X11_seenAt) oX11_seenAt_25)) (bt_node (bt_leaf (P := OKI m_X11_seenAt) oX11_seenAt_28) (bt_node (bt_leaf (P := OKI m_X11_seenAt) oX11_seenAt_30) (bt_leaf (P := OKI m_X11_seenAt) oX11_seenAt_33)))))) (bt_node (bt_node (bt_node (bt_node (bt_leaf (P := OKI m_X11_seenAt) oX11_seenAt_36) (bt_leaf (P := OKI m_X11_seenAt) oX11_seenAt_39)) (bt_node (bt_leaf (P := OKI m_X11_seenAt) oX11_seenAt_42) (bt_leaf (P := OKI m_X11_seenAt) oX11_seenAt_44))) (bt_node (bt_node (bt_leaf (P := OKI m_X11_seenAt) oX11_seenAt_46) (bt_leaf (P := OKI m_X11_seenAt) oX11_seenAt_47)) (bt_node (bt_leaf (P := OKI m_X11_seenAt) oX11_seenAt_48) (bt_node (bt_leaf (P := OKI m_X11_seenAt) oX11_seenAt_51) (bt_leaf (P := OKI m_X11_seenAt) oX11_seenAt_52))))) (bt_node (bt_node (bt_node (bt_leaf (P := OKI m_X11_seenAt) oX11_seenAt_55) (bt_leaf (P := OKI m_X11_seenAt) oX11_seenAt_56)) (bt_node (bt_leaf (P := OKI m_X11_seenAt) oX11_seenAt_57) (bt_leaf (P := OKI m_X11_seenAt) oX11_seenAt_58))) (bt_node (bt_node (bt_leaf (P := OKI m_X11_seenAt) oX11_seenAt_60) (bt_leaf (P := OKI m_X11_seenAt) oX11_seenAt_61)) (bt_node (bt_leaf (P := OKI m_X11_seenAt) oX11_seenAt_62) (bt_node (bt_leaf (P := OKI m_X11_seenAt) oX11_seenAt_63) (bt_leaf (P := OKI m_X11_seenAt) oX11_seenAt_64))))))) : pfX11_seenAt pc = some Y → OKI m_X11_seenAt pc Y)
def stpX11_seenAt (pc : Nat) : Option (List Bool) := (bif Nat.blt pc 64 then (bif Nat.beq pc 36 then some [false, false, false, false, false, false] else none) else (bif Nat.beq pc 64 then some [false, false, false, false, false, false] else none))
def bX11_seenAt_0 (d rc rs : Nat) (a1 : Int32) (a2 : Int32) (a3 : Int32) (σ : XH) (Q : XV → XH → Prop) : Prop :=
  ((1 ≤ d ∧ Ec (d - 1) 0 0 m_X11_timeOf [vR (some (12, 0)), vI a1, vI a2] σ (kI fun x2 h1 => ((hr h1 12 0 6 = some (118, 0) ∧ ((vp_in a1 (hn h1 118 0) ∧ ((1 ≤ d ∧ Ec (d - 1) 0 0 m_X11_longitudeOf [vR (some (12, 0)), vI (hi h1 118 0 a1.toNatClampNeg)] h1 (kI fun x4 h3 => ((x2 = (-1000000000) → Ex d rc rs m_X11_seenAt 36 [vU, vU, vU, vU, vU, vU] [] h3 Q) ∧ (¬ x2 = (-1000000000) → ((x4 = (-1000000000) → Ex d rc rs m_X11_seenAt 36 [vU, vU, vU, vU, vU, vU] [] h3 Q) ∧ (¬ x4 = (-1000000000) → ((hr h3 12 0 5 = some (117, 0) ∧ ((hr h3 12 0 6 = some (118, 0) ∧ ((vp_in a1 (hn h3 118 0) ∧ ((vp_in (hi h3 118 0 a1.toNatClampNeg) (hn h3 117 0) ∧ (¬ (100 : Int32) = 0 ∧ Ex d rc rs m_X11_seenAt 64 [vU, vU, vU, vU, vU, vU] [vI (((x2 - x4) - ((hi h3 117 0 (hi h3 118 0 a1.toNatClampNeg).toNatClampNeg) / 100)) + a3)] h3 Q)))))))))))))))))))))))
theorem sX11_seenAt_0 {d rc rs : Nat} {a1 : Int32} {a2 : Int32} {a3 : Int32} {σ : XH} {Q : XV → XH → Prop} (h : bX11_seenAt_0 d rc rs a1 a2 a3 σ Q) : Ex d rc rs m_X11_seenAt 0 [vR (some (12, 0)), vI a1, vI a2, vI a3, vU, vU] [] σ Q :=
  xtree_sound (stop := stpX11_seenAt) okX11_seenAt 35 _ _ _ _ _ _ h
def bX11_seenAt_36 (d rc rs : Nat)  (σ : XH) (Q : XV → XH → Prop) : Prop :=
  Ex d rc rs m_X11_seenAt 64 [vU, vU, vU, vU, vU, vU] [vI (-1000000000)] σ Q
theorem sX11_seenAt_36 {d rc rs : Nat}  {σ : XH} {Q : XV → XH → Prop} (h : bX11_seenAt_36 d rc rs  σ Q) : Ex d rc rs m_X11_seenAt 36 [vU, vU, vU, vU, vU, vU] [] σ Q :=
  xtree_sound (stop := stpX11_seenAt) okX11_seenAt 4 _ _ _ _ _ _ h
def bX11_seenAt_64 (d rc rs : Nat) (q0 : Int32) (σ : XH) (Q : XV → XH → Prop) : Prop :=
  Q (vI q0) σ
theorem sX11_seenAt_64 {d rc rs : Nat} {q0 : Int32} {σ : XH} {Q : XV → XH → Prop} (h : bX11_seenAt_64 d rc rs q0 σ Q) : Ex d rc rs m_X11_seenAt 64 [vU, vU, vU, vU, vU, vU] [vI q0] σ Q :=
  xtree_sound (stop := stpX11_seenAt) okX11_seenAt 3 _ _ _ _ _ _ h
/-! SpotTimersModel.isSeenKind(I)Z -/
theorem dX11_isSeenKind_0 : decode cX11_isSeenKind 0 = .ok (.iload_n 1, 1) := by decide +kernel
theorem dX11_isSeenKind_1 : decode cX11_isSeenKind 1 = .ok (.iconst 3, 1) := by decide +kernel
theorem dX11_isSeenKind_2 : decode cX11_isSeenKind 2 = .ok (.if_icmp .eq 13, 3) := by decide +kernel
theorem dX11_isSeenKind_5 : decode cX11_isSeenKind 5 = .ok (.iload_n 1, 1) := by decide +kernel
theorem dX11_isSeenKind_6 : decode cX11_isSeenKind 6 = .ok (.iconst 4, 1) := by decide +kernel
theorem dX11_isSeenKind_7 : decode cX11_isSeenKind 7 = .ok (.if_icmp .eq 8, 3) := by decide +kernel
theorem dX11_isSeenKind_10 : decode cX11_isSeenKind 10 = .ok (.iload_n 1, 1) := by decide +kernel
theorem dX11_isSeenKind_11 : decode cX11_isSeenKind 11 = .ok (.iconst 5, 1) := by decide +kernel
theorem dX11_isSeenKind_12 : decode cX11_isSeenKind 12 = .ok (.if_icmp .ne 7, 3) := by decide +kernel
theorem dX11_isSeenKind_15 : decode cX11_isSeenKind 15 = .ok (.iconst 1, 1) := by decide +kernel
theorem dX11_isSeenKind_16 : decode cX11_isSeenKind 16 = .ok (.goto 4, 3) := by decide +kernel
theorem dX11_isSeenKind_19 : decode cX11_isSeenKind 19 = .ok (.iconst 0, 1) := by decide +kernel
theorem dX11_isSeenKind_20 : decode cX11_isSeenKind 20 = .ok (.ireturn, 1) := by decide +kernel
theorem oX11_isSeenKind_0 : OKI 170 0 (.iload_n 1, 1, [1], 0, 0, []) := And.intro dX11_isSeenKind_0 (And.intro rfl (rfl))
theorem oX11_isSeenKind_1 : OKI 170 1 (.iconst 3, 2, [], 3, 0, []) := And.intro dX11_isSeenKind_1 (And.intro rfl (by decide +kernel))
theorem oX11_isSeenKind_2 : OKI 170 2 (.if_icmp .eq 13, 5, [15], 0, 0, []) := And.intro dX11_isSeenKind_2 (And.intro rfl (by decide))
theorem oX11_isSeenKind_5 : OKI 170 5 (.iload_n 1, 6, [1], 0, 0, []) := And.intro dX11_isSeenKind_5 (And.intro rfl (rfl))
theorem oX11_isSeenKind_6 : OKI 170 6 (.iconst 4, 7, [], 4, 0, []) := And.intro dX11_isSeenKind_6 (And.intro rfl (by decide +kernel))
theorem oX11_isSeenKind_7 : OKI 170 7 (.if_icmp .eq 8, 10, [15], 0, 0, []) := And.intro dX11_isSeenKind_7 (And.intro rfl (by decide))
theorem oX11_isSeenKind_10 : OKI 170 10 (.iload_n 1, 11, [1], 0, 0, []) := And.intro dX11_isSeenKind_10 (And.intro rfl (rfl))
theorem oX11_isSeenKind_11 : OKI 170 11 (.iconst 5, 12, [], 5, 0, []) := And.intro dX11_isSeenKind_11 (And.intro rfl (by decide +kernel))
theorem oX11_isSeenKind_12 : OKI 170 12 (.if_icmp .ne 7, 15, [19], 0, 0, []) := And.intro dX11_isSeenKind_12 (And.intro rfl (by decide))
theorem oX11_isSeenKind_15 : OKI 170 15 (.iconst 1, 16, [], 1, 0, []) := And.intro dX11_isSeenKind_15 (And.intro rfl (by decide +kernel))
theorem oX11_isSeenKind_16 : OKI 170 16 (.goto 4, 19, [20], 0, 0, []) := And.intro dX11_isSeenKind_16 (And.intro rfl (by decide))
theorem oX11_isSeenKind_19 : OKI 170 19 (.iconst 0, 20, [], 0, 0, []) := And.intro dX11_isSeenKind_19 (And.intro rfl (by decide +kernel))
theorem oX11_isSeenKind_20 : OKI 170 20 (.ireturn, 21, [3], 0, 0, []) := And.intro dX11_isSeenKind_20 (Or.inr (Or.inl (And.intro rfl rfl)))
def pfX11_isSeenKind (pc : Nat) : Option XE := (bif Nat.blt pc 10 then (bif Nat.blt pc 5 then (bif Nat.blt pc 1 then (bif Nat.beq pc 0 then some (.iload_n 1, 1, [1], 0, 0, []) else none) else (bif Nat.blt pc 2 then (bif Nat.beq pc 1 then some (.iconst 3, 2, [], 3, 0, []) else none) else (bif Nat.beq pc 2 then some (.if_icmp .eq 13, 5, [15], 0, 0, []) else none))) else (bif Nat.blt pc 6 then (bif Nat.beq pc 5 then some (.iload_n 1, 6, [1], 0, 0, []) else none) else (bif Nat.blt pc 7 then (bif Nat.beq pc 6 then some (.iconst 4, 7, [], 4, 0, []) else none) else (bif Nat.beq pc 7 then some (.if_icmp .eq 8, 10, [15], 0, 0, []) else none)))) else (bif Nat.blt pc 15 then (bif Nat.blt pc 11 then (bif Nat.beq pc 10 then some (.iload_n 1, 11, [1], 0, 0, []) else none) else (bif Nat.blt pc 12 then (bif Nat.beq pc 11 then some (.iconst 5, 12, [], 5, 0, []) else none) else (bif Nat.beq pc 12 then some (.if_icmp .ne 7, 15, [19], 0, 0, []) else none))) else (bif Nat.blt pc 19 then (bif Nat.blt pc 16 then (bif Nat.beq pc 15 then some (.iconst 1, 16, [], 1, 0, []) else none) else (bif Nat.beq pc 16 then some (.goto 4, 19, [20], 0, 0, []) else none)) else (bif Nat.blt pc 20 then (bif Nat.beq pc 19 then some (.iconst 0, 20, [], 0, 0, []) else none) else (bif Nat.beq pc 20 then some (.ireturn, 21, [3], 0, 0, []) else none)))))
theorem okX11_isSeenKind : ∀ pc Y, pfX11_isSeenKind pc = some Y → OKI m_X11_isSeenKind pc Y := fun pc Y => ((bt_node (bt_node (bt_node (bt_leaf (P := OKI m_X11_isSeenKind) oX11_isSeenKind_0) (bt_node (bt_leaf (P := OKI m_X11_isSeenKind) oX11_isSeenKind_1) (bt_leaf (P := OKI m_X11_isSeenKind) oX11_isSeenKind_2))) (bt_node (bt_leaf (P := OKI m_X11_isSeenKind) oX11_isSeenKind_5) (bt_node (bt_leaf (P := OKI m_X11_isSeenKind) oX11_isSeenKind_6) (bt_leaf (P := OKI m_X11_isSeenKind) oX11_isSeenKind_7)))) (bt_node (bt_node (bt_leaf (P := OKI m_X11_isSeenKind) oX11_isSeenKind_10) (bt_node (bt_leaf (P := OKI m_X11_isSeenKind) oX11_isSeenKind_11) (bt_leaf (P := OKI m_X11_isSeenKind) oX11_isSeenKind_12))) (bt_node (bt_node (bt_leaf (P := OKI m_X11_isSeenKind) oX11_isSeenKind_15) (bt_leaf (P := OKI m_X11_isSeenKind) oX11_isSeenKind_16)) (bt_node (bt_leaf (P := OKI m_X11_isSeenKind) oX11_isSeenKind_19) (bt_leaf (P := OKI m_X11_isSeenKind) oX11_isSeenKind_20))))) : pfX11_isSeenKind pc = some Y → OKI m_X11_isSeenKind pc Y)
def stpX11_isSeenKind (pc : Nat) : Option (List Bool) := (bif Nat.blt pc 20 then (bif Nat.beq pc 15 then some [false, false] else none) else (bif Nat.beq pc 20 then some [false, false] else none))
def bX11_isSeenKind_0 (d rc rs : Nat) (a1 : Int32) (σ : XH) (Q : XV → XH → Prop) : Prop :=
  ((a1 = 3 → Ex d rc rs m_X11_isSeenKind 15 [vU, vU] [] σ Q) ∧ (¬ a1 = 3 → ((a1 = 4 → Ex d rc rs m_X11_isSeenKind 15 [vU, vU] [] σ Q) ∧ (¬ a1 = 4 → ((a1 = 5 → Ex d rc rs m_X11_isSeenKind 15 [vU, vU] [] σ Q) ∧ (¬ a1 = 5 → Ex d rc rs m_X11_isSeenKind 20 [vU, vU] [vI 0] σ Q))))))
theorem sX11_isSeenKind_0 {d rc rs : Nat} {a1 : Int32} {σ : XH} {Q : XV → XH → Prop} (h : bX11_isSeenKind_0 d rc rs a1 σ Q) : Ex d rc rs m_X11_isSeenKind 0 [vR (some (12, 0)), vI a1] [] σ Q :=
  xtree_sound (stop := stpX11_isSeenKind) okX11_isSeenKind 12 _ _ _ _ _ _ h
def bX11_isSeenKind_15 (d rc rs : Nat)  (σ : XH) (Q : XV → XH → Prop) : Prop :=
  Ex d rc rs m_X11_isSeenKind 20 [vU, vU] [vI 1] σ Q
theorem sX11_isSeenKind_15 {d rc rs : Nat}  {σ : XH} {Q : XV → XH → Prop} (h : bX11_isSeenKind_15 d rc rs  σ Q) : Ex d rc rs m_X11_isSeenKind 15 [vU, vU] [] σ Q :=
  xtree_sound (stop := stpX11_isSeenKind) okX11_isSeenKind 4 _ _ _ _ _ _ h
def bX11_isSeenKind_20 (d rc rs : Nat) (q0 : Int32) (σ : XH) (Q : XV → XH → Prop) : Prop :=
  ((q0 = 0 ∨ q0 = 1) ∧ Q (vI q0) σ)
theorem sX11_isSeenKind_20 {d rc rs : Nat} {q0 : Int32} {σ : XH} {Q : XV → XH → Prop} (h : bX11_isSeenKind_20 d rc rs q0 σ Q) : Ex d rc rs m_X11_isSeenKind 20 [vU, vU] [vI q0] σ Q :=
  xtree_sound (stop := stpX11_isSeenKind) okX11_isSeenKind 3 _ _ _ _ _ _ h
/-! SpotTimersModel.seenOf(II)I -/
theorem dX11_seenOf_0 : decode cX11_seenOf 0 = .ok (.aload_n 0, 1) := by decide +kernel
theorem dX11_seenOf_1 : decode cX11_seenOf 1 = .ok (.getfield 38, 3) := by decide +kernel
theorem dX11_seenOf_4 : decode cX11_seenOf 4 = .ok (.iload_n 1, 1) := by decide +kernel
theorem dX11_seenOf_5 : decode cX11_seenOf 5 = .ok (.iaload, 1) := by decide +kernel
theorem dX11_seenOf_6 : decode cX11_seenOf 6 = .ok (.bipush 6, 2) := by decide +kernel
theorem dX11_seenOf_8 : decode cX11_seenOf 8 = .ok (.if_icmp .ne 70, 3) := by decide +kernel
theorem dX11_seenOf_11 : decode cX11_seenOf 11 = .ok (.aload_n 0, 1) := by decide +kernel
theorem dX11_seenOf_12 : decode cX11_seenOf 12 = .ok (.getfield 59, 3) := by decide +kernel
theorem dX11_seenOf_15 : decode cX11_seenOf 15 = .ok (.iload_n 1, 1) := by decide +kernel
theorem dX11_seenOf_16 : decode cX11_seenOf 16 = .ok (.iaload, 1) := by decide +kernel
theorem dX11_seenOf_17 : decode cX11_seenOf 17 = .ok (.istore_n 3, 1) := by decide +kernel
theorem dX11_seenOf_18 : decode cX11_seenOf 18 = .ok (.iload_n 2, 1) := by decide +kernel
theorem dX11_seenOf_19 : decode cX11_seenOf 19 = .ok (.ifCond .ne 16, 3) := by decide +kernel
theorem dX11_seenOf_22 : decode cX11_seenOf 22 = .ok (.aload_n 0, 1) := by decide +kernel
theorem dX11_seenOf_23 : decode cX11_seenOf 23 = .ok (.aload_n 0, 1) := by decide +kernel
theorem dX11_seenOf_24 : decode cX11_seenOf 24 = .ok (.getfield 38, 3) := by decide +kernel
theorem dX11_seenOf_27 : decode cX11_seenOf 27 = .ok (.iload_n 3, 1) := by decide +kernel
theorem dX11_seenOf_28 : decode cX11_seenOf 28 = .ok (.iaload, 1) := by decide +kernel
theorem dX11_seenOf_29 : decode cX11_seenOf 29 = .ok (.invokevirtual 285, 3) := by decide +kernel
theorem dX11_seenOf_32 : decode cX11_seenOf 32 = .ok (.ifCond .ne 9, 3) := by decide +kernel
theorem dX11_seenOf_35 : decode cX11_seenOf 35 = .ok (.ldc_w 256, 3) := by decide +kernel
theorem dX11_seenOf_38 : decode cX11_seenOf 38 = .ok (.goto 39, 3) := by decide +kernel
theorem dX11_seenOf_41 : decode cX11_seenOf 41 = .ok (.aload_n 0, 1) := by decide +kernel
theorem dX11_seenOf_42 : decode cX11_seenOf 42 = .ok (.aload_n 0, 1) := by decide +kernel
theorem dX11_seenOf_43 : decode cX11_seenOf 43 = .ok (.getfield 41, 3) := by decide +kernel
theorem dX11_seenOf_46 : decode cX11_seenOf 46 = .ok (.iload_n 3, 1) := by decide +kernel
theorem dX11_seenOf_47 : decode cX11_seenOf 47 = .ok (.iaload, 1) := by decide +kernel
theorem dX11_seenOf_48 : decode cX11_seenOf 48 = .ok (.aload_n 0, 1) := by decide +kernel
theorem dX11_seenOf_49 : decode cX11_seenOf 49 = .ok (.getfield 47, 3) := by decide +kernel
theorem dX11_seenOf_52 : decode cX11_seenOf 52 = .ok (.iload_n 1, 1) := by decide +kernel
theorem dX11_seenOf_53 : decode cX11_seenOf 53 = .ok (.iaload, 1) := by decide +kernel
theorem dX11_seenOf_54 : decode cX11_seenOf 54 = .ok (.aload_n 0, 1) := by decide +kernel
theorem dX11_seenOf_55 : decode cX11_seenOf 55 = .ok (.getfield 38, 3) := by decide +kernel
theorem dX11_seenOf_58 : decode cX11_seenOf 58 = .ok (.iload_n 3, 1) := by decide +kernel
theorem dX11_seenOf_59 : decode cX11_seenOf 59 = .ok (.iaload, 1) := by decide +kernel
theorem dX11_seenOf_60 : decode cX11_seenOf 60 = .ok (.iconst 5, 1) := by decide +kernel
theorem dX11_seenOf_61 : decode cX11_seenOf 61 = .ok (.if_icmp .ne 12, 3) := by decide +kernel
theorem dX11_seenOf_64 : decode cX11_seenOf 64 = .ok (.aload_n 0, 1) := by decide +kernel
theorem dX11_seenOf_65 : decode cX11_seenOf 65 = .ok (.getfield 50, 3) := by decide +kernel
theorem dX11_seenOf_68 : decode cX11_seenOf 68 = .ok (.iload_n 3, 1) := by decide +kernel
theorem dX11_seenOf_69 : decode cX11_seenOf 69 = .ok (.iaload, 1) := by decide +kernel
theorem dX11_seenOf_70 : decode cX11_seenOf 70 = .ok (.goto 4, 3) := by decide +kernel
theorem dX11_seenOf_73 : decode cX11_seenOf 73 = .ok (.iconst 0, 1) := by decide +kernel
theorem dX11_seenOf_74 : decode cX11_seenOf 74 = .ok (.invokevirtual 288, 3) := by decide +kernel
theorem dX11_seenOf_77 : decode cX11_seenOf 77 = .ok (.ireturn, 1) := by decide +kernel
theorem dX11_seenOf_78 : decode cX11_seenOf 78 = .ok (.aload_n 0, 1) := by decide +kernel
theorem dX11_seenOf_79 : decode cX11_seenOf 79 = .ok (.aload_n 0, 1) := by decide +kernel
theorem dX11_seenOf_80 : decode cX11_seenOf 80 = .ok (.getfield 38, 3) := by decide +kernel
theorem dX11_seenOf_83 : decode cX11_seenOf 83 = .ok (.iload_n 1, 1) := by decide +kernel
theorem dX11_seenOf_84 : decode cX11_seenOf 84 = .ok (.iaload, 1) := by decide +kernel
theorem dX11_seenOf_85 : decode cX11_seenOf 85 = .ok (.invokevirtual 285, 3) := by decide +kernel
theorem dX11_seenOf_88 : decode cX11_seenOf 88 = .ok (.ifCond .eq 22, 3) := by decide +kernel
theorem dX11_seenOf_91 : decode cX11_seenOf 91 = .ok (.iload_n 2, 1) := by decide +kernel
theorem dX11_seenOf_92 : decode cX11_seenOf 92 = .ok (.ifCond .eq 22, 3) := by decide +kernel
theorem dX11_seenOf_95 : decode cX11_seenOf 95 = .ok (.iload_n 2, 1) := by decide +kernel
theorem dX11_seenOf_96 : decode cX11_seenOf 96 = .ok (.iconst 1, 1) := by decide +kernel
theorem dX11_seenOf_97 : decode cX11_seenOf 97 = .ok (.if_icmp .ne 13, 3) := by decide +kernel
theorem dX11_seenOf_100 : decode cX11_seenOf 100 = .ok (.aload_n 0, 1) := by decide +kernel
theorem dX11_seenOf_101 : decode cX11_seenOf 101 = .ok (.getfield 38, 3) := by decide +kernel
theorem dX11_seenOf_104 : decode cX11_seenOf 104 = .ok (.iload_n 1, 1) := by decide +kernel
theorem dX11_seenOf_105 : decode cX11_seenOf 105 = .ok (.iaload, 1) := by decide +kernel
theorem dX11_seenOf_106 : decode cX11_seenOf 106 = .ok (.iconst 4, 1) := by decide +kernel
theorem dX11_seenOf_107 : decode cX11_seenOf 107 = .ok (.if_icmp .eq 7, 3) := by decide +kernel
theorem dX11_seenOf_110 : decode cX11_seenOf 110 = .ok (.ldc_w 256, 3) := by decide +kernel
theorem dX11_seenOf_113 : decode cX11_seenOf 113 = .ok (.ireturn, 1) := by decide +kernel
theorem dX11_seenOf_114 : decode cX11_seenOf 114 = .ok (.aload_n 0, 1) := by decide +kernel
theorem dX11_seenOf_115 : decode cX11_seenOf 115 = .ok (.aload_n 0, 1) := by decide +kernel
theorem dX11_seenOf_116 : decode cX11_seenOf 116 = .ok (.getfield 41, 3) := by decide +kernel
theorem dX11_seenOf_119 : decode cX11_seenOf 119 = .ok (.iload_n 1, 1) := by decide +kernel
theorem dX11_seenOf_120 : decode cX11_seenOf 120 = .ok (.iaload, 1) := by decide +kernel
theorem dX11_seenOf_121 : decode cX11_seenOf 121 = .ok (.iload_n 2, 1) := by decide +kernel
theorem dX11_seenOf_122 : decode cX11_seenOf 122 = .ok (.iconst 1, 1) := by decide +kernel
theorem dX11_seenOf_123 : decode cX11_seenOf 123 = .ok (.if_icmp .ne 12, 3) := by decide +kernel
theorem dX11_seenOf_126 : decode cX11_seenOf 126 = .ok (.aload_n 0, 1) := by decide +kernel
theorem dX11_seenOf_127 : decode cX11_seenOf 127 = .ok (.getfield 50, 3) := by decide +kernel
theorem dX11_seenOf_130 : decode cX11_seenOf 130 = .ok (.iload_n 1, 1) := by decide +kernel
theorem dX11_seenOf_131 : decode cX11_seenOf 131 = .ok (.iaload, 1) := by decide +kernel
theorem dX11_seenOf_132 : decode cX11_seenOf 132 = .ok (.goto 9, 3) := by decide +kernel
theorem dX11_seenOf_135 : decode cX11_seenOf 135 = .ok (.aload_n 0, 1) := by decide +kernel
theorem dX11_seenOf_136 : decode cX11_seenOf 136 = .ok (.getfield 47, 3) := by decide +kernel
theorem dX11_seenOf_139 : decode cX11_seenOf 139 = .ok (.iload_n 1, 1) := by decide +kernel
theorem dX11_seenOf_140 : decode cX11_seenOf 140 = .ok (.iaload, 1) := by decide +kernel
theorem dX11_seenOf_141 : decode cX11_seenOf 141 = .ok (.aload_n 0, 1) := by decide +kernel
theorem dX11_seenOf_142 : decode cX11_seenOf 142 = .ok (.getfield 38, 3) := by decide +kernel
theorem dX11_seenOf_145 : decode cX11_seenOf 145 = .ok (.iload_n 1, 1) := by decide +kernel
theorem dX11_seenOf_146 : decode cX11_seenOf 146 = .ok (.iaload, 1) := by decide +kernel
theorem dX11_seenOf_147 : decode cX11_seenOf 147 = .ok (.iconst 5, 1) := by decide +kernel
theorem dX11_seenOf_148 : decode cX11_seenOf 148 = .ok (.if_icmp .ne 12, 3) := by decide +kernel
theorem dX11_seenOf_151 : decode cX11_seenOf 151 = .ok (.aload_n 0, 1) := by decide +kernel
theorem dX11_seenOf_152 : decode cX11_seenOf 152 = .ok (.getfield 50, 3) := by decide +kernel
theorem dX11_seenOf_155 : decode cX11_seenOf 155 = .ok (.iload_n 1, 1) := by decide +kernel
theorem dX11_seenOf_156 : decode cX11_seenOf 156 = .ok (.iaload, 1) := by decide +kernel
theorem dX11_seenOf_157 : decode cX11_seenOf 157 = .ok (.goto 4, 3) := by decide +kernel
theorem dX11_seenOf_160 : decode cX11_seenOf 160 = .ok (.iconst 0, 1) := by decide +kernel
theorem dX11_seenOf_161 : decode cX11_seenOf 161 = .ok (.invokevirtual 288, 3) := by decide +kernel
theorem dX11_seenOf_164 : decode cX11_seenOf 164 = .ok (.ireturn, 1) := by decide +kernel
theorem oX11_seenOf_0 : OKI 171 0 (.aload_n 0, 1, [0], 0, 0, []) := And.intro dX11_seenOf_0 (And.intro rfl (rfl))
theorem oX11_seenOf_1 : OKI 171 1 (.getfield 38, 4, [12, 9, 2, 120, 0], 0, 0, []) := And.intro dX11_seenOf_1 (And.intro rfl (⟨(RX11, TX11, 69), "SpotTimersModel", rfl, by decide, tm_5 _ (List.mem_of_getElem? (i := 215) rfl) rfl, Or.inl rfl, rfl, rfl⟩))
theorem oX11_seenOf_4 : OKI 171 4 (.iload_n 1, 5, [1], 0, 0, []) := And.intro dX11_seenOf_4 (And.intro rfl (rfl))
theorem oX11_seenOf_5 : OKI 171 5 (.iaload, 6, [], 0, 0, []) := And.intro dX11_seenOf_5 rfl
theorem oX11_seenOf_6 : OKI 171 6 (.bipush 6, 8, [], 6, 0, []) := And.intro dX11_seenOf_6 (And.intro rfl (by decide +kernel))
theorem oX11_seenOf_8 : OKI 171 8 (.if_icmp .ne 70, 11, [78], 0, 0, []) := And.intro dX11_seenOf_8 (And.intro rfl (by decide))
theorem oX11_seenOf_11 : OKI 171 11 (.aload_n 0, 12, [0], 0, 0, []) := And.intro dX11_seenOf_11 (And.intro rfl (rfl))
theorem oX11_seenOf_12 : OKI 171 12 (.getfield 59, 15, [12, 16, 2, 127, 0], 0, 0, []) := And.intro dX11_seenOf_12 (And.intro rfl (⟨(RX11, TX11, 69), "SpotTimersModel", rfl, by decide, tm_5 _ (List.mem_of_getElem? (i := 222) rfl) rfl, Or.inl rfl, rfl, rfl⟩))
theorem oX11_seenOf_15 : OKI 171 15 (.iload_n 1, 16, [1], 0, 0, []) := And.intro dX11_seenOf_15 (And.intro rfl (rfl))
theorem oX11_seenOf_16 : OKI 171 16 (.iaload, 17, [], 0, 0, []) := And.intro dX11_seenOf_16 rfl
theorem oX11_seenOf_17 : OKI 171 17 (.istore_n 3, 18, [3], 0, 0, []) := And.intro dX11_seenOf_17 (And.intro rfl (And.intro rfl (by decide)))
theorem oX11_seenOf_18 : OKI 171 18 (.iload_n 2, 19, [2], 0, 0, []) := And.intro dX11_seenOf_18 (And.intro rfl (rfl))
theorem oX11_seenOf_19 : OKI 171 19 (.ifCond .ne 16, 22, [35], 0, 0, []) := And.intro dX11_seenOf_19 (And.intro rfl (by decide))
theorem oX11_seenOf_22 : OKI 171 22 (.aload_n 0, 23, [0], 0, 0, []) := And.intro dX11_seenOf_22 (And.intro rfl (rfl))
theorem oX11_seenOf_23 : OKI 171 23 (.aload_n 0, 24, [0], 0, 0, []) := And.intro dX11_seenOf_23 (And.intro rfl (rfl))
theorem oX11_seenOf_24 : OKI 171 24 (.getfield 38, 27, [12, 9, 2, 120, 0], 0, 0, []) := And.intro dX11_seenOf_24 (And.intro rfl (⟨(RX11, TX11, 69), "SpotTimersModel", rfl, by decide, tm_5 _ (List.mem_of_getElem? (i := 215) rfl) rfl, Or.inl rfl, rfl, rfl⟩))
theorem oX11_seenOf_27 : OKI 171 27 (.iload_n 3, 28, [3], 0, 0, []) := And.intro dX11_seenOf_27 (And.intro rfl (rfl))
theorem oX11_seenOf_28 : OKI 171 28 (.iaload, 29, [], 0, 0, []) := And.intro dX11_seenOf_28 rfl
theorem oX11_seenOf_29 : OKI 171 29 (.invokevirtual 285, 32, [170, 2, 13, 0, 0, 1], 0, 0, []) := And.intro dX11_seenOf_29 (And.intro rfl (And.intro (by decide) (And.intro (by decide) (And.intro mo_X11_isSeenKind (And.intro (tm_7 _ (List.mem_of_getElem? (i := 58) rfl) rfl) (And.intro (tm_7 _ (List.mem_of_getElem? (i := 60) rfl) rfl) (And.intro (pm_4 _ (List.mem_of_getElem? (i := 9) rfl)) (Or.inl ⟨(RX11, TX11, 69), rfl, rfl⟩))))))))
theorem oX11_seenOf_32 : OKI 171 32 (.ifCond .ne 9, 35, [41], 0, 0, []) := And.intro dX11_seenOf_32 (And.intro rfl (by decide))
theorem oX11_seenOf_35 : OKI 171 35 (.ldc_w 256, 38, [], (-1000000000), 0, []) := And.intro dX11_seenOf_35 (And.intro rfl (tm_7 _ (List.mem_of_getElem? (i := 11) rfl) rfl))
theorem oX11_seenOf_38 : OKI 171 38 (.goto 39, 41, [77], 0, 0, []) := And.intro dX11_seenOf_38 (And.intro rfl (by decide))
theorem oX11_seenOf_41 : OKI 171 41 (.aload_n 0, 42, [0], 0, 0, []) := And.intro dX11_seenOf_41 (And.intro rfl (rfl))
theorem oX11_seenOf_42 : OKI 171 42 (.aload_n 0, 43, [0], 0, 0, []) := And.intro dX11_seenOf_42 (And.intro rfl (rfl))
theorem oX11_seenOf_43 : OKI 171 43 (.getfield 41, 46, [12, 10, 2, 121, 0], 0, 0, []) := And.intro dX11_seenOf_43 (And.intro rfl (⟨(RX11, TX11, 69), "SpotTimersModel", rfl, by decide, tm_5 _ (List.mem_of_getElem? (i := 216) rfl) rfl, Or.inl rfl, rfl, rfl⟩))
theorem oX11_seenOf_46 : OKI 171 46 (.iload_n 3, 47, [3], 0, 0, []) := And.intro dX11_seenOf_46 (And.intro rfl (rfl))
theorem oX11_seenOf_47 : OKI 171 47 (.iaload, 48, [], 0, 0, []) := And.intro dX11_seenOf_47 rfl
theorem oX11_seenOf_48 : OKI 171 48 (.aload_n 0, 49, [0], 0, 0, []) := And.intro dX11_seenOf_48 (And.intro rfl (rfl))
theorem oX11_seenOf_49 : OKI 171 49 (.getfield 47, 52, [12, 12, 2, 123, 0], 0, 0, []) := And.intro dX11_seenOf_49 (And.intro rfl (⟨(RX11, TX11, 69), "SpotTimersModel", rfl, by decide, tm_5 _ (List.mem_of_getElem? (i := 218) rfl) rfl, Or.inl rfl, rfl, rfl⟩))
theorem oX11_seenOf_52 : OKI 171 52 (.iload_n 1, 53, [1], 0, 0, []) := And.intro dX11_seenOf_52 (And.intro rfl (rfl))
theorem oX11_seenOf_53 : OKI 171 53 (.iaload, 54, [], 0, 0, []) := And.intro dX11_seenOf_53 rfl
theorem oX11_seenOf_54 : OKI 171 54 (.aload_n 0, 55, [0], 0, 0, []) := And.intro dX11_seenOf_54 (And.intro rfl (rfl))
theorem oX11_seenOf_55 : OKI 171 55 (.getfield 38, 58, [12, 9, 2, 120, 0], 0, 0, []) := And.intro dX11_seenOf_55 (And.intro rfl (⟨(RX11, TX11, 69), "SpotTimersModel", rfl, by decide, tm_5 _ (List.mem_of_getElem? (i := 215) rfl) rfl, Or.inl rfl, rfl, rfl⟩))
theorem oX11_seenOf_58 : OKI 171 58 (.iload_n 3, 59, [3], 0, 0, []) := And.intro dX11_seenOf_58 (And.intro rfl (rfl))
theorem oX11_seenOf_59 : OKI 171 59 (.iaload, 60, [], 0, 0, []) := And.intro dX11_seenOf_59 rfl
theorem oX11_seenOf_60 : OKI 171 60 (.iconst 5, 61, [], 5, 0, []) := And.intro dX11_seenOf_60 (And.intro rfl (by decide +kernel))
theorem oX11_seenOf_61 : OKI 171 61 (.if_icmp .ne 12, 64, [73], 0, 0, []) := And.intro dX11_seenOf_61 (And.intro rfl (by decide))
theorem oX11_seenOf_64 : OKI 171 64 (.aload_n 0, 65, [0], 0, 0, []) := And.intro dX11_seenOf_64 (And.intro rfl (rfl))
theorem oX11_seenOf_65 : OKI 171 65 (.getfield 50, 68, [12, 13, 2, 124, 0], 0, 0, []) := And.intro dX11_seenOf_65 (And.intro rfl (⟨(RX11, TX11, 69), "SpotTimersModel", rfl, by decide, tm_5 _ (List.mem_of_getElem? (i := 219) rfl) rfl, Or.inl rfl, rfl, rfl⟩))
theorem oX11_seenOf_68 : OKI 171 68 (.iload_n 3, 69, [3], 0, 0, []) := And.intro dX11_seenOf_68 (And.intro rfl (rfl))
theorem oX11_seenOf_69 : OKI 171 69 (.iaload, 70, [], 0, 0, []) := And.intro dX11_seenOf_69 rfl
theorem oX11_seenOf_70 : OKI 171 70 (.goto 4, 73, [74], 0, 0, []) := And.intro dX11_seenOf_70 (And.intro rfl (by decide))
theorem oX11_seenOf_73 : OKI 171 73 (.iconst 0, 74, [], 0, 0, []) := And.intro dX11_seenOf_73 (And.intro rfl (by decide +kernel))
theorem oX11_seenOf_74 : OKI 171 74 (.invokevirtual 288, 77, [169, 4, 13, 0, 0, 1], 0, 0, []) := And.intro dX11_seenOf_74 (And.intro rfl (And.intro (by decide) (And.intro (by decide) (And.intro mo_X11_seenAt (And.intro (tm_7 _ (List.mem_of_getElem? (i := 62) rfl) rfl) (And.intro (tm_7 _ (List.mem_of_getElem? (i := 64) rfl) rfl) (And.intro (pm_4 _ (List.mem_of_getElem? (i := 10) rfl)) (Or.inl ⟨(RX11, TX11, 69), rfl, rfl⟩))))))))
theorem oX11_seenOf_77 : OKI 171 77 (.ireturn, 78, [0], 0, 0, []) := And.intro dX11_seenOf_77 (Or.inl (And.intro rfl rfl))
theorem oX11_seenOf_78 : OKI 171 78 (.aload_n 0, 79, [0], 0, 0, []) := And.intro dX11_seenOf_78 (And.intro rfl (rfl))
theorem oX11_seenOf_79 : OKI 171 79 (.aload_n 0, 80, [0], 0, 0, []) := And.intro dX11_seenOf_79 (And.intro rfl (rfl))
theorem oX11_seenOf_80 : OKI 171 80 (.getfield 38, 83, [12, 9, 2, 120, 0], 0, 0, []) := And.intro dX11_seenOf_80 (And.intro rfl (⟨(RX11, TX11, 69), "SpotTimersModel", rfl, by decide, tm_5 _ (List.mem_of_getElem? (i := 215) rfl) rfl, Or.inl rfl, rfl, rfl⟩))
theorem oX11_seenOf_83 : OKI 171 83 (.iload_n 1, 84, [1], 0, 0, []) := And.intro dX11_seenOf_83 (And.intro rfl (rfl))
theorem oX11_seenOf_84 : OKI 171 84 (.iaload, 85, [], 0, 0, []) := And.intro dX11_seenOf_84 rfl
theorem oX11_seenOf_85 : OKI 171 85 (.invokevirtual 285, 88, [170, 2, 13, 0, 0, 1], 0, 0, []) := And.intro dX11_seenOf_85 (And.intro rfl (And.intro (by decide) (And.intro (by decide) (And.intro mo_X11_isSeenKind (And.intro (tm_7 _ (List.mem_of_getElem? (i := 58) rfl) rfl) (And.intro (tm_7 _ (List.mem_of_getElem? (i := 60) rfl) rfl) (And.intro (pm_4 _ (List.mem_of_getElem? (i := 9) rfl)) (Or.inl ⟨(RX11, TX11, 69), rfl, rfl⟩))))))))
theorem oX11_seenOf_88 : OKI 171 88 (.ifCond .eq 22, 91, [110], 0, 0, []) := And.intro dX11_seenOf_88 (And.intro rfl (by decide))
theorem oX11_seenOf_91 : OKI 171 91 (.iload_n 2, 92, [2], 0, 0, []) := And.intro dX11_seenOf_91 (And.intro rfl (rfl))
theorem oX11_seenOf_92 : OKI 171 92 (.ifCond .eq 22, 95, [114], 0, 0, []) := And.intro dX11_seenOf_92 (And.intro rfl (by decide))
theorem oX11_seenOf_95 : OKI 171 95 (.iload_n 2, 96, [2], 0, 0, []) := And.intro dX11_seenOf_95 (And.intro rfl (rfl))
theorem oX11_seenOf_96 : OKI 171 96 (.iconst 1, 97, [], 1, 0, []) := And.intro dX11_seenOf_96 (And.intro rfl (by decide +kernel))
theorem oX11_seenOf_97 : OKI 171 97 (.if_icmp .ne 13, 100, [110], 0, 0, []) := And.intro dX11_seenOf_97 (And.intro rfl (by decide))
theorem oX11_seenOf_100 : OKI 171 100 (.aload_n 0, 101, [0], 0, 0, []) := And.intro dX11_seenOf_100 (And.intro rfl (rfl))
theorem oX11_seenOf_101 : OKI 171 101 (.getfield 38, 104, [12, 9, 2, 120, 0], 0, 0, []) := And.intro dX11_seenOf_101 (And.intro rfl (⟨(RX11, TX11, 69), "SpotTimersModel", rfl, by decide, tm_5 _ (List.mem_of_getElem? (i := 215) rfl) rfl, Or.inl rfl, rfl, rfl⟩))
theorem oX11_seenOf_104 : OKI 171 104 (.iload_n 1, 105, [1], 0, 0, []) := And.intro dX11_seenOf_104 (And.intro rfl (rfl))
theorem oX11_seenOf_105 : OKI 171 105 (.iaload, 106, [], 0, 0, []) := And.intro dX11_seenOf_105 rfl
theorem oX11_seenOf_106 : OKI 171 106 (.iconst 4, 107, [], 4, 0, []) := And.intro dX11_seenOf_106 (And.intro rfl (by decide +kernel))
theorem oX11_seenOf_107 : OKI 171 107 (.if_icmp .eq 7, 110, [114], 0, 0, []) := And.intro dX11_seenOf_107 (And.intro rfl (by decide))
theorem oX11_seenOf_110 : OKI 171 110 (.ldc_w 256, 113, [], (-1000000000), 0, []) := And.intro dX11_seenOf_110 (And.intro rfl (tm_7 _ (List.mem_of_getElem? (i := 11) rfl) rfl))
theorem oX11_seenOf_113 : OKI 171 113 (.ireturn, 114, [0], 0, 0, []) := And.intro dX11_seenOf_113 (Or.inl (And.intro rfl rfl))
theorem oX11_seenOf_114 : OKI 171 114 (.aload_n 0, 115, [0], 0, 0, []) := And.intro dX11_seenOf_114 (And.intro rfl (rfl))
theorem oX11_seenOf_115 : OKI 171 115 (.aload_n 0, 116, [0], 0, 0, []) := And.intro dX11_seenOf_115 (And.intro rfl (rfl))
theorem oX11_seenOf_116 : OKI 171 116 (.getfield 41, 119, [12, 10, 2, 121, 0], 0, 0, []) := And.intro dX11_seenOf_116 (And.intro rfl (⟨(RX11, TX11, 69), "SpotTimersModel", rfl, by decide, tm_5 _ (List.mem_of_getElem? (i := 216) rfl) rfl, Or.inl rfl, rfl, rfl⟩))
theorem oX11_seenOf_119 : OKI 171 119 (.iload_n 1, 120, [1], 0, 0, []) := And.intro dX11_seenOf_119 (And.intro rfl (rfl))
theorem oX11_seenOf_120 : OKI 171 120 (.iaload, 121, [], 0, 0, []) := And.intro dX11_seenOf_120 rfl
theorem oX11_seenOf_121 : OKI 171 121 (.iload_n 2, 122, [2], 0, 0, []) := And.intro dX11_seenOf_121 (And.intro rfl (rfl))
theorem oX11_seenOf_122 : OKI 171 122 (.iconst 1, 123, [], 1, 0, []) := And.intro dX11_seenOf_122 (And.intro rfl (by decide +kernel))
theorem oX11_seenOf_123 : OKI 171 123 (.if_icmp .ne 12, 126, [135], 0, 0, []) := And.intro dX11_seenOf_123 (And.intro rfl (by decide))
theorem oX11_seenOf_126 : OKI 171 126 (.aload_n 0, 127, [0], 0, 0, []) := And.intro dX11_seenOf_126 (And.intro rfl (rfl))
theorem oX11_seenOf_127 : OKI 171 127 (.getfield 50, 130, [12, 13, 2, 124, 0], 0, 0, []) := And.intro dX11_seenOf_127 (And.intro rfl (⟨(RX11, TX11, 69), "SpotTimersModel", rfl, by decide, tm_5 _ (List.mem_of_getElem? (i := 219) rfl) rfl, Or.inl rfl, rfl, rfl⟩))
theorem oX11_seenOf_130 : OKI 171 130 (.iload_n 1, 131, [1], 0, 0, []) := And.intro dX11_seenOf_130 (And.intro rfl (rfl))
theorem oX11_seenOf_131 : OKI 171 131 (.iaload, 132, [], 0, 0, []) := And.intro dX11_seenOf_131 rfl
theorem oX11_seenOf_132 : OKI 171 132 (.goto 9, 135, [141], 0, 0, []) := And.intro dX11_seenOf_132 (And.intro rfl (by decide))
theorem oX11_seenOf_135 : OKI 171 135 (.aload_n 0, 136, [0], 0, 0, []) := And.intro dX11_seenOf_135 (And.intro rfl (rfl))
theorem oX11_seenOf_136 : OKI 171 136 (.getfield 47, 139, [12, 12, 2, 123, 0], 0, 0, []) := And.intro dX11_seenOf_136 (And.intro rfl (⟨(RX11, TX11, 69), "SpotTimersModel", rfl, by decide, tm_5 _ (List.mem_of_getElem? (i := 218) rfl) rfl, Or.inl rfl, rfl, rfl⟩))
theorem oX11_seenOf_139 : OKI 171 139 (.iload_n 1, 140, [1], 0, 0, []) := And.intro dX11_seenOf_139 (And.intro rfl (rfl))
theorem oX11_seenOf_140 : OKI 171 140 (.iaload, 141, [], 0, 0, []) := And.intro dX11_seenOf_140 rfl
theorem oX11_seenOf_141 : OKI 171 141 (.aload_n 0, 142, [0], 0, 0, []) := And.intro dX11_seenOf_141 (And.intro rfl (rfl))
theorem oX11_seenOf_142 : OKI 171 142 (.getfield 38, 145, [12, 9, 2, 120, 0], 0, 0, []) := And.intro dX11_seenOf_142 (And.intro rfl (⟨(RX11, TX11, 69), "SpotTimersModel", rfl, by decide, tm_5 _ (List.mem_of_getElem? (i := 215) rfl) rfl, Or.inl rfl, rfl, rfl⟩))
theorem oX11_seenOf_145 : OKI 171 145 (.iload_n 1, 146, [1], 0, 0, []) := And.intro dX11_seenOf_145 (And.intro rfl (rfl))
theorem oX11_seenOf_146 : OKI 171 146 (.iaload, 147, [], 0, 0, []) := And.intro dX11_seenOf_146 rfl
theorem oX11_seenOf_147 : OKI 171 147 (.iconst 5, 148, [], 5, 0, []) := And.intro dX11_seenOf_147 (And.intro rfl (by decide +kernel))
theorem oX11_seenOf_148 : OKI 171 148 (.if_icmp .ne 12, 151, [160], 0, 0, []) := And.intro dX11_seenOf_148 (And.intro rfl (by decide))
theorem oX11_seenOf_151 : OKI 171 151 (.aload_n 0, 152, [0], 0, 0, []) := And.intro dX11_seenOf_151 (And.intro rfl (rfl))
theorem oX11_seenOf_152 : OKI 171 152 (.getfield 50, 155, [12, 13, 2, 124, 0], 0, 0, []) := And.intro dX11_seenOf_152 (And.intro rfl (⟨(RX11, TX11, 69), "SpotTimersModel", rfl, by decide, tm_5 _ (List.mem_of_getElem? (i := 219) rfl) rfl, Or.inl rfl, rfl, rfl⟩))
theorem oX11_seenOf_155 : OKI 171 155 (.iload_n 1, 156, [1], 0, 0, []) := And.intro dX11_seenOf_155 (And.intro rfl (rfl))
theorem oX11_seenOf_156 : OKI 171 156 (.iaload, 157, [], 0, 0, []) := And.intro dX11_seenOf_156 rfl
theorem oX11_seenOf_157 : OKI 171 157 (.goto 4, 160, [161], 0, 0, []) := And.intro dX11_seenOf_157 (And.intro rfl (by decide))
theorem oX11_seenOf_160 : OKI 171 160 (.iconst 0, 161, [], 0, 0, []) := And.intro dX11_seenOf_160 (And.intro rfl (by decide +kernel))
theorem oX11_seenOf_161 : OKI 171 161 (.invokevirtual 288, 164, [169, 4, 13, 0, 0, 1], 0, 0, []) := And.intro dX11_seenOf_161 (And.intro rfl (And.intro (by decide) (And.intro (by decide) (And.intro mo_X11_seenAt (And.intro (tm_7 _ (List.mem_of_getElem? (i := 62) rfl) rfl) (And.intro (tm_7 _ (List.mem_of_getElem? (i := 64) rfl) rfl) (And.intro (pm_4 _ (List.mem_of_getElem? (i := 10) rfl)) (Or.inl ⟨(RX11, TX11, 69), rfl, rfl⟩))))))))
theorem oX11_seenOf_164 : OKI 171 164 (.ireturn, 165, [0], 0, 0, []) := And.intro dX11_seenOf_164 (Or.inl (And.intro rfl rfl))
def pfX11_seenOf (pc : Nat) : Option XE := (bif Nat.blt pc 83 then (bif Nat.blt pc 43 then (bif Nat.blt pc 19 then (bif Nat.blt pc 11 then (bif Nat.blt pc 5 then (bif Nat.blt pc 1 then (bif Nat.beq pc 0 then some (.aload_n 0, 1, [0], 0, 0, []) else none) else (bif Nat.blt pc 4 then (bif Nat.beq pc 1 then some (.getfield 38, 4, [12, 9, 2, 120, 0], 0, 0, []) else none) else (bif Nat.beq pc 4 then some (.iload_n 1, 5, [1], 0, 0, []) else none))) else (bif Nat.blt pc 6 then (bif Nat.beq pc 5 then some (.iaload, 6, [], 0, 0, []) else none) else (bif Nat.blt pc 8 then (bif Nat.beq pc 6 then some (.bipush 6, 8, [], 6, 0, []) else none) else (bif Nat.beq pc 8 then some (.if_icmp .ne 70, 11, [78], 0, 0, []) else none)))) else (bif Nat.blt pc 16 then (bif Nat.blt pc 12 then (bif Nat.beq pc 11 then some (.aload_n 0, 12, [0], 0, 0, []) else none) else (bif Nat.blt pc 15 then (bif Nat.beq pc 12 then some (.getfield 59, 15, [12, 16, 2, 127, 0], 0, 0, []) else none) else (bif Nat.beq pc 15 then some (.iload_n 1, 16, [1], 0, 0, []) else none))) else (bif Nat.blt pc 17 then (bif Nat.beq pc 16 then some (.iaload, 17, [], 0, 0, []) else none) else (bif Nat.blt pc 18 then (bif Nat.beq pc 17 then some (.istore_n 3, 18, [3], 0, 0, []) else none) else (bif Nat.beq pc 18 then some (.iload_n 2, 19, [2], 0, 0, []) else none))))) else (bif Nat.blt pc 29 then (bif Nat.blt pc 24 then (bif Nat.blt pc 22 then (bif Nat.beq pc 19 then some (.ifCond .ne 16, 22, [35], 0, 0, []) else none) else (bif Nat.blt pc 23 then (bif Nat.beq pc 22 then some (.aload_n 0, 23, [0], 0, 0, []) else none) else (bif Nat.beq pc 23 then some (.aload_n 0, 24, [0], 0, 0, []) else none))) else (bif Nat.blt pc 27 then (bif Nat.beq pc 24 then some (.getfield 38, 27, [12, 9, 2, 120, 0], 0, 0, []) else none) else (bif Nat.blt pc 28 then (bif Nat.beq pc 27 then some (.iload_n 3, 28, [3], 0, 0, []) else none) else (bif Nat.beq pc 28 then some (.iaload, 29, [], 0, 0, []) else none)))) else (bif Nat.blt pc 38 then (bif Nat.blt pc 32 then (bif Nat.beq pc 29 then some (.invokevirtual 285, 32, [170, 2, 13, 0, 0, 1], 0, 0, []) else none) else (bif Nat.blt pc 35 then (bif Nat.beq pc 32 then some (.ifCond .ne 9, 35, [41], 0, 0, []) else none) else (bif Nat.beq pc 35 then some (.ldc_w 256, 38, [], (-1000000000), 0, []) else none))) else (bif Nat.blt pc 41 then (bif Nat.beq pc 38 then some (.goto 39, 41, [77], 0, 0, []) else none) else (bif Nat.blt pc 42 then (bif Nat.beq pc 41 then some (.aload_n 0, 42, [0], 0, 0, []) else none) else (bif Nat.beq pc 42 then some (.aload_n 0, 43, [0], 0, 0, []) else none)))))) else (bif Nat.blt pc 61 then (bif Nat.blt pc 53 then (bif Nat.blt pc 48 then (bif Nat.blt pc 46 then (bif Nat.beq pc 43 then some (.getfield 41, 46, [12, 10, 2, 121, 0], 0, 0, []) else none) else (bif Nat.blt pc 47 then (bif Nat.beq pc 46 then some (.iload_n 3, 47, [3], 0, 0, []) else none) else (bif Nat.beq pc 47 then some (.iaload, 48, [], 0, 0, []) else none))) else (bif Nat.blt pc 49 then (bif Nat.beq pc 48 then some (.aload_n 0, 49, [0], 0, 0, []) else none) else (bif Nat.blt pc 52 then (bif Nat.beq pc 49 then some (.getfield 47, 52, [12, 12, 2, 123, 0], 0, 0, []) else none) else (bif Nat.beq pc 52 then some (.iload_n 1, 53, [1], 0, 0, []) else none)))) else (bif Nat.blt pc 58 then (bif Nat.blt pc 54 then (bif Nat.beq pc 53 then some (.iaload, 54, [], 0, 0, []) else none) else (bif Nat.blt pc 55 then (bif Nat.beq pc 54 then some (.aload_n 0, 55, [0], 0, 0, []) else none) else (bif Nat.beq pc 55 then some (.getfield 38, 58, [12, 9, 2, 120, 0], 0, 0, []) else none))) else (bif Nat.blt pc 59 then (bif Nat.beq pc 58 then some (.iload_n 3, 59, [3], 0, 0, []) else none) else (bif Nat.blt pc 60 then (bif Nat.beq pc 59 then some (.iaload, 60, [], 0, 0, []) else none) else (bif Nat.beq pc 60 then some (.iconst 5, 61, [], 5, 0, []) else none))))) else (bif Nat.blt pc 73 then (bif Nat.blt pc 68 then (bif Nat.blt pc 64 then (bif Nat.beq pc 61 then some (.if_icmp .ne 12, 64, [73], 0, 0, []) else none) else (bif Nat.blt pc 65 then (bif Nat.beq pc 64 then some (.aload_n 0, 65, [0], 0, 0, []) else none) else (bif Nat.beq pc 65 then some (.getfield 50, 68, [12, 13, 2, 124, 0], 0, 0, []) else none))) else (bif Nat.blt pc 69 then (bif Nat.beq pc 68 then some (.iload_n 3, 69, [3], 0, 0, []) else none) else (bif Nat.blt pc 70 then (bif Nat.beq pc 69 then some (.iaload, 70, [], 0, 0, []) else none) else (bif Nat.beq pc 70 then some (.goto 4, 73, [74], 0, 0, []) else none)))) else (bif Nat.blt pc 78 then (bif Nat.blt pc 74 then (bif Nat.beq pc 73 then some (.iconst 0, 74, [], 0, 0, []) else none) else (bif Nat.blt pc 77 then (bif Nat.beq pc 74 then some (.invokevirtual 288, 77, [169, 4, 13, 0, 0, 1], 0, 0, []) else none) else (bif Nat.beq pc 77 then some (.ireturn, 78, [0], 0, 0, []) else none))) else (bif Nat.blt pc 79 then (bif Nat.beq pc 78 then some (.aload_n 0, 79, [0], 0, 0, []) else none) else (bif Nat.blt pc 80 then (bif Nat.beq pc 79 then some (.aload_n 0, 80, [0], 0, 0, []) else none) else (bif Nat.beq pc 80 then some (.getfield 38, 83, [12, 9, 2, 120, 0], 0, 0, []) else none))))))) else (bif Nat.blt pc 123 then (bif Nat.blt pc 105 then (bif Nat.blt pc 95 then (bif Nat.blt pc 88 then (bif Nat.blt pc 84 then (bif Nat.beq pc 83 then some (.iload_n 1, 84, [1], 0, 0, []) else none) else (bif Nat.blt pc 85 then (bif Nat.beq pc 84 then some (.iaload, 85, [], 0, 0, []) else none) else (bif Nat.beq pc 85 then some (.invokevirtual 285, 88, [170, 2, 13, 0, 0, 1], 0, 0, []) else none))) else (bif Nat.blt pc 91 then (bif Nat.beq pc 88 then some (.ifCond .eq 22, 91, [110], 0, 0, []) else none) else (bif Nat.blt pc 92 then (bif Nat.beq pc 91 then some (.iload_n 2, 92, [2], 0, 0, []) else none) else (bif Nat.beq pc 92 then some (.ifCond .eq 22, 95, [114], 0, 0, []) else none)))) else (bif Nat.blt pc 100 then (bif Nat.blt pc 96 then (bif Nat.beq pc 95 then some (.iload_n 2, 96, [2], 0, 0, []) else none) else (bif Nat.blt pc 97 then (bif Nat.beq pc 96 then some (.iconst 1, 97, [], 1, 0, []) else none) else (bif Nat.beq pc 97 then some (.if_icmp .ne 13, 100, [110], 0, 0, []) else none))) else (bif Nat.blt pc 101 then (bif Nat.beq pc 100 then some (.aload_n 0, 101, [0], 0, 0, []) else none) else (bif Nat.blt pc 104 then (bif Nat.beq pc 101 then some (.getfield 38, 104, [12, 9, 2, 120, 0], 0, 0, []) else none) else (bif Nat.beq pc 104 then some (.iload_n 1, 105, [1], 0, 0, []) else none))))) else (bif Nat.blt pc 115 then (bif Nat.blt pc 110 then (bif Nat.blt pc 106 then (bif Nat.beq pc 105 then some (.iaload, 106, [], 0, 0, []) else none) else (bif Nat.blt pc 107 then (bif Nat.beq pc 106 then some (.iconst 4, 107, [], 4, 0, []) else none) else (bif Nat.beq pc 107 then some (.if_icmp .eq 7, 110, [114], 0, 0, []) else none))) else (bif Nat.blt pc 113 then (bif Nat.beq pc 110 then some (.ldc_w 256, 113, [], (-1000000000), 0, []) else none) else (bif Nat.blt pc 114 then (bif Nat.beq pc 113 then some (.ireturn, 114, [0], 0, 0, []) else none) else (bif Nat.beq pc 114 then some (.aload_n 0, 115, [0], 0, 0, []) else none)))) else (bif Nat.blt pc 120 then (bif Nat.blt pc 116 then (bif Nat.beq pc 115 then some (.aload_n 0, 116, [0], 0, 0, []) else none) else (bif Nat.blt pc 119 then (bif Nat.beq pc 116 then some (.getfield 41, 119, [12, 10, 2, 121, 0], 0, 0, []) else none) else (bif Nat.beq pc 119 then some (.iload_n 1, 120, [1], 0, 0, []) else none))) else (bif Nat.blt pc 121 then (bif Nat.beq pc 120 then some (.iaload, 121, [], 0, 0, []) else none) else (bif Nat.blt pc 122 then (bif Nat.beq pc 121 then some (.iload_n 2, 122, [2], 0, 0, []) else none) else (bif Nat.beq pc 122 then some (.iconst 1, 123, [], 1, 0, []) else none)))))) else (bif Nat.blt pc 145 then (bif Nat.blt pc 135 then (bif Nat.blt pc 130 then (bif Nat.blt pc 126 then (bif Nat.beq pc 123 then some (.if_icmp .ne 12, 126, [135], 0, 0, []) else none) else (bif Nat.blt pc 127 then (bif Nat.beq pc 126 then some (.aload_n 0, 127, [0], 0, 0, []) else none) else (bif Nat.beq pc 127 then some (.getfield 50, 130, [12, 13, 2, 124, 0], 0, 0, []) else none))) else (bif Nat.blt pc 131 then (bif Nat.beq pc 130 then some (.iload_n 1, 131, [1], 0, 0, []) else none) else (bif Nat.blt pc 132 then (bif Nat.beq pc 131 then some (.iaload, 132, [], 0, 0, []) else none) else (bif Nat.beq pc 132 then some (.goto 9, 135, [141], 0, 0, []) else none)))) else (bif Nat.blt pc 140 then (bif Nat.blt pc 136 then (bif Nat.beq pc 135 then some (.aload_n 0, 136, [0], 0, 0, []) else none) else (bif Nat.blt pc 139 then (bif Nat.beq pc 136 then some (.getfield 47, 139, [12, 12, 2, 123, 0], 0, 0, []) else none) else (bif Nat.beq pc 139 then some (.iload_n 1, 140, [1], 0, 0, []) else none))) else (bif Nat.blt pc 141 then (bif Nat.beq pc 140 then some (.iaload, 141, [], 0, 0, []) else none) else (bif Nat.blt pc 142 then (bif Nat.beq pc 141 then some (.aload_n 0, 142, [0], 0, 0, []) else none) else (bif Nat.beq pc 142 then some (.getfield 38, 145, [12, 9, 2, 120, 0], 0, 0, []) else none))))) else (bif Nat.blt pc 155 then (bif Nat.blt pc 148 then (bif Nat.blt pc 146 then (bif Nat.beq pc 145 then some (.iload_n 1, 146, [1], 0, 0, []) else none) else (bif Nat.blt pc 147 then (bif Nat.beq pc 146 then some (.iaload, 147, [], 0, 0, []) else none) else (bif Nat.beq pc 147 then some (.iconst 5, 148, [], 5, 0, []) else none))) else (bif Nat.blt pc 151 then (bif Nat.beq pc 148 then some (.if_icmp .ne 12, 151, [160], 0, 0, []) else none) else (bif Nat.blt pc 152 then (bif Nat.beq pc 151 then some (.aload_n 0, 152, [0], 0, 0, []) else none) else (bif Nat.beq pc 152 then some (.getfield 50, 155, [12, 13, 2, 124, 0], 0, 0, []) else none)))) else (bif Nat.blt pc 160 then (bif Nat.blt pc 156 then (bif Nat.beq pc 155 then some (.iload_n 1, 156, [1], 0, 0, []) else none) else (bif Nat.blt pc 157 then (bif Nat.beq pc 156 then some (.iaload, 157, [], 0, 0, []) else none) else (bif Nat.beq pc 157 then some (.goto 4, 160, [161], 0, 0, []) else none))) else (bif Nat.blt pc 161 then (bif Nat.beq pc 160 then some (.iconst 0, 161, [], 0, 0, []) else none) else (bif Nat.blt pc 164 then (bif Nat.beq pc 161 then some (.invokevirtual 288, 164, [169, 4, 13, 0, 0, 1], 0, 0, []) else none) else (bif Nat.beq pc 164 then some (.ireturn, 165, [0], 0, 0, []) else none))))))))
theorem okX11_seenOf : ∀ pc Y, pfX11_seenOf pc = some Y → OKI m_X11_seenOf pc Y := fun pc Y => ((bt_node (bt_node (bt_node (bt_node (bt_node (bt_node (bt_leaf (P := OKI m_X11_seenOf) oX11_seenOf_0) (bt_node (bt_leaf (P := OKI m_X11_seenOf) oX11_seenOf_1) (bt_leaf (P := OKI m_X11_seenOf) oX11_seenOf_4))) (bt_node (bt_leaf (P := OKI m_X11_seenOf) oX11_seenOf_5) (bt_node (bt_leaf (P := OKI m_X11_seenOf) oX11_seenOf_6) (bt_leaf (P := OKI m_X11_seenOf) oX11_seenOf_8)))) (bt_node (bt_node (bt_leaf (P := OKI m_X11_seenOf) oX11_seenOf_11) (bt_node (bt_leaf (P := OKI m_X11_seenOf) oX11_seenOf_12) (bt_leaf (P := OKI m_X11_seenOf) oX11_seenOf_15))) (bt_node (bt_leaf (P := OKI m_X11_seenOf) oX11_seenOf_16) (bt_node (bt_leaf (P := OKI m_X11_seenOf) oX11_seenOf_17) (bt_leaf (P := OKI m_X11_seenOf) oX11_seenOf_18))))) (bt_node (bt_node (bt_node (bt_leaf (P := OKI m_X11_seenOf) oX11_seenOf_19) (bt_node (bt_leaf (P := OKI m_X11_seenOf) oX11_seenOf_22) (bt_leaf (P := OKI m_X11_seenOf) oX11_seenOf_23))) (bt_node (bt_leaf (P := OKI m_X11_seenOf) oX11_seenOf_24) (bt_node (bt_leaf (P := OKI m_X11_seenOf) oX11_seenOf_27) (bt_leaf (P := OKI m_X11_seenOf) oX11_seenOf_28)))) (bt_node (bt_node (bt_leaf (P := OKI m_X11_seenOf) oX11_seenOf_29) (bt_node (bt_leaf (P := OKI m_X11_seenOf) oX11_seenOf_32) (bt_leaf (P := OKI m_X11_seenOf) oX11_seenOf_35))) (bt_node (bt_leaf (P := OKI m_X11_seenOf) oX11_seenOf_38) (bt_node (bt_leaf (P := OKI m_X11_seenOf) oX11_seenOf_41) (bt_leaf (P := OKI m_X11_seenOf) oX11_seenOf_42)))))) (bt_node (bt_node (bt_node (bt_node (bt_leaf (P := OKI m_X11_seenOf) oX11_seenOf_43) (bt_node (bt_leaf (P := OKI m_X11_seenOf) oX11_seenOf_46) (bt_leaf (P := OKI m_X11_seenOf) oX11_seenOf_47))) (bt_node (bt_leaf (P := OKI m_X11_seenOf) oX11_seenOf_48) (bt_node (bt_leaf (P := OKI m_X11_seenOf) oX11_seenOf_49) (bt_leaf (P := OKI m_X11_seenOf) oX11_seenOf_52)))) (bt_node (bt_node (bt_leaf (P := OKI m_X11_seenOf) oX11_seenOf_53) (bt_node (bt_leaf (P := OKI m_X11_seenOf) oX11_seenOf_54) (bt_leaf (P := OKI m_X11_seenOf) oX11_seenOf_55))) (bt_node (bt_leaf (P := OKI m_X11_seenOf) oX11_seenOf_58) (bt_node (bt_leaf (P := OKI m_X11_seenOf) oX11_seenOf_59) (bt_leaf (P := OKI m_X11_seenOf) oX11_seenOf_60))))) (bt_node (bt_node (bt_node (bt_leaf (P := OKI m_X11_seenOf) oX11_seenOf_61) (bt_node (bt_leaf (P := OKI m_X11_seenOf) oX11_seenOf_64) (bt_leaf (P := OKI m_X11_seenOf) oX11_seenOf_65))) (bt_node (bt_leaf (P := OKI m_X11_seenOf) oX11_seenOf_68) (bt_node (bt_leaf (P := OKI m_X11_seenOf) oX11_seenOf_69) (bt_leaf (P := OKI m_X11_seenOf) oX11_seenOf_70)))) (bt_node (bt_node (bt_leaf (P := OKI m_X11_seenOf) oX11_seenOf_73) (bt_node (bt_leaf (P := OKI m_X11_seenOf) oX11_seenOf_74) (bt_leaf (P := OKI m_X11_seenOf) oX11_seenOf_77))) (bt_node (bt_leaf (P := OKI m_X11_seenOf) oX11_seenOf_78) (bt_node (bt_leaf (P := OKI m_X11_seenOf) oX11_seenOf_79) (bt_leaf (P := OKI m_X11_seenOf) oX11_seenOf_80))))))) (bt_node (bt_node (bt_node (bt_node (bt_node (bt_leaf (P := OKI m_X11_seenOf) oX11_seenOf_83) (bt_node (bt_leaf (P := OKI m_X11_seenOf) oX11_seenOf_84) (bt_leaf (P := OKI m_X11_seenOf) oX11_seenOf_85))) (bt_node (bt_leaf (P := OKI m_X11_seenOf) oX11_seenOf_88) (bt_node (bt_leaf (P := OKI m_X11_seenOf) oX11_seenOf_91) (bt_leaf (P := OKI m_X11_seenOf) oX11_seenOf_92)))) (bt_node (bt_node (bt_leaf (P := OKI m_X11_seenOf) oX11_seenOf_95) (bt_node (bt_leaf (P := OKI m_X11_seenOf) oX11_seenOf_96) (bt_leaf (P := OKI m_X11_seenOf) oX11_seenOf_97))) (bt_node (bt_leaf (P := OKI m_X11_seenOf) oX11_seenOf_100) (bt_node (bt_leaf (P := OKI m_X11_seenOf) oX11_seenOf_101) (bt_leaf (P := OKI m_X11_seenOf) oX11_seenOf_104))))) (bt_node (bt_node (bt_node (bt_leaf (P := OKI m_X11_seenOf) oX11_seenOf_105) (bt_node (bt_leaf (P := OKI m_X11_seenOf) oX11_seenOf_106) (bt_leaf (P := OKI m_X11_seenOf) oX11_seenOf_107))) (bt_node (bt_leaf (P := OKI m_X11_seenOf) oX11_seenOf_110) (bt_node (bt_leaf (P := OKI m_X11_seenOf) oX11_seenOf_113) (bt_leaf (P := OKI m_X11_seenOf) oX11_seenOf_114)))) (bt_node (bt_node (bt_leaf (P := OKI m_X11_seenOf) oX11_seenOf_115) (bt_node (bt_leaf (P := OKI m_X11_seenOf) oX11_seenOf_116) (bt_leaf (P := OKI m_X11_seenOf) oX11_seenOf_119))) (bt_node (bt_leaf (P := OKI m_X11_seenOf) oX11_seenOf_120) (bt_node (bt_leaf (P := OKI m_X11_seenOf) oX11_seenOf_121) (bt_leaf (P := OKI m_X11_seenOf) oX11_seenOf_122)))))) (bt_node (bt_node (bt_node (bt_node (bt_leaf (P := OKI m_X11_seenOf) oX11_seenOf_123) (bt_node (bt_leaf (P := OKI m_X11_seenOf) oX11_seenOf_126) (bt_leaf (P := OKI m_X11_seenOf) oX11_seenOf_127))) (bt_node (bt_leaf (P := OKI m_X11_seenOf) oX11_seenOf_130) (bt_node (bt_leaf (P := OKI m_X11_seenOf) oX11_seenOf_131) (bt_leaf (P := OKI m_X11_seenOf) oX11_seenOf_132)))) (bt_node (bt_node (bt_leaf (P := OKI m_X11_seenOf) oX11_seenOf_135) (bt_node (bt_leaf (P := OKI m_X11_seenOf) oX11_seenOf_136) (bt_leaf (P := OKI m_X11_seenOf) oX11_seenOf_139))) (bt_node (bt_leaf (P := OKI m_X11_seenOf) oX11_seenOf_140) (bt_node (bt_leaf (P := OKI m_X11_seenOf) oX11_seenOf_141) (bt_leaf (P := OKI m_X11_seenOf) oX11_seenOf_142))))) (bt_node (bt_node (bt_node (bt_leaf (P := OKI m_X11_seenOf) oX11_seenOf_145) (bt_node (bt_leaf (P := OKI m_X11_seenOf) oX11_seenOf_146) (bt_leaf (P := OKI m_X11_seenOf) oX11_seenOf_147))) (bt_node (bt_leaf (P := OKI m_X11_seenOf) oX11_seenOf_148) (bt_node (bt_leaf (P := OKI m_X11_seenOf) oX11_seenOf_151) (bt_leaf (P := OKI m_X11_seenOf) oX11_seenOf_152)))) (bt_node (bt_node (bt_leaf (P := OKI m_X11_seenOf) oX11_seenOf_155) (bt_node (bt_leaf (P := OKI m_X11_seenOf) oX11_seenOf_156) (bt_leaf (P := OKI m_X11_seenOf) oX11_seenOf_157))) (bt_node (bt_leaf (P := OKI m_X11_seenOf) oX11_seenOf_160) (bt_node (bt_leaf (P := OKI m_X11_seenOf) oX11_seenOf_161) (bt_leaf (P := OKI m_X11_seenOf) oX11_seenOf_164)))))))) : pfX11_seenOf pc = some Y → OKI m_X11_seenOf pc Y)
def stpX11_seenOf (pc : Nat) : Option (List Bool) := (bif Nat.blt pc 110 then (bif Nat.blt pc 74 then (bif Nat.beq pc 35 then some [false, false, false, false] else none) else (bif Nat.blt pc 77 then (bif Nat.beq pc 74 then some [false, false, false, false] else none) else (bif Nat.beq pc 77 then some [false, false, false, false] else none))) else (bif Nat.blt pc 141 then (bif Nat.blt pc 114 then (bif Nat.beq pc 110 then some [false, false, false, false] else none) else (bif Nat.beq pc 114 then some [true, true, true, false] else none)) else (bif Nat.blt pc 161 then (bif Nat.beq pc 141 then some [true, true, false, false] else none) else (bif Nat.beq pc 161 then some [false, false, false, false] else none))))
def bX11_seenOf_0 (d rc rs : Nat) (a1 : Int32) (a2 : Int32) (σ : XH) (Q : XV → XH → Prop) : Prop :=
  ((hr σ 12 0 9 = some (120, 0) ∧ ((vp_in a1 (hn σ 120 0) ∧ (((hi σ 120 0 a1.toNatClampNeg) = 6 → ((hr σ 12 0 16 = some (127, 0) ∧ ((vp_in a1 (hn σ 127 0) ∧ ((a2 = 0 → ((hr σ 12 0 9 = some (120, 0) ∧ ((vp_in (hi σ 127 0 a1.toNatClampNeg) (hn σ 120 0) ∧ ((1 ≤ d ∧ Ec (d - 1) 0 0 m_X11_isSeenKind [vR (some (12, 0)), vI (hi σ 120 0 (hi σ 127 0 a1.toNatClampNeg).toNatClampNeg)] σ (kI fun x4 h3 => ((x4 = 0 → Ex d rc rs m_X11_seenOf 35 [vU, vU, vU, vU] [] h3 Q) ∧ (¬ x4 = 0 → ((hr h3 12 0 10 = some (121, 0) ∧ ((vp_in (hi σ 127 0 a1.toNatClampNeg) (hn h3 121 0) ∧ ((hr h3 12 0 12 = some (123, 0) ∧ ((vp_in a1 (hn h3 123 0) ∧ ((hr h3 12 0 9 = some (120, 0) ∧ ((vp_in (hi σ 127 0 a1.toNatClampNeg) (hn h3 120 0) ∧ (((hi h3 120 0 (hi σ 127 0 a1.toNatClampNeg).toNatClampNeg) = 5 → ((hr h3 12 0 13 = some (124, 0) ∧ ((vp_in (hi σ 127 0 a1.toNatClampNeg) (hn h3 124 0) ∧ Ex d rc rs m_X11_seenOf 74 [vU, vU, vU, vU] [vI (hi h3 124 0 (hi σ 127 0 a1.toNatClampNeg).toNatClampNeg), vI (hi h3 123 0 a1.toNatClampNeg), vI (hi h3 121 0 (hi σ 127 0 a1.toNatClampNeg).toNatClampNeg), vR (some (12, 0))] h3 Q))))) ∧ (¬ (hi h3 120 0 (hi σ 127 0 a1.toNatClampNeg).toNatClampNeg) = 5 → Ex d rc rs m_X11_seenOf 74 [vU, vU, vU, vU] [vI 0, vI (hi h3 123 0 a1.toNatClampNeg), vI (hi h3 121 0 (hi σ 127 0 a1.toNatClampNeg).toNatClampNeg), vR (some (12, 0))] h3 Q)))))))))))))))))))))))) ∧ (¬ a2 = 0 → Ex d rc rs m_X11_seenOf 35 [vU, vU, vU, vU] [] σ Q))))))) ∧ (¬ (hi σ 120 0 a1.toNatClampNeg) = 6 → ((hr σ 12 0 9 = some (120, 0) ∧ ((vp_in a1 (hn σ 120 0) ∧ ((1 ≤ d ∧ Ec (d - 1) 0 0 m_X11_isSeenKind [vR (some (12, 0)), vI (hi σ 120 0 a1.toNatClampNeg)] σ (kI fun x2 h1 => ((x2 = 0 → Ex d rc rs m_X11_seenOf 110 [vU, vU, vU, vU] [] h1 Q) ∧ (¬ x2 = 0 → ((a2 = 0 → Ex d rc rs m_X11_seenOf 114 [vR (some (12, 0)), vI a1, vI a2, vU] [] h1 Q) ∧ (¬ a2 = 0 → ((a2 = 1 → ((hr h1 12 0 9 = some (120, 0) ∧ ((vp_in a1 (hn h1 120 0) ∧ (((hi h1 120 0 a1.toNatClampNeg) = 4 → Ex d rc rs m_X11_seenOf 114 [vR (some (12, 0)), vI a1, vI a2, vU] [] h1 Q) ∧ (¬ (hi h1 120 0 a1.toNatClampNeg) = 4 → Ex d rc rs m_X11_seenOf 110 [vU, vU, vU, vU] [] h1 Q))))))) ∧ (¬ a2 = 1 → Ex d rc rs m_X11_seenOf 110 [vU, vU, vU, vU] [] h1 Q)))))))))))))))))))
theorem sX11_seenOf_0 {d rc rs : Nat} {a1 : Int32} {a2 : Int32} {σ : XH} {Q : XV → XH → Prop} (h : bX11_seenOf_0 d rc rs a1 a2 σ Q) : Ex d rc rs m_X11_seenOf 0 [vR (some (12, 0)), vI a1, vI a2, vU] [] σ Q :=
  xtree_sound (stop := stpX11_seenOf) okX11_seenOf 42 _ _ _ _ _ _ h
def bX11_seenOf_35 (d rc rs : Nat)  (σ : XH) (Q : XV → XH → Prop) : Prop :=
  Ex d rc rs m_X11_seenOf 77 [vU, vU, vU, vU] [vI (-1000000000)] σ Q
theorem sX11_seenOf_35 {d rc rs : Nat}  {σ : XH} {Q : XV → XH → Prop} (h : bX11_seenOf_35 d rc rs  σ Q) : Ex d rc rs m_X11_seenOf 35 [vU, vU, vU, vU] [] σ Q :=
  xtree_sound (stop := stpX11_seenOf) okX11_seenOf 4 _ _ _ _ _ _ h
def bX11_seenOf_74 (d rc rs : Nat) (q0 : Int32) (q1 : Int32) (q2 : Int32) (σ : XH) (Q : XV → XH → Prop) : Prop :=
  ((1 ≤ d ∧ Ec (d - 1) 0 0 m_X11_seenAt [vR (some (12, 0)), vI q2, vI q1, vI q0] σ (kI fun x2 h1 => Ex d rc rs m_X11_seenOf 77 [vU, vU, vU, vU] [vI x2] h1 Q)))
theorem sX11_seenOf_74 {d rc rs : Nat} {q0 : Int32} {q1 : Int32} {q2 : Int32} {σ : XH} {Q : XV → XH → Prop} (h : bX11_seenOf_74 d rc rs q0 q1 q2 σ Q) : Ex d rc rs m_X11_seenOf 74 [vU, vU, vU, vU] [vI q0, vI q1, vI q2, vR (some (12, 0))] σ Q :=
  xtree_sound (stop := stpX11_seenOf) okX11_seenOf 3 _ _ _ _ _ _ h
def bX11_seenOf_77 (d rc rs : Nat) (q0 : Int32) (σ : XH) (Q : XV → XH → Prop) : Prop :=
  Q (vI q0) σ
theorem sX11_seenOf_77 {d rc rs : Nat} {q0 : Int32} {σ : XH} {Q : XV → XH → Prop} (h : bX11_seenOf_77 d rc rs q0 σ Q) : Ex d rc rs m_X11_seenOf 77 [vU, vU, vU, vU] [vI q0] σ Q :=
  xtree_sound (stop := stpX11_seenOf) okX11_seenOf 3 _ _ _ _ _ _ h
def bX11_seenOf_110 (d rc rs : Nat)  (σ : XH) (Q : XV → XH → Prop) : Prop :=
  Q (vI (-1000000000)) σ
theorem sX11_seenOf_110 {d rc rs : Nat}  {σ : XH} {Q : XV → XH → Prop} (h : bX11_seenOf_110 d rc rs  σ Q) : Ex d rc rs m_X11_seenOf 110 [vU, vU, vU, vU] [] σ Q :=
  xtree_sound (stop := stpX11_seenOf) okX11_seenOf 4 _ _ _ _ _ _ h
def bX11_seenOf_114 (d rc rs : Nat) (l1 : Int32) (l2 : Int32) (σ : XH) (Q : XV → XH → Prop) : Prop :=
  ((hr σ 12 0 10 = some (121, 0) ∧ ((vp_in l1 (hn σ 121 0) ∧ ((l2 = 1 → ((hr σ 12 0 13 = some (124, 0) ∧ ((vp_in l1 (hn σ 124 0) ∧ Ex d rc rs m_X11_seenOf 141 [vR (some (12, 0)), vI l1, vU, vU] [vI (hi σ 124 0 l1.toNatClampNeg), vI (hi σ 121 0 l1.toNatClampNeg), vR (some (12, 0))] σ Q))))) ∧ (¬ l2 = 1 → ((hr σ 12 0 12 = some (123, 0) ∧ ((vp_in l1 (hn σ 123 0) ∧ Ex d rc rs m_X11_seenOf 141 [vR (some (12, 0)), vI l1, vU, vU] [vI (hi σ 123 0 l1.toNatClampNeg), vI (hi σ 121 0 l1.toNatClampNeg), vR (some (12, 0))] σ Q))))))))))
theorem sX11_seenOf_114 {d rc rs : Nat} {l1 : Int32} {l2 : Int32} {σ : XH} {Q : XV → XH → Prop} (h : bX11_seenOf_114 d rc rs l1 l2 σ Q) : Ex d rc rs m_X11_seenOf 114 [vR (some (12, 0)), vI l1, vI l2, vU] [] σ Q :=
  xtree_sound (stop := stpX11_seenOf) okX11_seenOf 15 _ _ _ _ _ _ h
def bX11_seenOf_141 (d rc rs : Nat) (l1 : Int32) (q0 : Int32) (q1 : Int32) (σ : XH) (Q : XV → XH → Prop) : Prop :=
  ((hr σ 12 0 9 = some (120, 0) ∧ ((vp_in l1 (hn σ 120 0) ∧ (((hi σ 120 0 l1.toNatClampNeg) = 5 → ((hr σ 12 0 13 = some (124, 0) ∧ ((vp_in l1 (hn σ 124 0) ∧ Ex d rc rs m_X11_seenOf 161 [vU, vU, vU, vU] [vI (hi σ 124 0 l1.toNatClampNeg), vI q0, vI q1, vR (some (12, 0))] σ Q))))) ∧ (¬ (hi σ 120 0 l1.toNatClampNeg) = 5 → Ex d rc rs m_X11_seenOf 161 [vU, vU, vU, vU] [vI 0, vI q0, vI q1, vR (some (12, 0))] σ Q))))))
theorem sX11_seenOf_141 {d rc rs : Nat} {l1 : Int32} {q0 : Int32} {q1 : Int32} {σ : XH} {Q : XV → XH → Prop} (h : bX11_seenOf_141 d rc rs l1 q0 q1 σ Q) : Ex d rc rs m_X11_seenOf 141 [vR (some (12, 0)), vI l1, vU, vU] [vI q0, vI q1, vR (some (12, 0))] σ Q :=
  xtree_sound (stop := stpX11_seenOf) okX11_seenOf 13 _ _ _ _ _ _ h
def bX11_seenOf_161 (d rc rs : Nat) (q0 : Int32) (q1 : Int32) (q2 : Int32) (σ : XH) (Q : XV → XH → Prop) : Prop :=
  ((1 ≤ d ∧ Ec (d - 1) 0 0 m_X11_seenAt [vR (some (12, 0)), vI q2, vI q1, vI q0] σ (kI fun x2 h1 => Q (vI x2) h1)))
theorem sX11_seenOf_161 {d rc rs : Nat} {q0 : Int32} {q1 : Int32} {q2 : Int32} {σ : XH} {Q : XV → XH → Prop} (h : bX11_seenOf_161 d rc rs q0 q1 q2 σ Q) : Ex d rc rs m_X11_seenOf 161 [vU, vU, vU, vU] [vI q0, vI q1, vI q2, vR (some (12, 0))] σ Q :=
  xtree_sound (stop := stpX11_seenOf) okX11_seenOf 4 _ _ _ _ _ _ h
/-! SpotTimersModel.seen(II)I -/
theorem dX11_seen_0 : decode cX11_seen 0 = .ok (.aload_n 0, 1) := by decide +kernel
theorem dX11_seen_1 : decode cX11_seen 1 = .ok (.iload_n 1, 1) := by decide +kernel
theorem dX11_seen_2 : decode cX11_seen 2 = .ok (.invokevirtual 249, 3) := by decide +kernel
theorem dX11_seen_5 : decode cX11_seen 5 = .ok (.ifCond .eq 12, 3) := by decide +kernel
theorem dX11_seen_8 : decode cX11_seen 8 = .ok (.aload_n 0, 1) := by decide +kernel
theorem dX11_seen_9 : decode cX11_seen 9 = .ok (.iload_n 1, 1) := by decide +kernel
theorem dX11_seen_10 : decode cX11_seen 10 = .ok (.iload_n 2, 1) := by decide +kernel
theorem dX11_seen_11 : decode cX11_seen 11 = .ok (.invokevirtual 292, 3) := by decide +kernel
theorem dX11_seen_14 : decode cX11_seen 14 = .ok (.goto 6, 3) := by decide +kernel
theorem dX11_seen_17 : decode cX11_seen 17 = .ok (.ldc_w 256, 3) := by decide +kernel
theorem dX11_seen_20 : decode cX11_seen 20 = .ok (.ireturn, 1) := by decide +kernel
theorem oX11_seen_0 : OKI 172 0 (.aload_n 0, 1, [0], 0, 0, []) := And.intro dX11_seen_0 (And.intro rfl (rfl))
theorem oX11_seen_1 : OKI 172 1 (.iload_n 1, 2, [1], 0, 0, []) := And.intro dX11_seen_1 (And.intro rfl (rfl))
theorem oX11_seen_2 : OKI 172 2 (.invokevirtual 249, 5, [151, 2, 13, 0, 0, 1], 0, 0, []) := And.intro dX11_seen_2 (And.intro rfl (And.intro (by decide) (And.intro (by decide) (And.intro mo_X11_isReading (And.intro (tm_6 _ (List.mem_of_getElem? (i := 231) rfl) rfl) (And.intro (tm_6 _ (List.mem_of_getElem? (i := 233) rfl) rfl) (And.intro (pm_3 _ (List.mem_of_getElem? (i := 15) rfl)) (Or.inl ⟨(RX11, TX11, 69), rfl, rfl⟩))))))))
theorem oX11_seen_5 : OKI 172 5 (.ifCond .eq 12, 8, [17], 0, 0, []) := And.intro dX11_seen_5 (And.intro rfl (by decide))
theorem oX11_seen_8 : OKI 172 8 (.aload_n 0, 9, [0], 0, 0, []) := And.intro dX11_seen_8 (And.intro rfl (rfl))
theorem oX11_seen_9 : OKI 172 9 (.iload_n 1, 10, [1], 0, 0, []) := And.intro dX11_seen_9 (And.intro rfl (rfl))
theorem oX11_seen_10 : OKI 172 10 (.iload_n 2, 11, [2], 0, 0, []) := And.intro dX11_seen_10 (And.intro rfl (rfl))
theorem oX11_seen_11 : OKI 172 11 (.invokevirtual 292, 14, [171, 3, 13, 0, 0, 1], 0, 0, []) := And.intro dX11_seen_11 (And.intro rfl (And.intro (by decide) (And.intro (by decide) (And.intro mo_X11_seenOf (And.intro (tm_7 _ (List.mem_of_getElem? (i := 54) rfl) rfl) (And.intro (tm_7 _ (List.mem_of_getElem? (i := 56) rfl) rfl) (And.intro (pm_4 _ (List.mem_of_getElem? (i := 8) rfl)) (Or.inl ⟨(RX11, TX11, 69), rfl, rfl⟩))))))))
theorem oX11_seen_14 : OKI 172 14 (.goto 6, 17, [20], 0, 0, []) := And.intro dX11_seen_14 (And.intro rfl (by decide))
theorem oX11_seen_17 : OKI 172 17 (.ldc_w 256, 20, [], (-1000000000), 0, []) := And.intro dX11_seen_17 (And.intro rfl (tm_7 _ (List.mem_of_getElem? (i := 11) rfl) rfl))
theorem oX11_seen_20 : OKI 172 20 (.ireturn, 21, [0], 0, 0, []) := And.intro dX11_seen_20 (Or.inl (And.intro rfl rfl))
def pfX11_seen (pc : Nat) : Option XE := (bif Nat.blt pc 9 then (bif Nat.blt pc 2 then (bif Nat.blt pc 1 then (bif Nat.beq pc 0 then some (.aload_n 0, 1, [0], 0, 0, []) else none) else (bif Nat.beq pc 1 then some (.iload_n 1, 2, [1], 0, 0, []) else none)) else (bif Nat.blt pc 5 then (bif Nat.beq pc 2 then some (.invokevirtual 249, 5, [151, 2, 13, 0, 0, 1], 0, 0, []) else none) else (bif Nat.blt pc 8 then (bif Nat.beq pc 5 then some (.ifCond .eq 12, 8, [17], 0, 0, []) else none) else (bif Nat.beq pc 8 then some (.aload_n 0, 9, [0], 0, 0, []) else none)))) else (bif Nat.blt pc 14 then (bif Nat.blt pc 10 then (bif Nat.beq pc 9 then some (.iload_n 1, 10, [1], 0, 0, []) else none) else (bif Nat.blt pc 11 then (bif Nat.beq pc 10 then some (.iload_n 2, 11, [2], 0, 0, []) else none) else (bif Nat.beq pc 11 then some (.invokevirtual 292, 14, [171, 3, 13, 0, 0, 1], 0, 0, []) else none))) else (bif Nat.blt pc 17 then (bif Nat.beq pc 14 then some (.goto 6, 17, [20], 0, 0, []) else none) else (bif Nat.blt pc 20 then (bif Nat.beq pc 17 then some (.ldc_w 256, 20, [], (-1000000000), 0, []) else none) else (bif Nat.beq pc 20 then some (.ireturn, 21, [0], 0, 0, []) else none)))))
theorem okX11_seen : ∀ pc Y, pfX11_seen pc = some Y → OKI m_X11_seen pc Y := fun pc Y => ((bt_node (bt_node (bt_node (bt_leaf (P := OKI m_X11_seen) oX11_seen_0) (bt_leaf (P := OKI m_X11_seen) oX11_seen_1)) (bt_node (bt_leaf (P := OKI m_X11_seen) oX11_seen_2) (bt_node (bt_leaf (P := OKI m_X11_seen) oX11_seen_5) (bt_leaf (P := OKI m_X11_seen) oX11_seen_8)))) (bt_node (bt_node (bt_leaf (P := OKI m_X11_seen) oX11_seen_9) (bt_node (bt_leaf (P := OKI m_X11_seen) oX11_seen_10) (bt_leaf (P := OKI m_X11_seen) oX11_seen_11))) (bt_node (bt_leaf (P := OKI m_X11_seen) oX11_seen_14) (bt_node (bt_leaf (P := OKI m_X11_seen) oX11_seen_17) (bt_leaf (P := OKI m_X11_seen) oX11_seen_20))))) : pfX11_seen pc = some Y → OKI m_X11_seen pc Y)
def stpX11_seen (pc : Nat) : Option (List Bool) := (bif Nat.beq pc 20 then some [false, false, false] else none)
def bX11_seen_0 (d rc rs : Nat) (a1 : Int32) (a2 : Int32) (σ : XH) (Q : XV → XH → Prop) : Prop :=
  ((1 ≤ d ∧ Ec (d - 1) 0 0 m_X11_isReading [vR (some (12, 0)), vI a1] σ (kI fun x2 h1 => ((x2 = 0 → Ex d rc rs m_X11_seen 20 [vU, vU, vU] [vI (-1000000000)] h1 Q) ∧ (¬ x2 = 0 → ((1 ≤ d ∧ Ec (d - 1) 0 0 m_X11_seenOf [vR (some (12, 0)), vI a1, vI a2] h1 (kI fun x4 h3 => Ex d rc rs m_X11_seen 20 [vU, vU, vU] [vI x4] h3 Q))))))))
theorem sX11_seen_0 {d rc rs : Nat} {a1 : Int32} {a2 : Int32} {σ : XH} {Q : XV → XH → Prop} (h : bX11_seen_0 d rc rs a1 a2 σ Q) : Ex d rc rs m_X11_seen 0 [vR (some (12, 0)), vI a1, vI a2] [] σ Q :=
  xtree_sound (stop := stpX11_seen) okX11_seen 11 _ _ _ _ _ _ h
def bX11_seen_20 (d rc rs : Nat) (q0 : Int32) (σ : XH) (Q : XV → XH → Prop) : Prop :=
  Q (vI q0) σ
theorem sX11_seen_20 {d rc rs : Nat} {q0 : Int32} {σ : XH} {Q : XV → XH → Prop} (h : bX11_seen_20 d rc rs q0 σ Q) : Ex d rc rs m_X11_seen 20 [vU, vU, vU] [vI q0] σ Q :=
  xtree_sound (stop := stpX11_seen) okX11_seen 3 _ _ _ _ _ _ h
/-! SpotTimersModel.like(I)I -/
theorem dX11_like_0 : decode cX11_like 0 = .ok (.aload_n 0, 1) := by decide +kernel
theorem dX11_like_1 : decode cX11_like 1 = .ok (.iload_n 1, 1) := by decide +kernel
theorem dX11_like_2 : decode cX11_like 2 = .ok (.invokevirtual 249, 3) := by decide +kernel
theorem dX11_like_5 : decode cX11_like 5 = .ok (.ifCond .ne 5, 3) := by decide +kernel
theorem dX11_like_8 : decode cX11_like 8 = .ok (.iconst (-1), 1) := by decide +kernel
theorem dX11_like_9 : decode cX11_like 9 = .ok (.ireturn, 1) := by decide +kernel
theorem dX11_like_10 : decode cX11_like 10 = .ok (.aload_n 0, 1) := by decide +kernel
theorem dX11_like_11 : decode cX11_like 11 = .ok (.getfield 38, 3) := by decide +kernel
theorem dX11_like_14 : decode cX11_like 14 = .ok (.iload_n 1, 1) := by decide +kernel
theorem dX11_like_15 : decode cX11_like 15 = .ok (.iaload, 1) := by decide +kernel
theorem dX11_like_16 : decode cX11_like 16 = .ok (.bipush 6, 2) := by decide +kernel
theorem dX11_like_18 : decode cX11_like 18 = .ok (.if_icmp .eq 6, 3) := by decide +kernel
theorem dX11_like_21 : decode cX11_like 21 = .ok (.bipush (-12), 2) := by decide +kernel
theorem dX11_like_23 : decode cX11_like 23 = .ok (.ireturn, 1) := by decide +kernel
theorem dX11_like_24 : decode cX11_like 24 = .ok (.aload_n 0, 1) := by decide +kernel
theorem dX11_like_25 : decode cX11_like 25 = .ok (.getfield 47, 3) := by decide +kernel
theorem dX11_like_28 : decode cX11_like 28 = .ok (.iload_n 1, 1) := by decide +kernel
theorem dX11_like_29 : decode cX11_like 29 = .ok (.iaload, 1) := by decide +kernel
theorem dX11_like_30 : decode cX11_like 30 = .ok (.aload_n 0, 1) := by decide +kernel
theorem dX11_like_31 : decode cX11_like 31 = .ok (.getfield 47, 3) := by decide +kernel
theorem dX11_like_34 : decode cX11_like 34 = .ok (.aload_n 0, 1) := by decide +kernel
theorem dX11_like_35 : decode cX11_like 35 = .ok (.getfield 59, 3) := by decide +kernel
theorem dX11_like_38 : decode cX11_like 38 = .ok (.iload_n 1, 1) := by decide +kernel
theorem dX11_like_39 : decode cX11_like 39 = .ok (.iaload, 1) := by decide +kernel
theorem dX11_like_40 : decode cX11_like 40 = .ok (.iaload, 1) := by decide +kernel
theorem dX11_like_41 : decode cX11_like 41 = .ok (.if_icmp .ne 7, 3) := by decide +kernel
theorem dX11_like_44 : decode cX11_like 44 = .ok (.iconst 1, 1) := by decide +kernel
theorem dX11_like_45 : decode cX11_like 45 = .ok (.goto 4, 3) := by decide +kernel
theorem dX11_like_48 : decode cX11_like 48 = .ok (.iconst 0, 1) := by decide +kernel
theorem dX11_like_49 : decode cX11_like 49 = .ok (.ireturn, 1) := by decide +kernel
theorem oX11_like_0 : OKI 173 0 (.aload_n 0, 1, [0], 0, 0, []) := And.intro dX11_like_0 (And.intro rfl (rfl))
theorem oX11_like_1 : OKI 173 1 (.iload_n 1, 2, [1], 0, 0, []) := And.intro dX11_like_1 (And.intro rfl (rfl))
theorem oX11_like_2 : OKI 173 2 (.invokevirtual 249, 5, [151, 2, 13, 0, 0, 1], 0, 0, []) := And.intro dX11_like_2 (And.intro rfl (And.intro (by decide) (And.intro (by decide) (And.intro mo_X11_isReading (And.intro (tm_6 _ (List.mem_of_getElem? (i := 231) rfl) rfl) (And.intro (tm_6 _ (List.mem_of_getElem? (i := 233) rfl) rfl) (And.intro (pm_3 _ (List.mem_of_getElem? (i := 15) rfl)) (Or.inl ⟨(RX11, TX11, 69), rfl, rfl⟩))))))))
theorem oX11_like_5 : OKI 173 5 (.ifCond .ne 5, 8, [10], 0, 0, []) := And.intro dX11_like_5 (And.intro rfl (by decide))
theorem oX11_like_8 : OKI 173 8 (.iconst (-1), 9, [], (-1), 0, []) := And.intro dX11_like_8 (And.intro rfl (by decide +kernel))
theorem oX11_like_9 : OKI 173 9 (.ireturn, 10, [0], 0, 0, []) := And.intro dX11_like_9 (Or.inl (And.intro rfl rfl))
theorem oX11_like_10 : OKI 173 10 (.aload_n 0, 11, [0], 0, 0, []) := And.intro dX11_like_10 (And.intro rfl (rfl))
theorem oX11_like_11 : OKI 173 11 (.getfield 38, 14, [12, 9, 2, 120, 0], 0, 0, []) := And.intro dX11_like_11 (And.intro rfl (⟨(RX11, TX11, 69), "SpotTimersModel", rfl, by decide, tm_5 _ (List.mem_of_getElem? (i := 215) rfl) rfl, Or.inl rfl, rfl, rfl⟩))
theorem oX11_like_14 : OKI 173 14 (.iload_n 1, 15, [1], 0, 0, []) := And.intro dX11_like_14 (And.intro rfl (rfl))
theorem oX11_like_15 : OKI 173 15 (.iaload, 16, [], 0, 0, []) := And.intro dX11_like_15 rfl
theorem oX11_like_16 : OKI 173 16 (.bipush 6, 18, [], 6, 0, []) := And.intro dX11_like_16 (And.intro rfl (by decide +kernel))
theorem oX11_like_18 : OKI 173 18 (.if_icmp .eq 6, 21, [24], 0, 0, []) := And.intro dX11_like_18 (And.intro rfl (by decide))
theorem oX11_like_21 : OKI 173 21 (.bipush (-12), 23, [], (-12), 0, []) := And.intro dX11_like_21 (And.intro rfl (by decide +kernel))
theorem oX11_like_23 : OKI 173 23 (.ireturn, 24, [0], 0, 0, []) := And.intro dX11_like_23 (Or.inl (And.intro rfl rfl))
theorem oX11_like_24 : OKI 173 24 (.aload_n 0, 25, [0], 0, 0, []) := And.intro dX11_like_24 (And.intro rfl (rfl))
theorem oX11_like_25 : OKI 173 25 (.getfield 47, 28, [12, 12, 2, 123, 0], 0, 0, []) := And.intro dX11_like_25 (And.intro rfl (⟨(RX11, TX11, 69), "SpotTimersModel", rfl, by decide, tm_5 _ (List.mem_of_getElem? (i := 218) rfl) rfl, Or.inl rfl, rfl, rfl⟩))
theorem oX11_like_28 : OKI 173 28 (.iload_n 1, 29, [1], 0, 0, []) := And.intro dX11_like_28 (And.intro rfl (rfl))
theorem oX11_like_29 : OKI 173 29 (.iaload, 30, [], 0, 0, []) := And.intro dX11_like_29 rfl
theorem oX11_like_30 : OKI 173 30 (.aload_n 0, 31, [0], 0, 0, []) := And.intro dX11_like_30 (And.intro rfl (rfl))
theorem oX11_like_31 : OKI 173 31 (.getfield 47, 34, [12, 12, 2, 123, 0], 0, 0, []) := And.intro dX11_like_31 (And.intro rfl (⟨(RX11, TX11, 69), "SpotTimersModel", rfl, by decide, tm_5 _ (List.mem_of_getElem? (i := 218) rfl) rfl, Or.inl rfl, rfl, rfl⟩))
theorem oX11_like_34 : OKI 173 34 (.aload_n 0, 35, [0], 0, 0, []) := And.intro dX11_like_34 (And.intro rfl (rfl))
theorem oX11_like_35 : OKI 173 35 (.getfield 59, 38, [12, 16, 2, 127, 0], 0, 0, []) := And.intro dX11_like_35 (And.intro rfl (⟨(RX11, TX11, 69), "SpotTimersModel", rfl, by decide, tm_5 _ (List.mem_of_getElem? (i := 222) rfl) rfl, Or.inl rfl, rfl, rfl⟩))
theorem oX11_like_38 : OKI 173 38 (.iload_n 1, 39, [1], 0, 0, []) := And.intro dX11_like_38 (And.intro rfl (rfl))
theorem oX11_like_39 : OKI 173 39 (.iaload, 40, [], 0, 0, []) := And.intro dX11_like_39 rfl
theorem oX11_like_40 : OKI 173 40 (.iaload, 41, [], 0, 0, []) := And.intro dX11_like_40 rfl
theorem oX11_like_41 : OKI 173 41 (.if_icmp .ne 7, 44, [48], 0, 0, []) := And.intro dX11_like_41 (And.intro rfl (by decide))
theorem oX11_like_44 : OKI 173 44 (.iconst 1, 45, [], 1, 0, []) := And.intro dX11_like_44 (And.intro rfl (by decide +kernel))
theorem oX11_like_45 : OKI 173 45 (.goto 4, 48, [49], 0, 0, []) := And.intro dX11_like_45 (And.intro rfl (by decide))
theorem oX11_like_48 : OKI 173 48 (.iconst 0, 49, [], 0, 0, []) := And.intro dX11_like_48 (And.intro rfl (by decide +kernel))
theorem oX11_like_49 : OKI 173 49 (.ireturn, 50, [0], 0, 0, []) := And.intro dX11_like_49 (Or.inl (And.intro rfl rfl))
def pfX11_like (pc : Nat) : Option XE := (bif Nat.blt pc 25 then (bif Nat.blt pc 11 then (bif Nat.blt pc 5 then (bif Nat.blt pc 1 then (bif Nat.beq pc 0 then some (.aload_n 0, 1, [0], 0, 0, []) else none) else (bif Nat.blt pc 2 then (bif Nat.beq pc 1 then some (.iload_n 1, 2, [1], 0, 0, []) else none) else (bif Nat.beq pc 2 then some (.invokevirtual 249, 5, [151, 2, 13, 0, 0, 1], 0, 0, []) else none))) else (bif Nat.blt pc 9 then (bif Nat.blt pc 8 then (bif Nat.beq pc 5 then some (.ifCond .ne 5, 8, [10], 0, 0, []) else none) else (bif Nat.beq pc 8 then some (.iconst (-1), 9, [], (-1), 0, []) else none)) else (bif Nat.blt pc 10 then (bif Nat.beq pc 9 then some (.ireturn, 10, [0], 0, 0, []) else none) else (bif Nat.beq pc 10 then some (.aload_n 0, 11, [0], 0, 0, []) else none)))) else (bif Nat.blt pc 18 then (bif Nat.blt pc 15 then (bif Nat.blt pc 14 then (bif Nat.beq pc 11 then some (.getfield 38, 14, [12, 9, 2, 120, 0], 0, 0, []) else none) else (bif Nat.beq pc 14 then some (.iload_n 1, 15, [1], 0, 0, []) else none)) else (bif Nat.blt pc 16 then (bif Nat.beq pc 15 then some (.iaload, 16, [], 0, 0, []) else none) else (bif Nat.beq pc 16 then some (.bipush 6, 18, [], 6, 0, []) else none))) else (bif Nat.blt pc 23 then (bif Nat.blt pc 21 then (bif Nat.beq pc 18 then some (.if_icmp .eq 6, 21, [24], 0, 0, []) else none) else (bif Nat.beq pc 21 then some (.bipush (-12), 23, [], (-12), 0, []) else none)) else (bif Nat.blt pc 24 then (bif Nat.beq pc 23 then some (.ireturn, 24, [0], 0, 0, []) else none) else (bif Nat.beq pc 24 then some (.aload_n 0, 25, [0], 0, 0, []) else none))))) else (bif Nat.blt pc 38 then (bif Nat.blt pc 30 then (bif Nat.blt pc 28 then (bif Nat.beq pc 25 then some (.getfield 47, 28, [12, 12, 2, 123, 0], 0, 0, []) else none) else (bif Nat.blt pc 29 then (bif Nat.beq pc 28 then some (.iload_n 1, 29, [1], 0, 0, []) else none) else (bif Nat.beq pc 29 then some (.iaload, 30, [], 0, 0, []) else none))) else (bif Nat.blt pc 34 then (bif Nat.blt pc 31 then (bif Nat.beq pc 30 then some (.aload_n 0, 31, [0], 0, 0, []) else none) else (bif Nat.beq pc 31 then some (.getfield 47, 34, [12, 12, 2, 123, 0], 0, 0, []) else none)) else (bif Nat.blt pc 35 then (bif Nat.beq pc 34 then some (.aload_n 0, 35, [0], 0, 0, []) else none) else (bif Nat.beq pc 35 then some (.getfield 59, 38, [12, 16, 2, 127, 0], 0, 0, []) else none)))) else (bif Nat.blt pc 44 then (bif Nat.blt pc 40 then (bif Nat.blt pc 39 then (bif Nat.beq pc 38 then some (.iload_n 1, 39, [1], 0, 0, []) else none) else (bif Nat.beq pc 39 then some (.iaload, 40, [], 0, 0, []) else none)) else (bif Nat.blt pc 41 then (bif Nat.beq pc 40 then some (.iaload, 41, [], 0, 0, []) else none) else (bif Nat.beq pc 41 then some (.if_icmp .ne 7, 44, [48], 0, 0, []) else none))) else (bif Nat.blt pc 48 then (bif Nat.blt pc 45 then (bif Nat.beq pc 44 then some (.iconst 1, 45, [], 1, 0, []) else none) else (bif Nat.beq pc 45 then some (.goto 4, 48, [49], 0, 0, []) else none)) else (bif Nat.blt pc 49 then (bif Nat.beq pc 48 then some (.iconst 0, 49, [], 0, 0, []) else none) else (bif Nat.beq pc 49 then some (.ireturn, 50, [0], 0, 0, []) else none))))))
theorem okX11_like : ∀ pc Y, pfX11_like pc = some Y → OKI m_X11_like pc Y := fun pc Y => ((bt_node (bt_node (bt_node (bt_node (bt_leaf (P := OKI m_X11_like) oX11_like_0) (bt_node (bt_leaf (P := OKI m_X11_like) oX11_like_1) (bt_leaf (P := OKI m_X11_like) oX11_like_2))) (bt_node (bt_node (bt_leaf (P := OKI m_X11_like) oX11_like_5) (bt_leaf (P := OKI m_X11_like) oX11_like_8)) (bt_node (bt_leaf (P := OKI m_X11_like) oX11_like_9) (bt_leaf (P := OKI m_X11_like) oX11_like_10)))) (bt_node (bt_node (bt_node (bt_leaf (P := OKI m_X11_like) oX11_like_11) (bt_leaf (P := OKI m_X11_like) oX11_like_14)) (bt_node (bt_leaf (P := OKI m_X11_like) oX11_like_15) (bt_leaf (P := OKI m_X11_like) oX11_like_16))) (bt_node (bt_node (bt_leaf (P := OKI m_X11_like) oX11_like_18) (bt_leaf (P := OKI m_X11_like) oX11_like_21)) (bt_node (bt_leaf (P := OKI m_X11_like) oX11_like_23) (bt_leaf (P := OKI m_X11_like) oX11_like_24))))) (bt_node (bt_node (bt_node (bt_leaf (P := OKI m_X11_like) oX11_like_25) (bt_node (bt_leaf (P := OKI m_X11_like) oX11_like_28) (bt_leaf (P := OKI m_X11_like) oX11_like_29))) (bt_node (bt_node (bt_leaf (P := OKI m_X11_like) oX11_like_30) (bt_leaf (P := OKI m_X11_like) oX11_like_31)) (bt_node (bt_leaf (P := OKI m_X11_like) oX11_like_34) (bt_leaf (P := OKI m_X11_like) oX11_like_35)))) (bt_node (bt_node (bt_node (bt_leaf (P := OKI m_X11_like) oX11_like_38) (bt_leaf (P := OKI m_X11_like) oX11_like_39)) (bt_node (bt_leaf (P := OKI m_X11_like) oX11_like_40) (bt_leaf (P := OKI m_X11_like) oX11_like_41))) (bt_node (bt_node (bt_leaf (P := OKI m_X11_like) oX11_like_44) (bt_leaf (P := OKI m_X11_like) oX11_like_45)) (bt_node (bt_leaf (P := OKI m_X11_like) oX11_like_48) (bt_leaf (P := OKI m_X11_like) oX11_like_49)))))) : pfX11_like pc = some Y → OKI m_X11_like pc Y)
def stpX11_like (pc : Nat) : Option (List Bool) := (bif Nat.beq pc 49 then some [false, false] else none)
def bX11_like_0 (d rc rs : Nat) (a1 : Int32) (σ : XH) (Q : XV → XH → Prop) : Prop :=
  ((1 ≤ d ∧ Ec (d - 1) 0 0 m_X11_isReading [vR (some (12, 0)), vI a1] σ (kI fun x2 h1 => ((x2 = 0 → Q (vI (-1)) h1) ∧ (¬ x2 = 0 → ((hr h1 12 0 9 = some (120, 0) ∧ ((vp_in a1 (hn h1 120 0) ∧ (((hi h1 120 0 a1.toNatClampNeg) = 6 → ((hr h1 12 0 12 = some (123, 0) ∧ ((vp_in a1 (hn h1 123 0) ∧ ((hr h1 12 0 12 = some (123, 0) ∧ ((hr h1 12 0 16 = some (127, 0) ∧ ((vp_in a1 (hn h1 127 0) ∧ ((vp_in (hi h1 127 0 a1.toNatClampNeg) (hn h1 123 0) ∧ (((hi h1 123 0 a1.toNatClampNeg) = (hi h1 123 0 (hi h1 127 0 a1.toNatClampNeg).toNatClampNeg) → Ex d rc rs m_X11_like 49 [vU, vU] [vI 1] h1 Q) ∧ (¬ (hi h1 123 0 a1.toNatClampNeg) = (hi h1 123 0 (hi h1 127 0 a1.toNatClampNeg).toNatClampNeg) → Ex d rc rs m_X11_like 49 [vU, vU] [vI 0] h1 Q))))))))))))))) ∧ (¬ (hi h1 120 0 a1.toNatClampNeg) = 6 → Q (vI (-12)) h1)))))))))))
theorem sX11_like_0 {d rc rs : Nat} {a1 : Int32} {σ : XH} {Q : XV → XH → Prop} (h : bX11_like_0 d rc rs a1 σ Q) : Ex d rc rs m_X11_like 0 [vR (some (12, 0)), vI a1] [] σ Q :=
  xtree_sound (stop := stpX11_like) okX11_like 26 _ _ _ _ _ _ h
def bX11_like_49 (d rc rs : Nat) (q0 : Int32) (σ : XH) (Q : XV → XH → Prop) : Prop :=
  Q (vI q0) σ
theorem sX11_like_49 {d rc rs : Nat} {q0 : Int32} {σ : XH} {Q : XV → XH → Prop} (h : bX11_like_49 d rc rs q0 σ Q) : Ex d rc rs m_X11_like 49 [vU, vU] [vI q0] σ Q :=
  xtree_sound (stop := stpX11_like) okX11_like 3 _ _ _ _ _ _ h
/-! SpotTimersModel.book(IIIIII)I -/
theorem dX11_book_0 : decode cX11_book 0 = .ok (.aload_n 0, 1) := by decide +kernel
theorem dX11_book_1 : decode cX11_book 1 = .ok (.iload_n 1, 1) := by decide +kernel
theorem dX11_book_2 : decode cX11_book 2 = .ok (.invokevirtual 233, 3) := by decide +kernel
theorem dX11_book_5 : decode cX11_book 5 = .ok (.ifCond .eq 20, 3) := by decide +kernel
theorem dX11_book_8 : decode cX11_book 8 = .ok (.aload_n 0, 1) := by decide +kernel
theorem dX11_book_9 : decode cX11_book 9 = .ok (.iload_n 2, 1) := by decide +kernel
theorem dX11_book_10 : decode cX11_book 10 = .ok (.invokevirtual 239, 3) := by decide +kernel
theorem dX11_book_13 : decode cX11_book 13 = .ok (.ifCond .eq 12, 3) := by decide +kernel
theorem dX11_book_16 : decode cX11_book 16 = .ok (.aload_n 0, 1) := by decide +kernel
theorem dX11_book_17 : decode cX11_book 17 = .ok (.iload 4, 2) := by decide +kernel
theorem dX11_book_19 : decode cX11_book 19 = .ok (.invokevirtual 295, 3) := by decide +kernel
theorem dX11_book_22 : decode cX11_book 22 = .ok (.ifCond .ne 5, 3) := by decide +kernel
theorem dX11_book_25 : decode cX11_book 25 = .ok (.iconst (-1), 1) := by decide +kernel
theorem dX11_book_26 : decode cX11_book 26 = .ok (.ireturn, 1) := by decide +kernel
theorem dX11_book_27 : decode cX11_book 27 = .ok (.aload_n 0, 1) := by decide +kernel
theorem dX11_book_28 : decode cX11_book 28 = .ok (.iload_n 3, 1) := by decide +kernel
theorem dX11_book_29 : decode cX11_book 29 = .ok (.iconst 1, 1) := by decide +kernel
theorem dX11_book_30 : decode cX11_book 30 = .ok (.iconst 4, 1) := by decide +kernel
theorem dX11_book_31 : decode cX11_book 31 = .ok (.invokevirtual 222, 3) := by decide +kernel
theorem dX11_book_34 : decode cX11_book 34 = .ok (.ifCond .eq 15, 3) := by decide +kernel
theorem dX11_book_37 : decode cX11_book 37 = .ok (.aload_n 0, 1) := by decide +kernel
theorem dX11_book_38 : decode cX11_book 38 = .ok (.iload 6, 2) := by decide +kernel
theorem dX11_book_40 : decode cX11_book 40 = .ok (.iconst 1, 1) := by decide +kernel
theorem dX11_book_41 : decode cX11_book 41 = .ok (.bipush 40, 2) := by decide +kernel
theorem dX11_book_43 : decode cX11_book 43 = .ok (.invokevirtual 222, 3) := by decide +kernel
theorem dX11_book_46 : decode cX11_book 46 = .ok (.ifCond .ne 6, 3) := by decide +kernel
theorem dX11_book_49 : decode cX11_book 49 = .ok (.bipush (-2), 2) := by decide +kernel
theorem dX11_book_51 : decode cX11_book 51 = .ok (.ireturn, 1) := by decide +kernel
theorem dX11_book_52 : decode cX11_book 52 = .ok (.aload_n 0, 1) := by decide +kernel
theorem dX11_book_53 : decode cX11_book 53 = .ok (.getfield 209, 3) := by decide +kernel
theorem dX11_book_56 : decode cX11_book 56 = .ok (.iload 4, 2) := by decide +kernel
theorem dX11_book_58 : decode cX11_book 58 = .ok (.iaload, 1) := by decide +kernel
theorem dX11_book_59 : decode cX11_book 59 = .ok (.ifCond .lt 17, 3) := by decide +kernel
theorem dX11_book_62 : decode cX11_book 62 = .ok (.aload_n 0, 1) := by decide +kernel
theorem dX11_book_63 : decode cX11_book 63 = .ok (.getfield 209, 3) := by decide +kernel
theorem dX11_book_66 : decode cX11_book 66 = .ok (.iload 4, 2) := by decide +kernel
theorem dX11_book_68 : decode cX11_book 68 = .ok (.iaload, 1) := by decide +kernel
theorem dX11_book_69 : decode cX11_book 69 = .ok (.iconst 3, 1) := by decide +kernel
theorem dX11_book_70 : decode cX11_book 70 = .ok (.if_icmp .eq 6, 3) := by decide +kernel
theorem dX11_book_73 : decode cX11_book 73 = .ok (.bipush (-12), 2) := by decide +kernel
theorem dX11_book_75 : decode cX11_book 75 = .ok (.ireturn, 1) := by decide +kernel
theorem dX11_book_76 : decode cX11_book 76 = .ok (.iconst 0, 1) := by decide +kernel
theorem dX11_book_77 : decode cX11_book 77 = .ok (.istore 7, 2) := by decide +kernel
theorem dX11_book_79 : decode cX11_book 79 = .ok (.aload_n 0, 1) := by decide +kernel
theorem dX11_book_80 : decode cX11_book 80 = .ok (.iconst 0, 1) := by decide +kernel
theorem dX11_book_81 : decode cX11_book 81 = .ok (.putfield 68, 3) := by decide +kernel
theorem dX11_book_84 : decode cX11_book 84 = .ok (.iconst 0, 1) := by decide +kernel
theorem dX11_book_85 : decode cX11_book 85 = .ok (.istore 8, 2) := by decide +kernel
theorem dX11_book_87 : decode cX11_book 87 = .ok (.iload 8, 2) := by decide +kernel
theorem dX11_book_89 : decode cX11_book 89 = .ok (.iload 6, 2) := by decide +kernel
theorem dX11_book_91 : decode cX11_book 91 = .ok (.if_icmp .ge 179, 3) := by decide +kernel
theorem dX11_book_94 : decode cX11_book 94 = .ok (.aload_n 0, 1) := by decide +kernel
theorem dX11_book_95 : decode cX11_book 95 = .ok (.getfield 68, 3) := by decide +kernel
theorem dX11_book_98 : decode cX11_book 98 = .ok (.ifCond .ne 172, 3) := by decide +kernel
theorem dX11_book_101 : decode cX11_book 101 = .ok (.aload_n 0, 1) := by decide +kernel
theorem dX11_book_102 : decode cX11_book 102 = .ok (.getfield 209, 3) := by decide +kernel
theorem dX11_book_105 : decode cX11_book 105 = .ok (.iload 4, 2) := by decide +kernel
theorem dX11_book_107 : decode cX11_book 107 = .ok (.iaload, 1) := by decide +kernel
theorem dX11_book_108 : decode cX11_book 108 = .ok (.ifCond .ge 11, 3) := by decide +kernel
theorem dX11_book_111 : decode cX11_book 111 = .ok (.aload_n 0, 1) := by decide +kernel
theorem dX11_book_112 : decode cX11_book 112 = .ok (.iconst 1, 1) := by decide +kernel
theorem dX11_book_113 : decode cX11_book 113 = .ok (.putfield 68, 3) := by decide +kernel
theorem dX11_book_116 : decode cX11_book 116 = .ok (.goto 148, 3) := by decide +kernel
theorem dX11_book_119 : decode cX11_book 119 = .ok (.iload 5, 2) := by decide +kernel
theorem dX11_book_121 : decode cX11_book 121 = .ok (.ifCond .lt 18, 3) := by decide +kernel
theorem dX11_book_124 : decode cX11_book 124 = .ok (.iload 5, 2) := by decide +kernel
theorem dX11_book_126 : decode cX11_book 126 = .ok (.aload_n 0, 1) := by decide +kernel
theorem dX11_book_127 : decode cX11_book 127 = .ok (.getfield 212, 3) := by decide +kernel
theorem dX11_book_130 : decode cX11_book 130 = .ok (.iload 4, 2) := by decide +kernel
theorem dX11_book_132 : decode cX11_book 132 = .ok (.iaload, 1) := by decide +kernel
theorem dX11_book_133 : decode cX11_book 133 = .ok (.iload 8, 2) := by decide +kernel
theorem dX11_book_135 : decode cX11_book 135 = .ok (.isub, 1) := by decide +kernel
theorem dX11_book_136 : decode cX11_book 136 = .ok (.if_icmp .lt 11, 3) := by decide +kernel
theorem dX11_book_139 : decode cX11_book 139 = .ok (.aload_n 0, 1) := by decide +kernel
theorem dX11_book_140 : decode cX11_book 140 = .ok (.iconst 2, 1) := by decide +kernel
theorem dX11_book_141 : decode cX11_book 141 = .ok (.putfield 68, 3) := by decide +kernel
theorem dX11_book_144 : decode cX11_book 144 = .ok (.goto 120, 3) := by decide +kernel
theorem dX11_book_147 : decode cX11_book 147 = .ok (.aload_n 0, 1) := by decide +kernel
theorem dX11_book_148 : decode cX11_book 148 = .ok (.getfield 215, 3) := by decide +kernel
theorem dX11_book_151 : decode cX11_book 151 = .ok (.bipush 60, 2) := by decide +kernel
theorem dX11_book_153 : decode cX11_book 153 = .ok (.iload 4, 2) := by decide +kernel
theorem dX11_book_155 : decode cX11_book 155 = .ok (.imul, 1) := by decide +kernel
theorem dX11_book_156 : decode cX11_book 156 = .ok (.iload 5, 2) := by decide +kernel
theorem dX11_book_158 : decode cX11_book 158 = .ok (.iadd, 1) := by decide +kernel
theorem dX11_book_159 : decode cX11_book 159 = .ok (.iload 8, 2) := by decide +kernel
theorem dX11_book_161 : decode cX11_book 161 = .ok (.iadd, 1) := by decide +kernel
theorem dX11_book_162 : decode cX11_book 162 = .ok (.iaload, 1) := by decide +kernel
theorem dX11_book_163 : decode cX11_book 163 = .ok (.ldc_w 298, 3) := by decide +kernel
theorem dX11_book_166 : decode cX11_book 166 = .ok (.if_icmp .eq 98, 3) := by decide +kernel
theorem dX11_book_169 : decode cX11_book 169 = .ok (.aload_n 0, 1) := by decide +kernel
theorem dX11_book_170 : decode cX11_book 170 = .ok (.aload_n 0, 1) := by decide +kernel
theorem dX11_book_171 : decode cX11_book 171 = .ok (.getfield 215, 3) := by decide +kernel
theorem dX11_book_174 : decode cX11_book 174 = .ok (.bipush 60, 2) := by decide +kernel
theorem dX11_book_176 : decode cX11_book 176 = .ok (.iload 4, 2) := by decide +kernel
theorem dX11_book_178 : decode cX11_book 178 = .ok (.imul, 1) := by decide +kernel
theorem dX11_book_179 : decode cX11_book 179 = .ok (.iload 5, 2) := by decide +kernel
theorem dX11_book_181 : decode cX11_book 181 = .ok (.iadd, 1) := by decide +kernel
theorem dX11_book_182 : decode cX11_book 182 = .ok (.iload 8, 2) := by decide +kernel
theorem dX11_book_184 : decode cX11_book 184 = .ok (.iadd, 1) := by decide +kernel
theorem dX11_book_185 : decode cX11_book 185 = .ok (.iaload, 1) := by decide +kernel
theorem dX11_book_186 : decode cX11_book 186 = .ok (.i2l, 1) := by decide +kernel
theorem dX11_book_187 : decode cX11_book 187 = .ok (.ldc2_w 299, 3) := by decide +kernel
theorem dX11_book_190 : decode cX11_book 190 = .ok (.invokevirtual 271, 3) := by decide +kernel
theorem dX11_book_193 : decode cX11_book 193 = .ok (.l2i, 1) := by decide +kernel
theorem dX11_book_194 : decode cX11_book 194 = .ok (.istore 9, 2) := by decide +kernel
theorem dX11_book_196 : decode cX11_book 196 = .ok (.aload_n 0, 1) := by decide +kernel
theorem dX11_book_197 : decode cX11_book 197 = .ok (.iload 9, 2) := by decide +kernel
theorem dX11_book_199 : decode cX11_book 199 = .ok (.invokevirtual 236, 3) := by decide +kernel
theorem dX11_book_202 : decode cX11_book 202 = .ok (.ifCond .ne 11, 3) := by decide +kernel
theorem dX11_book_205 : decode cX11_book 205 = .ok (.aload_n 0, 1) := by decide +kernel
theorem dX11_book_206 : decode cX11_book 206 = .ok (.iconst 3, 1) := by decide +kernel
theorem dX11_book_207 : decode cX11_book 207 = .ok (.putfield 68, 3) := by decide +kernel
theorem dX11_book_210 : decode cX11_book 210 = .ok (.goto 54, 3) := by decide +kernel
theorem dX11_book_213 : decode cX11_book 213 = .ok (.aload_n 0, 1) := by decide +kernel
theorem dX11_book_214 : decode cX11_book 214 = .ok (.getfield 35, 3) := by decide +kernel
theorem dX11_book_217 : decode cX11_book 217 = .ok (.bipush 90, 2) := by decide +kernel
theorem dX11_book_219 : decode cX11_book 219 = .ok (.if_icmp .ne 11, 3) := by decide +kernel
theorem dX11_book_222 : decode cX11_book 222 = .ok (.aload_n 0, 1) := by decide +kernel
theorem dX11_book_223 : decode cX11_book 223 = .ok (.iconst 4, 1) := by decide +kernel
theorem dX11_book_224 : decode cX11_book 224 = .ok (.putfield 68, 3) := by decide +kernel
theorem dX11_book_227 : decode cX11_book 227 = .ok (.goto 37, 3) := by decide +kernel
theorem dX11_book_230 : decode cX11_book 230 = .ok (.aload_n 0, 1) := by decide +kernel
theorem dX11_book_231 : decode cX11_book 231 = .ok (.iconst 3, 1) := by decide +kernel
theorem dX11_book_232 : decode cX11_book 232 = .ok (.iload_n 1, 1) := by decide +kernel
theorem dX11_book_233 : decode cX11_book 233 = .ok (.iload_n 2, 1) := by decide +kernel
theorem dX11_book_234 : decode cX11_book 234 = .ok (.iload 9, 2) := by decide +kernel
theorem dX11_book_236 : decode cX11_book 236 = .ok (.iload_n 3, 1) := by decide +kernel
theorem dX11_book_237 : decode cX11_book 237 = .ok (.iconst 1, 1) := by decide +kernel
theorem dX11_book_238 : decode cX11_book 238 = .ok (.isub, 1) := by decide +kernel
theorem dX11_book_239 : decode cX11_book 239 = .ok (.iload 8, 2) := by decide +kernel
theorem dX11_book_241 : decode cX11_book 241 = .ok (.iadd, 1) := by decide +kernel
theorem dX11_book_242 : decode cX11_book 242 = .ok (.iconst 4, 1) := by decide +kernel
theorem dX11_book_243 : decode cX11_book 243 = .ok (.irem, 1) := by decide +kernel
theorem dX11_book_244 : decode cX11_book 244 = .ok (.iconst 1, 1) := by decide +kernel
theorem dX11_book_245 : decode cX11_book 245 = .ok (.iadd, 1) := by decide +kernel
theorem dX11_book_246 : decode cX11_book 246 = .ok (.iload_n 3, 1) := by decide +kernel
theorem dX11_book_247 : decode cX11_book 247 = .ok (.iconst 1, 1) := by decide +kernel
theorem dX11_book_248 : decode cX11_book 248 = .ok (.isub, 1) := by decide +kernel
theorem dX11_book_249 : decode cX11_book 249 = .ok (.iload 8, 2) := by decide +kernel
theorem dX11_book_251 : decode cX11_book 251 = .ok (.iadd, 1) := by decide +kernel
theorem dX11_book_252 : decode cX11_book 252 = .ok (.iconst 4, 1) := by decide +kernel
theorem dX11_book_253 : decode cX11_book 253 = .ok (.irem, 1) := by decide +kernel
theorem dX11_book_254 : decode cX11_book 254 = .ok (.iconst 1, 1) := by decide +kernel
theorem dX11_book_255 : decode cX11_book 255 = .ok (.iadd, 1) := by decide +kernel
theorem dX11_book_256 : decode cX11_book 256 = .ok (.iconst (-1), 1) := by decide +kernel
theorem dX11_book_257 : decode cX11_book 257 = .ok (.invokevirtual 245, 3) := by decide +kernel
theorem dX11_book_260 : decode cX11_book 260 = .ok (.pop, 1) := by decide +kernel
theorem dX11_book_261 : decode cX11_book 261 = .ok (.iinc 7 1, 3) := by decide +kernel
theorem dX11_book_264 : decode cX11_book 264 = .ok (.iinc 8 1, 3) := by decide +kernel
theorem dX11_book_267 : decode cX11_book 267 = .ok (.goto (-180), 3) := by decide +kernel
theorem dX11_book_270 : decode cX11_book 270 = .ok (.iload 7, 2) := by decide +kernel
theorem dX11_book_272 : decode cX11_book 272 = .ok (.ireturn, 1) := by decide +kernel
theorem oX11_book_0 : OKI 174 0 (.aload_n 0, 1, [0], 0, 0, []) := And.intro dX11_book_0 (And.intro rfl (rfl))
theorem oX11_book_1 : OKI 174 1 (.iload_n 1, 2, [1], 0, 0, []) := And.intro dX11_book_1 (And.intro rfl (rfl))
theorem oX11_book_2 : OKI 174 2 (.invokevirtual 233, 5, [148, 2, 13, 0, 0, 1], 0, 0, []) := And.intro dX11_book_2 (And.intro rfl (And.intro (by decide) (And.intro (by decide) (And.intro mo_X11_isClock (And.intro (tm_6 _ (List.mem_of_getElem? (i := 202) rfl) rfl) (And.intro (tm_6 _ (List.mem_of_getElem? (i := 204) rfl) rfl) (And.intro (pm_3 _ (List.mem_of_getElem? (i := 10) rfl)) (Or.inl ⟨(RX11, TX11, 69), rfl, rfl⟩))))))))
theorem oX11_book_5 : OKI 174 5 (.ifCond .eq 20, 8, [25], 0, 0, []) := And.intro dX11_book_5 (And.intro rfl (by decide))
theorem oX11_book_8 : OKI 174 8 (.aload_n 0, 9, [0], 0, 0, []) := And.intro dX11_book_8 (And.intro rfl (rfl))
theorem oX11_book_9 : OKI 174 9 (.iload_n 2, 10, [2], 0, 0, []) := And.intro dX11_book_9 (And.intro rfl (rfl))
theorem oX11_book_10 : OKI 174 10 (.invokevirtual 239, 13, [152, 2, 13, 0, 0, 1], 0, 0, []) := And.intro dX11_book_10 (And.intro rfl (And.intro (by decide) (And.intro (by decide) (And.intro mo_X11_isHand (And.intro (tm_6 _ (List.mem_of_getElem? (i := 215) rfl) rfl) (And.intro (tm_6 _ (List.mem_of_getElem? (i := 217) rfl) rfl) (And.intro (pm_3 _ (List.mem_of_getElem? (i := 12) rfl)) (Or.inl ⟨(RX11, TX11, 69), rfl, rfl⟩))))))))
theorem oX11_book_13 : OKI 174 13 (.ifCond .eq 12, 16, [25], 0, 0, []) := And.intro dX11_book_13 (And.intro rfl (by decide))
theorem oX11_book_16 : OKI 174 16 (.aload_n 0, 17, [0], 0, 0, []) := And.intro dX11_book_16 (And.intro rfl (rfl))
theorem oX11_book_17 : OKI 174 17 (.iload 4, 19, [4], 0, 0, []) := And.intro dX11_book_17 (And.intro rfl (rfl))
theorem oX11_book_19 : OKI 174 19 (.invokevirtual 295, 22, [241, 2, 13, 0, 0, 1], 0, 0, []) := And.intro dX11_book_19 (And.intro rfl (And.intro (by decide) (And.intro (by decide) (And.intro mo_X11_isTape (And.intro (tm_7 _ (List.mem_of_getElem? (i := 74) rfl) rfl) (And.intro (tm_7 _ (List.mem_of_getElem? (i := 76) rfl) rfl) (And.intro (pm_4 _ (List.mem_of_getElem? (i := 11) rfl)) (Or.inl ⟨(RX11, TX11, 69), rfl, rfl⟩))))))))
theorem oX11_book_22 : OKI 174 22 (.ifCond .ne 5, 25, [27], 0, 0, []) := And.intro dX11_book_22 (And.intro rfl (by decide))
theorem oX11_book_25 : OKI 174 25 (.iconst (-1), 26, [], (-1), 0, []) := And.intro dX11_book_25 (And.intro rfl (by decide +kernel))
theorem oX11_book_26 : OKI 174 26 (.ireturn, 27, [0], 0, 0, []) := And.intro dX11_book_26 (Or.inl (And.intro rfl rfl))
theorem oX11_book_27 : OKI 174 27 (.aload_n 0, 28, [0], 0, 0, []) := And.intro dX11_book_27 (And.intro rfl (rfl))
theorem oX11_book_28 : OKI 174 28 (.iload_n 3, 29, [3], 0, 0, []) := And.intro dX11_book_28 (And.intro rfl (rfl))
theorem oX11_book_29 : OKI 174 29 (.iconst 1, 30, [], 1, 0, []) := And.intro dX11_book_29 (And.intro rfl (by decide +kernel))
theorem oX11_book_30 : OKI 174 30 (.iconst 4, 31, [], 4, 0, []) := And.intro dX11_book_30 (And.intro rfl (by decide +kernel))
theorem oX11_book_31 : OKI 174 31 (.invokevirtual 222, 34, [141, 4, 13, 0, 0, 1], 0, 0, []) := And.intro dX11_book_31 (And.intro rfl (And.intro (by decide) (And.intro (by decide) (And.intro mo_X11_in (And.intro (tm_6 _ (List.mem_of_getElem? (i := 179) rfl) rfl) (And.intro (tm_6 _ (List.mem_of_getElem? (i := 181) rfl) rfl) (And.intro (pm_3 _ (List.mem_of_getElem? (i := 8) rfl)) (Or.inl ⟨(RX11, TX11, 69), rfl, rfl⟩))))))))
theorem oX11_book_34 : OKI 174 34 (.ifCond .eq 15, 37, [49], 0, 0, []) := And.intro dX11_book_34 (And.intro rfl (by decide))
theorem oX11_book_37 : OKI 174 37 (.aload_n 0, 38, [0], 0, 0, []) := And.intro dX11_book_37 (And.intro rfl (rfl))
theorem oX11_book_38 : OKI 174 38 (.iload 6, 40, [6], 0, 0, []) := And.intro dX11_book_38 (And.intro rfl (rfl))
theorem oX11_book_40 : OKI 174 40 (.iconst 1, 41, [], 1, 0, []) := And.intro dX11_book_40 (And.intro rfl (by decide +kernel))
theorem oX11_book_41 : OKI 174 41 (.bipush 40, 43, [], 40, 0, []) := And.intro dX11_book_41 (And.intro rfl (by decide +kernel))
theorem oX11_book_43 : OKI 174 43 (.invokevirtual 222, 46, [141, 4, 13, 0, 0, 1], 0, 0, []) := And.intro dX11_book_43 (And.intro rfl (And.intro (by decide) (And.intro (by decide) (And.intro mo_X11_in (And.intro (tm_6 _ (List.mem_of_getElem? (i := 179) rfl) rfl) (And.intro (tm_6 _ (List.mem_of_getElem? (i := 181) rfl) rfl) (And.intro (pm_3 _ (List.mem_of_getElem? (i := 8) rfl)) (Or.inl ⟨(RX11, TX11, 69), rfl, rfl⟩))))))))
theorem oX11_book_46 : OKI 174 46 (.ifCond .ne 6, 49, [52], 0, 0, []) := And.intro dX11_book_46 (And.intro rfl (by decide))
theorem oX11_book_49 : OKI 174 49 (.bipush (-2), 51, [], (-2), 0, []) := And.intro dX11_book_49 (And.intro rfl (by decide +kernel))
theorem oX11_book_51 : OKI 174 51 (.ireturn, 52, [0], 0, 0, []) := And.intro dX11_book_51 (Or.inl (And.intro rfl rfl))
theorem oX11_book_52 : OKI 174 52 (.aload_n 0, 53, [0], 0, 0, []) := And.intro dX11_book_52 (And.intro rfl (rfl))
theorem oX11_book_53 : OKI 174 53 (.getfield 209, 56, [12, 65, 2, 151, 0], 0, 0, []) := And.intro dX11_book_53 (And.intro rfl (⟨(RX11, TX11, 69), "SpotTimersModel", rfl, by decide, tm_6 _ (List.mem_of_getElem? (i := 31) rfl) rfl, Or.inl rfl, rfl, rfl⟩))
theorem oX11_book_56 : OKI 174 56 (.iload 4, 58, [4], 0, 0, []) := And.intro dX11_book_56 (And.intro rfl (rfl))
theorem oX11_book_58 : OKI 174 58 (.iaload, 59, [], 0, 0, []) := And.intro dX11_book_58 rfl
theorem oX11_book_59 : OKI 174 59 (.ifCond .lt 17, 62, [76], 0, 0, []) := And.intro dX11_book_59 (And.intro rfl (by decide))
theorem oX11_book_62 : OKI 174 62 (.aload_n 0, 63, [0], 0, 0, []) := And.intro dX11_book_62 (And.intro rfl (rfl))
theorem oX11_book_63 : OKI 174 63 (.getfield 209, 66, [12, 65, 2, 151, 0], 0, 0, []) := And.intro dX11_book_63 (And.intro rfl (⟨(RX11, TX11, 69), "SpotTimersModel", rfl, by decide, tm_6 _ (List.mem_of_getElem? (i := 31) rfl) rfl, Or.inl rfl, rfl, rfl⟩))
theorem oX11_book_66 : OKI 174 66 (.iload 4, 68, [4], 0, 0, []) := And.intro dX11_book_66 (And.intro rfl (rfl))
theorem oX11_book_68 : OKI 174 68 (.iaload, 69, [], 0, 0, []) := And.intro dX11_book_68 rfl
theorem oX11_book_69 : OKI 174 69 (.iconst 3, 70, [], 3, 0, []) := And.intro dX11_book_69 (And.intro rfl (by decide +kernel))
theorem oX11_book_70 : OKI 174 70 (.if_icmp .eq 6, 73, [76], 0, 0, []) := And.intro dX11_book_70 (And.intro rfl (by decide))
theorem oX11_book_73 : OKI 174 73 (.bipush (-12), 75, [], (-12), 0, []) := And.intro dX11_book_73 (And.intro rfl (by decide +kernel))
theorem oX11_book_75 : OKI 174 75 (.ireturn, 76, [0], 0, 0, []) := And.intro dX11_book_75 (Or.inl (And.intro rfl rfl))
theorem oX11_book_76 : OKI 174 76 (.iconst 0, 77, [], 0, 0, []) := And.intro dX11_book_76 (And.intro rfl (by decide +kernel))
theorem oX11_book_77 : OKI 174 77 (.istore 7, 79, [7], 0, 0, []) := And.intro dX11_book_77 (And.intro rfl (And.intro rfl (by decide)))
theorem oX11_book_79 : OKI 174 79 (.aload_n 0, 80, [0], 0, 0, []) := And.intro dX11_book_79 (And.intro rfl (rfl))
theorem oX11_book_80 : OKI 174 80 (.iconst 0, 81, [], 0, 0, []) := And.intro dX11_book_80 (And.intro rfl (by decide +kernel))
theorem oX11_book_81 : OKI 174 81 (.putfield 68, 84, [12, 19, 0], 0, 0, []) := And.intro dX11_book_81 (And.intro rfl (⟨(RX11, TX11, 69), "SpotTimersModel", rfl, by decide, tm_5 _ (List.mem_of_getElem? (i := 225) rfl) rfl, Or.inl rfl, Or.inl rfl, rfl⟩))
theorem oX11_book_84 : OKI 174 84 (.iconst 0, 85, [], 0, 0, []) := And.intro dX11_book_84 (And.intro rfl (by decide +kernel))
theorem oX11_book_85 : OKI 174 85 (.istore 8, 87, [8], 0, 0, []) := And.intro dX11_book_85 (And.intro rfl (And.intro rfl (by decide)))
theorem oX11_book_87 : OKI 174 87 (.iload 8, 89, [8], 0, 0, []) := And.intro dX11_book_87 (And.intro rfl (rfl))
theorem oX11_book_89 : OKI 174 89 (.iload 6, 91, [6], 0, 0, []) := And.intro dX11_book_89 (And.intro rfl (rfl))
theorem oX11_book_91 : OKI 174 91 (.if_icmp .ge 179, 94, [270], 0, 0, []) := And.intro dX11_book_91 (And.intro rfl (by decide))
theorem oX11_book_94 : OKI 174 94 (.aload_n 0, 95, [0], 0, 0, []) := And.intro dX11_book_94 (And.intro rfl (rfl))
theorem oX11_book_95 : OKI 174 95 (.getfield 68, 98, [12, 19, 0], 0, 0, []) := And.intro dX11_book_95 (And.intro rfl (⟨(RX11, TX11, 69), "SpotTimersModel", rfl, by decide, tm_5 _ (List.mem_of_getElem? (i := 225) rfl) rfl, Or.inl rfl, Or.inr (Or.inr (And.intro rfl (Or.inl rfl)))⟩))
theorem oX11_book_98 : OKI 174 98 (.ifCond .ne 172, 101, [270], 0, 0, []) := And.intro dX11_book_98 (And.intro rfl (by decide))
theorem oX11_book_101 : OKI 174 101 (.aload_n 0, 102, [0], 0, 0, []) := And.intro dX11_book_101 (And.intro rfl (rfl))
theorem oX11_book_102 : OKI 174 102 (.getfield 209, 105, [12, 65, 2, 151, 0], 0, 0, []) := And.intro dX11_book_102 (And.intro rfl (⟨(RX11, TX11, 69), "SpotTimersModel", rfl, by decide, tm_6 _ (List.mem_of_getElem? (i := 31) rfl) rfl, Or.inl rfl, rfl, rfl⟩))
theorem oX11_book_105 : OKI 174 105 (.iload 4, 107, [4], 0, 0, []) := And.intro dX11_book_105 (And.intro rfl (rfl))
theorem oX11_book_107 : OKI 174 107 (.iaload, 108, [], 0, 0, []) := And.intro dX11_book_107 rfl
theorem oX11_book_108 : OKI 174 108 (.ifCond .ge 11, 111, [119], 0, 0, []) := And.intro dX11_book_108 (And.intro rfl (by decide))
theorem oX11_book_111 : OKI 174 111 (.aload_n 0, 112, [0], 0, 0, []) := And.intro dX11_book_111 (And.intro rfl (rfl))
theorem oX11_book_112 : OKI 174 112 (.iconst 1, 113, [], 1, 0, []) := And.intro dX11_book_112 (And.intro rfl (by decide +kernel))
theorem oX11_book_113 : OKI 174 113 (.putfield 68, 116, [12, 19, 0], 0, 0, []) := And.intro dX11_book_113 (And.intro rfl (⟨(RX11, TX11, 69), "SpotTimersModel", rfl, by decide, tm_5 _ (List.mem_of_getElem? (i := 225) rfl) rfl, Or.inl rfl, Or.inl rfl, rfl⟩))
theorem oX11_book_116 : OKI 174 116 (.goto 148, 119, [264], 0, 0, []) := And.intro dX11_book_116 (And.intro rfl (by decide))
theorem oX11_book_119 : OKI 174 119 (.iload 5, 121, [5], 0, 0, []) := And.intro dX11_book_119 (And.intro rfl (rfl))
theorem oX11_book_121 : OKI 174 121 (.ifCond .lt 18, 124, [139], 0, 0, []) := And.intro dX11_book_121 (And.intro rfl (by decide))
theorem oX11_book_124 : OKI 174 124 (.iload 5, 126, [5], 0, 0, []) := And.intro dX11_book_124 (And.intro rfl (rfl))
theorem oX11_book_126 : OKI 174 126 (.aload_n 0, 127, [0], 0, 0, []) := And.intro dX11_book_126 (And.intro rfl (rfl))
theorem oX11_book_127 : OKI 174 127 (.getfield 212, 130, [12, 66, 2, 152, 0], 0, 0, []) := And.intro dX11_book_127 (And.intro rfl (⟨(RX11, TX11, 69), "SpotTimersModel", rfl, by decide, tm_6 _ (List.mem_of_getElem? (i := 32) rfl) rfl, Or.inl rfl, rfl, rfl⟩))
theorem oX11_book_130 : OKI 174 130 (.iload 4, 132, [4], 0, 0, []) := And.intro dX11_book_130 (And.intro rfl (rfl))
theorem oX11_book_132 : OKI 174 132 (.iaload, 133, [], 0, 0, []) := And.intro dX11_book_132 rfl
theorem oX11_book_133 : OKI 174 133 (.iload 8, 135, [8], 0, 0, []) := And.intro dX11_book_133 (And.intro rfl (rfl))
theorem oX11_book_135 : OKI 174 135 (.isub, 136, [], 0, 0, []) := And.intro dX11_book_135 rfl
theorem oX11_book_136 : OKI 174 136 (.if_icmp .lt 11, 139, [147], 0, 0, []) := And.intro dX11_book_136 (And.intro rfl (by decide))
theorem oX11_book_139 : OKI 174 139 (.aload_n 0, 140, [0], 0, 0, []) := And.intro dX11_book_139 (And.intro rfl (rfl))
theorem oX11_book_140 : OKI 174 140 (.iconst 2, 141, [], 2, 0, []) := And.intro dX11_book_140 (And.intro rfl (by decide +kernel))
theorem oX11_book_141 : OKI 174 141 (.putfield 68, 144, [12, 19, 0], 0, 0, []) := And.intro dX11_book_141 (And.intro rfl (⟨(RX11, TX11, 69), "SpotTimersModel", rfl, by decide, tm_5 _ (List.mem_of_getElem? (i := 225) rfl) rfl, Or.inl rfl, Or.inl rfl, rfl⟩))
theorem oX11_book_144 : OKI 174 144 (.goto 120, 147, [264], 0, 0, []) := And.intro dX11_book_144 (And.intro rfl (by decide))
theorem oX11_book_147 : OKI 174 147 (.aload_n 0, 148, [0], 0, 0, []) := And.intro dX11_book_147 (And.intro rfl (rfl))
theorem oX11_book_148 : OKI 174 148 (.getfield 215, 151, [12, 67, 2, 153, 0], 0, 0, []) := And.intro dX11_book_148 (And.intro rfl (⟨(RX11, TX11, 69), "SpotTimersModel", rfl, by decide, tm_6 _ (List.mem_of_getElem? (i := 33) rfl) rfl, Or.inl rfl, rfl, rfl⟩))
theorem oX11_book_151 : OKI 174 151 (.bipush 60, 153, [], 60, 0, []) := And.intro dX11_book_151 (And.intro rfl (by decide +kernel))
theorem oX11_book_153 : OKI 174 153 (.iload 4, 155, [4], 0, 0, []) := And.intro dX11_book_153 (And.intro rfl (rfl))
theorem oX11_book_155 : OKI 174 155 (.imul, 156, [], 0, 0, []) := And.intro dX11_book_155 rfl
theorem oX11_book_156 : OKI 174 156 (.iload 5, 158, [5], 0, 0, []) := And.intro dX11_book_156 (And.intro rfl (rfl))
theorem oX11_book_158 : OKI 174 158 (.iadd, 159, [], 0, 0, []) := And.intro dX11_book_158 rfl
theorem oX11_book_159 : OKI 174 159 (.iload 8, 161, [8], 0, 0, []) := And.intro dX11_book_159 (And.intro rfl (rfl))
theorem oX11_book_161 : OKI 174 161 (.iadd, 162, [], 0, 0, []) := And.intro dX11_book_161 rfl
theorem oX11_book_162 : OKI 174 162 (.iaload, 163, [], 0, 0, []) := And.intro dX11_book_162 rfl
theorem oX11_book_163 : OKI 174 163 (.ldc_w 298, 166, [], 999999999, 0, []) := And.intro dX11_book_163 (And.intro rfl (tm_7 _ (List.mem_of_getElem? (i := 78) rfl) rfl))
theorem oX11_book_166 : OKI 174 166 (.if_icmp .eq 98, 169, [264], 0, 0, []) := And.intro dX11_book_166 (And.intro rfl (by decide))
theorem oX11_book_169 : OKI 174 169 (.aload_n 0, 170, [0], 0, 0, []) := And.intro dX11_book_169 (And.intro rfl (rfl))
theorem oX11_book_170 : OKI 174 170 (.aload_n 0, 171, [0], 0, 0, []) := And.intro dX11_book_170 (And.intro rfl (rfl))
theorem oX11_book_171 : OKI 174 171 (.getfield 215, 174, [12, 67, 2, 153, 0], 0, 0, []) := And.intro dX11_book_171 (And.intro rfl (⟨(RX11, TX11, 69), "SpotTimersModel", rfl, by decide, tm_6 _ (List.mem_of_getElem? (i := 33) rfl) rfl, Or.inl rfl, rfl, rfl⟩))
theorem oX11_book_174 : OKI 174 174 (.bipush 60, 176, [], 60, 0, []) := And.intro dX11_book_174 (And.intro rfl (by decide +kernel))
theorem oX11_book_176 : OKI 174 176 (.iload 4, 178, [4], 0, 0, []) := And.intro dX11_book_176 (And.intro rfl (rfl))
theorem oX11_book_178 : OKI 174 178 (.imul, 179, [], 0, 0, []) := And.intro dX11_book_178 rfl
theorem oX11_book_179 : OKI 174 179 (.iload 5, 181, [5], 0, 0, []) := And.intro dX11_book_179 (And.intro rfl (rfl))
theorem oX11_book_181 : OKI 174 181 (.iadd, 182, [], 0, 0, []) := And.intro dX11_book_181 rfl
theorem oX11_book_182 : OKI 174 182 (.iload 8, 184, [8], 0, 0, []) := And.intro dX11_book_182 (And.intro rfl (rfl))
theorem oX11_book_184 : OKI 174 184 (.iadd, 185, [], 0, 0, []) := And.intro dX11_book_184 rfl
theorem oX11_book_185 : OKI 174 185 (.iaload, 186, [], 0, 0, []) := And.intro dX11_book_185 rfl
theorem oX11_book_186 : OKI 174 186 (.i2l, 187, [], 0, 0, []) := And.intro dX11_book_186 rfl
theorem oX11_book_187 : OKI 174 187 (.ldc2_w 299, 190, [], 0, 8, []) := And.intro dX11_book_187 (And.intro rfl (tm_7 _ (List.mem_of_getElem? (i := 79) rfl) rfl))
theorem oX11_book_190 : OKI 174 190 (.invokevirtual 271, 193, [144, 3, 13, 0, 0, 2], 0, 0, []) := And.intro dX11_book_190 (And.intro rfl (And.intro (by decide) (And.intro (by decide) (And.intro mo_X11_down (And.intro (tm_7 _ (List.mem_of_getElem? (i := 36) rfl) rfl) (And.intro (tm_7 _ (List.mem_of_getElem? (i := 38) rfl) rfl) (And.intro (pm_4 _ (List.mem_of_getElem? (i := 6) rfl)) (Or.inl ⟨(RX11, TX11, 69), rfl, rfl⟩))))))))
theorem oX11_book_193 : OKI 174 193 (.l2i, 194, [], 0, 0, []) := And.intro dX11_book_193 rfl
theorem oX11_book_194 : OKI 174 194 (.istore 9, 196, [9], 0, 0, []) := And.intro dX11_book_194 (And.intro rfl (And.intro rfl (by decide)))
theorem oX11_book_196 : OKI 174 196 (.aload_n 0, 197, [0], 0, 0, []) := And.intro dX11_book_196 (And.intro rfl (rfl))
theorem oX11_book_197 : OKI 174 197 (.iload 9, 199, [9], 0, 0, []) := And.intro dX11_book_197 (And.intro rfl (rfl))
theorem oX11_book_199 : OKI 174 199 (.invokevirtual 236, 202, [142, 2, 13, 0, 0, 1], 0, 0, []) := And.intro dX11_book_199 (And.intro rfl (And.intro (by decide) (And.intro (by decide) (And.intro mo_X11_isTime (And.intro (tm_6 _ (List.mem_of_getElem? (i := 206) rfl) rfl) (And.intro (tm_6 _ (List.mem_of_getElem? (i := 208) rfl) rfl) (And.intro (pm_3 _ (List.mem_of_getElem? (i := 11) rfl)) (Or.inl ⟨(RX11, TX11, 69), rfl, rfl⟩))))))))
theorem oX11_book_202 : OKI 174 202 (.ifCond .ne 11, 205, [213], 0, 0, []) := And.intro dX11_book_202 (And.intro rfl (by decide))
theorem oX11_book_205 : OKI 174 205 (.aload_n 0, 206, [0], 0, 0, []) := And.intro dX11_book_205 (And.intro rfl (rfl))
theorem oX11_book_206 : OKI 174 206 (.iconst 3, 207, [], 3, 0, []) := And.intro dX11_book_206 (And.intro rfl (by decide +kernel))
theorem oX11_book_207 : OKI 174 207 (.putfield 68, 210, [12, 19, 0], 0, 0, []) := And.intro dX11_book_207 (And.intro rfl (⟨(RX11, TX11, 69), "SpotTimersModel", rfl, by decide, tm_5 _ (List.mem_of_getElem? (i := 225) rfl) rfl, Or.inl rfl, Or.inl rfl, rfl⟩))
theorem oX11_book_210 : OKI 174 210 (.goto 54, 213, [264], 0, 0, []) := And.intro dX11_book_210 (And.intro rfl (by decide))
theorem oX11_book_213 : OKI 174 213 (.aload_n 0, 214, [0], 0, 0, []) := And.intro dX11_book_213 (And.intro rfl (rfl))
theorem oX11_book_214 : OKI 174 214 (.getfield 35, 217, [12, 8, 0], 0, 0, []) := And.intro dX11_book_214 (And.intro rfl (⟨(RX11, TX11, 69), "SpotTimersModel", rfl, by decide, tm_5 _ (List.mem_of_getElem? (i := 214) rfl) rfl, Or.inl rfl, Or.inr (Or.inr (And.intro rfl (Or.inl rfl)))⟩))
theorem oX11_book_217 : OKI 174 217 (.bipush 90, 219, [], 90, 0, []) := And.intro dX11_book_217 (And.intro rfl (by decide +kernel))
theorem oX11_book_219 : OKI 174 219 (.if_icmp .ne 11, 222, [230], 0, 0, []) := And.intro dX11_book_219 (And.intro rfl (by decide))
theorem oX11_book_222 : OKI 174 222 (.aload_n 0, 223, [0], 0, 0, []) := And.intro dX11_book_222 (And.intro rfl (rfl))
theorem oX11_book_223 : OKI 174 223 (.iconst 4, 224, [], 4, 0, []) := And.intro dX11_book_223 (And.intro rfl (by decide +kernel))
theorem oX11_book_224 : OKI 174 224 (.putfield 68, 227, [12, 19, 0], 0, 0, []) := And.intro dX11_book_224 (And.intro rfl (⟨(RX11, TX11, 69), "SpotTimersModel", rfl, by decide, tm_5 _ (List.mem_of_getElem? (i := 225) rfl) rfl, Or.inl rfl, Or.inl rfl, rfl⟩))
theorem oX11_book_227 : OKI 174 227 (.goto 37, 230, [264], 0, 0, []) := And.intro dX11_book_227 (And.intro rfl (by decide))
theorem oX11_book_230 : OKI 174 230 (.aload_n 0, 231, [0], 0, 0, []) := And.intro dX11_book_230 (And.intro rfl (rfl))
theorem oX11_book_231 : OKI 174 231 (.iconst 3, 232, [], 3, 0, []) := And.intro dX11_book_231 (And.intro rfl (by decide +kernel))
theorem oX11_book_232 : OKI 174 232 (.iload_n 1, 233, [1], 0, 0, []) := And.intro dX11_book_232 (And.intro rfl (rfl))
theorem oX11_book_233 : OKI 174 233 (.iload_n 2, 234, [2], 0, 0, []) := And.intro dX11_book_233 (And.intro rfl (rfl))
theorem oX11_book_234 : OKI 174 234 (.iload 9, 236, [9], 0, 0, []) := And.intro dX11_book_234 (And.intro rfl (rfl))
theorem oX11_book_236 : OKI 174 236 (.iload_n 3, 237, [3], 0, 0, []) := And.intro dX11_book_236 (And.intro rfl (rfl))
theorem oX11_book_237 : OKI 174 237 (.iconst 1, 238, [], 1, 0, []) := And.intro dX11_book_237 (And.intro rfl (by decide +kernel))
theorem oX11_book_238 : OKI 174 238 (.isub, 239, [], 0, 0, []) := And.intro dX11_book_238 rfl
theorem oX11_book_239 : OKI 174 239 (.iload 8, 241, [8], 0, 0, []) := And.intro dX11_book_239 (And.intro rfl (rfl))
theorem oX11_book_241 : OKI 174 241 (.iadd, 242, [], 0, 0, []) := And.intro dX11_book_241 rfl
theorem oX11_book_242 : OKI 174 242 (.iconst 4, 243, [], 4, 0, []) := And.intro dX11_book_242 (And.intro rfl (by decide +kernel))
theorem oX11_book_243 : OKI 174 243 (.irem, 244, [], 0, 0, []) := And.intro dX11_book_243 rfl
theorem oX11_book_244 : OKI 174 244 (.iconst 1, 245, [], 1, 0, []) := And.intro dX11_book_244 (And.intro rfl (by decide +kernel))
theorem oX11_book_245 : OKI 174 245 (.iadd, 246, [], 0, 0, []) := And.intro dX11_book_245 rfl
theorem oX11_book_246 : OKI 174 246 (.iload_n 3, 247, [3], 0, 0, []) := And.intro dX11_book_246 (And.intro rfl (rfl))
theorem oX11_book_247 : OKI 174 247 (.iconst 1, 248, [], 1, 0, []) := And.intro dX11_book_247 (And.intro rfl (by decide +kernel))
theorem oX11_book_248 : OKI 174 248 (.isub, 249, [], 0, 0, []) := And.intro dX11_book_248 rfl
theorem oX11_book_249 : OKI 174 249 (.iload 8, 251, [8], 0, 0, []) := And.intro dX11_book_249 (And.intro rfl (rfl))
theorem oX11_book_251 : OKI 174 251 (.iadd, 252, [], 0, 0, []) := And.intro dX11_book_251 rfl
theorem oX11_book_252 : OKI 174 252 (.iconst 4, 253, [], 4, 0, []) := And.intro dX11_book_252 (And.intro rfl (by decide +kernel))
theorem oX11_book_253 : OKI 174 253 (.irem, 254, [], 0, 0, []) := And.intro dX11_book_253 rfl
theorem oX11_book_254 : OKI 174 254 (.iconst 1, 255, [], 1, 0, []) := And.intro dX11_book_254 (And.intro rfl (by decide +kernel))
theorem oX11_book_255 : OKI 174 255 (.iadd, 256, [], 0, 0, []) := And.intro dX11_book_255 rfl
theorem oX11_book_256 : OKI 174 256 (.iconst (-1), 257, [], (-1), 0, []) := And.intro dX11_book_256 (And.intro rfl (by decide +kernel))
theorem oX11_book_257 : OKI 174 257 (.invokevirtual 245, 260, [154, 8, 13, 0, 0, 1], 0, 0, []) := And.intro dX11_book_257 (And.intro rfl (And.intro (by decide) (And.intro (by decide) (And.intro mo_X11_add (And.intro (tm_6 _ (List.mem_of_getElem? (i := 223) rfl) rfl) (And.intro (tm_6 _ (List.mem_of_getElem? (i := 225) rfl) rfl) (And.intro (pm_3 _ (List.mem_of_getElem? (i := 14) rfl)) (Or.inl ⟨(RX11, TX11, 69), rfl, rfl⟩))))))))
theorem oX11_book_260 : OKI 174 260 (.pop, 261, [], 0, 0, []) := And.intro dX11_book_260 rfl
theorem oX11_book_261 : OKI 174 261 (.iinc 7 1, 264, [7], 1, 0, []) := And.intro dX11_book_261 (And.intro rfl (And.intro rfl (And.intro (by decide +kernel) (by decide))))
theorem oX11_book_264 : OKI 174 264 (.iinc 8 1, 267, [8], 1, 0, []) := And.intro dX11_book_264 (And.intro rfl (And.intro rfl (And.intro (by decide +kernel) (by decide))))
theorem oX11_book_267 : OKI 174 267 (.goto (-180), 270, [87], 0, 0, []) := And.intro dX11_book_267 (And.intro rfl (by decide))
theorem oX11_book_270 : OKI 174 270 (.iload 7, 272, [7], 0, 0, []) := And.intro dX11_book_270 (And.intro rfl (rfl))
theorem oX11_book_272 : OKI 174 272 (.ireturn, 273, [0], 0, 0, []) := And.intro dX11_book_272 (Or.inl (And.intro rfl rfl))
def pfX11_book (pc : Nat) : Option XE := (bif Nat.blt pc 144 then (bif Nat.blt pc 70 then (bif Nat.blt pc 34 then (bif Nat.blt pc 17 then (bif Nat.blt pc 8 then (bif Nat.blt pc 2 then (bif Nat.blt pc 1 then (bif Nat.beq pc 0 then some (.aload_n 0, 1, [0], 0, 0, []) else none) else (bif Nat.beq pc 1 then some (.iload_n 1, 2, [1], 0, 0, []) else none)) else (bif Nat.blt pc 5 then (bif Nat.beq pc 2 then some (.invokevirtual 233, 5, [148, 2, 13, 0, 0, 1], 0, 0, []) else none) else (bif Nat.beq pc 5 then some (.ifCond .eq 20, 8, [25], 0, 0, []) else none))) else (bif Nat.blt pc 10 then (bif Nat.blt pc 9 then (bif Nat.beq pc 8 then some (.aload_n 0, 9, [0], 0, 0, []) else none) else (bif Nat.beq pc 9 then some (.iload_n 2, 10, [2], 0, 0, []) else none)) else (bif Nat.blt pc 13 then (bif Nat.beq pc 10 then some (.invokevirtual 239, 13, [152, 2, 13, 0, 0, 1], 0, 0, []) else none) else (bif Nat.blt pc 16 then (bif Nat.beq pc 13 then some (.ifCond .eq 12, 16, [25], 0, 0, []) else none) else (bif Nat.beq pc 16 then some (.aload_n 0, 17, [0], 0, 0, []) else none))))) else (bif Nat.blt pc 27 then (bif Nat.blt pc 22 then (bif Nat.blt pc 19 then (bif Nat.beq pc 17 then some (.iload 4, 19, [4], 0, 0, []) else none) else (bif Nat.beq pc 19 then some (.invokevirtual 295, 22, [241, 2, 13, 0, 0, 1], 0, 0, []) else none)) else (bif Nat.blt pc 25 then (bif Nat.beq pc 22 then some (.ifCond .ne 5, 25, [27], 0, 0, []) else none) else (bif Nat.blt pc 26 then (bif Nat.beq pc 25 then some (.iconst (-1), 26, [], (-1), 0, []) else none) else (bif Nat.beq pc 26 then some (.ireturn, 27, [0], 0, 0, []) else none)))) else (bif Nat.blt pc 29 then (bif Nat.blt pc 28 then (bif Nat.beq pc 27 then some (.aload_n 0, 28, [0], 0, 0, []) else none) else (bif Nat.beq pc 28 then some (.iload_n 3, 29, [3], 0, 0, []) else none)) else (bif Nat.blt pc 30 then (bif Nat.beq pc 29 then some (.iconst 1, 30, [], 1, 0, []) else none) else (bif Nat.blt pc 31 then (bif Nat.beq pc 30 then some (.iconst 4, 31, [], 4, 0, []) else none) else (bif Nat.beq pc 31 then some (.invokevirtual 222, 34, [141, 4, 13, 0, 0, 1], 0, 0, []) else none)))))) else (bif Nat.blt pc 52 then (bif Nat.blt pc 41 then (bif Nat.blt pc 38 then (bif Nat.blt pc 37 then (bif Nat.beq pc 34 then some (.ifCond .eq 15, 37, [49], 0, 0, []) else none) else (bif Nat.beq pc 37 then some (.aload_n 0, 38, [0], 0, 0, []) else none)) else (bif Nat.blt pc 40 then (bif Nat.beq pc 38 then some (.iload 6, 40, [6], 0, 0, []) else none) else (bif Nat.beq pc 40 then some (.iconst 1, 41, [], 1, 0, []) else none))) else (bif Nat.blt pc 46 then (bif Nat.blt pc 43 then (bif Nat.beq pc 41 then some (.bipush 40, 43, [], 40, 0, []) else none) else (bif Nat.beq pc 43 then some (.invokevirtual 222, 46, [141, 4, 13, 0, 0, 1], 0, 0, []) else none)) else (bif Nat.blt pc 49 then (bif Nat.beq pc 46 then some (.ifCond .ne 6, 49, [52], 0, 0, []) else none) else (bif Nat.blt pc 51 then (bif Nat.beq pc 49 then some (.bipush (-2), 51, [], (-2), 0, []) else none) else (bif Nat.beq pc 51 then some (.ireturn, 52, [0], 0, 0, []) else none))))) else (bif Nat.blt pc 62 then (bif Nat.blt pc 56 then (bif Nat.blt pc 53 then (bif Nat.beq pc 52 then some (.aload_n 0, 53, [0], 0, 0, []) else none) else (bif Nat.beq pc 53 then some (.getfield 209, 56, [12, 65, 2, 151, 0], 0, 0, []) else none)) else (bif Nat.blt pc 58 then (bif Nat.beq pc 56 then some (.iload 4, 58, [4], 0, 0, []) else none) else (bif Nat.blt pc 59 then (bif Nat.beq pc 58 then some (.iaload, 59, [], 0, 0, []) else none) else (bif Nat.beq pc 59 then some (.ifCond .lt 17, 62, [76], 0, 0, []) else none)))) else (bif Nat.blt pc 66 then (bif Nat.blt pc 63 then (bif Nat.beq pc 62 then some (.aload_n 0, 63, [0], 0, 0, []) else none) else (bif Nat.beq pc 63 then some (.getfield 209, 66, [12, 65, 2, 151, 0], 0, 0, []) else none)) else (bif Nat.blt pc 68 then (bif Nat.beq pc 66 then some (.iload 4, 68, [4], 0, 0, []) else none) else (bif Nat.blt pc 69 then (bif Nat.beq pc 68 then some (.iaload, 69, [], 0, 0, []) else none) else (bif Nat.beq pc 69 then some (.iconst 3, 70, [], 3, 0, []) else none))))))) else (bif Nat.blt pc 107 then (bif Nat.blt pc 85 then (bif Nat.blt pc 77 then (bif Nat.blt pc 75 then (bif Nat.blt pc 73 then (bif Nat.beq pc 70 then some (.if_icmp .eq 6, 73, [76], 0, 0, []) else none) else (bif Nat.beq pc 73 then some (.bipush (-12), 75, [], (-12), 0, []) else none)) else (bif Nat.blt pc 76 then (bif Nat.beq pc 75 then some (.ireturn, 76, [0], 0, 0, []) else none) else (bif Nat.beq pc 76 then some (.iconst 0, 77, [], 0, 0, []) else none))) else (bif Nat.blt pc 80 then (bif Nat.blt pc 79 then (bif Nat.beq pc 77 then some (.istore 7, 79, [7], 0, 0, []) else none) else (bif Nat.beq pc 79 then some (.aload_n 0, 80, [0], 0, 0, []) else none)) else (bif Nat.blt pc 81 then (bif Nat.beq pc 80 then some (.iconst 0, 81, [], 0, 0, []) else none) else (bif Nat.blt pc 84 then (bif Nat.beq pc 81 then some (.putfield 68, 84, [12, 19, 0], 0, 0, []) else none) else (bif Nat.beq pc 84 then some (.iconst 0, 85, [], 0, 0, []) else none))))) else (bif Nat.blt pc 95 then (bif Nat.blt pc 89 then (bif Nat.blt pc 87 then (bif Nat.beq pc 85 then some (.istore 8, 87, [8], 0, 0, []) else none) else (bif Nat.beq pc 87 then some (.iload 8, 89, [8], 0, 0, []) else none)) else (bif Nat.blt pc 91 then (bif Nat.beq pc 89 then some (.iload 6, 91, [6], 0, 0, []) else none) else (bif Nat.blt pc 94 then (bif Nat.beq pc 91 then some (.if_icmp .ge 179, 94, [270], 0, 0, []) else none) else (bif Nat.beq pc 94 then some (.aload_n 0, 95, [0], 0, 0, []) else none)))) else (bif Nat.blt pc 101 then (bif Nat.blt pc 98 then (bif Nat.beq pc 95 then some (.getfield 68, 98, [12, 19, 0], 0, 0, []) else none) else (bif Nat.beq pc 98 then some (.ifCond .ne 172, 101, [270], 0, 0, []) else none)) else (bif Nat.blt pc 102 then (bif Nat.beq pc 101 then some (.aload_n 0, 102, [0], 0, 0, []) else none) else (bif Nat.blt pc 105 then (bif Nat.beq pc 102 then some (.getfield 209, 105, [12, 65, 2, 151, 0], 0, 0, []) else none) else (bif Nat.beq pc 105 then some (.iload 4, 107, [4], 0, 0, []) else none)))))) else (bif Nat.blt pc 126 then (bif Nat.blt pc 113 then (bif Nat.blt pc 111 then (bif Nat.blt pc 108 then (bif Nat.beq pc 107 then some (.iaload, 108, [], 0, 0, []) else none) else (bif Nat.beq pc 108 then some (.ifCond .ge 11, 111, [119], 0, 0, []) else none)) else (bif Nat.blt pc 112 then (bif Nat.beq pc 111 then some (.aload_n 0, 112, [0], 0, 0, []) else none) else (bif Nat.beq pc 112 then some (.iconst 1, 113, [], 1, 0, []) else none))) else (bif Nat.blt pc 119 then (bif Nat.blt pc 116 then (bif Nat.beq pc 113 then some (.putfield 68, 116, [12, 19, 0], 0, 0, []) else none) else (bif Nat.beq pc 116 then some (.goto 148, 119, [264], 0, 0, []) else none)) else (bif Nat.blt pc 121 then (bif Nat.beq pc 119 then some (.iload 5, 121, [5], 0, 0, []) else none) else (bif Nat.blt pc 124 then (bif Nat.beq pc 121 then some (.ifCond .lt 18, 124, [139], 0, 0, []) else none) else (bif Nat.beq pc 124 then some (.iload 5, 126, [5], 0, 0, []) else none))))) else (bif Nat.blt pc 135 then (bif Nat.blt pc 130 then (bif Nat.blt pc 127 then (bif Nat.beq pc 126 then some (.aload_n 0, 127, [0], 0, 0, []) else none) else (bif Nat.beq pc 127 then some (.getfield 212, 130, [12, 66, 2, 152, 0], 0, 0, []) else none)) else (bif Nat.blt pc 132 then (bif Nat.beq pc 130 then some (.iload 4, 132, [4], 0, 0, []) else none) else (bif Nat.blt pc 133 then (bif Nat.beq pc 132 then some (.iaload, 133, [], 0, 0, []) else none) else (bif Nat.beq pc 133 then some (.iload 8, 135, [8], 0, 0, []) else none)))) else (bif Nat.blt pc 139 then (bif Nat.blt pc 136 then (bif Nat.beq pc 135 then some (.isub, 136, [], 0, 0, []) else none) else (bif Nat.beq pc 136 then some (.if_icmp .lt 11, 139, [147], 0, 0, []) else none)) else (bif Nat.blt pc 140 then (bif Nat.beq pc 139 then some (.aload_n 0, 140, [0], 0, 0, []) else none) else (bif Nat.blt pc 141 then (bif Nat.beq pc 140 then some (.iconst 2, 141, [], 2, 0, []) else none) else (bif Nat.beq pc 141 then some (.putfield 68, 144, [12, 19, 0], 0, 0, []) else none)))))))) else (bif Nat.blt pc 214 then (bif Nat.blt pc 179 then (bif Nat.blt pc 161 then (bif Nat.blt pc 153 then (bif Nat.blt pc 148 then (bif Nat.blt pc 147 then (bif Nat.beq pc 144 then some (.goto 120, 147, [264], 0, 0, []) else none) else (bif Nat.beq pc 147 then some (.aload_n 0, 148, [0], 0, 0, []) else none)) else (bif Nat.blt pc 151 then (bif Nat.beq pc 148 then some (.getfield 215, 151, [12, 67, 2, 153, 0], 0, 0, []) else none) else (bif Nat.beq pc 151 then some (.bipush 60, 153, [], 60, 0, []) else none))) else (bif Nat.blt pc 156 then (bif Nat.blt pc 155 then (bif Nat.beq pc 153 then some (.iload 4, 155, [4], 0, 0, []) else none) else (bif Nat.beq pc 155 then some (.imul, 156, [], 0, 0, []) else none)) else (bif Nat.blt pc 158 then (bif Nat.beq pc 156 then some (.iload 5, 158, [5], 0, 0, []) else none) else (bif Nat.blt pc 159 then (bif Nat.beq pc 158 then some (.iadd, 159, [], 0, 0, []) else none) else (bif Nat.beq pc 159 then some (.iload 8, 161, [8], 0, 0, []) else none))))) else (bif Nat.blt pc 170 then (bif Nat.blt pc 163 then (bif Nat.blt pc 162 then (bif Nat.beq pc 161 then some (.iadd, 162, [], 0, 0, []) else none) else (bif Nat.beq pc 162 then some (.iaload, 163, [], 0, 0, []) else none)) else (bif Nat.blt pc 166 then (bif Nat.beq pc 163 then some (.ldc_w 298, 166, [], 999999999, 0, []) else none) else (bif Nat.blt pc 169 then (bif Nat.beq pc 166 then some (.if_icmp .eq 98, 169, [264], 0, 0, []) else none) else (bif Nat.beq pc 169 then some (.aload_n 0, 170, [0], 0, 0, []) else none)))) else (bif Nat.blt pc 174 then (bif Nat.blt pc 171 then (bif Nat.beq pc 170 then some (.aload_n 0, 171, [0], 0, 0, []) else none) else (bif Nat.beq pc 171 then some (.getfield 215, 174, [12, 67, 2, 153, 0], 0, 0, []) else none)) else (bif Nat.blt pc 176 then (bif Nat.beq pc 174 then some (.bipush 60, 176, [], 60, 0, []) else none) else (bif Nat.blt pc 178 then (bif Nat.beq pc 176 then some (.iload 4, 178, [4], 0, 0, []) else none) else (bif Nat.beq pc 178 then some (.imul, 179, [], 0, 0, []) else none)))))) else (bif Nat.blt pc 194 then (bif Nat.blt pc 185 then (bif Nat.blt pc 182 then (bif Nat.blt pc 181 then (bif Nat.beq pc 179 then some (.iload 5, 181, [5], 0, 0, []) else none) else (bif Nat.beq pc 181 then some (.iadd, 182, [], 0, 0, []) else none)) else (bif Nat.blt pc 184 then (bif Nat.beq pc 182 then some (.iload 8, 184, [8], 0, 0, []) else none) else (bif Nat.beq pc 184 then some (.iadd, 185, [], 0, 0, []) else none))) else (bif Nat.blt pc 187 then (bif Nat.blt pc 186 then (bif Nat.beq pc 185 then some (.iaload, 186, [], 0, 0, []) else none) else (bif Nat.beq pc 186 then some (.i2l, 187, [], 0, 0, []) else none)) else (bif Nat.blt pc 190 then (bif Nat.beq pc 187 then some (.ldc2_w 299, 190, [], 0, 8, []) else none) else (bif Nat.blt pc 193 then (bif Nat.beq pc 190 then some (.invokevirtual 271, 193, [144, 3, 13, 0, 0, 2], 0, 0, []) else none) else (bif Nat.beq pc 193 then some (.l2i, 194, [], 0, 0, []) else none))))) else (bif Nat.blt pc 205 then (bif Nat.blt pc 197 then (bif Nat.blt pc 196 then (bif Nat.beq pc 194 then some (.istore 9, 196, [9], 0, 0, []) else none) else (bif Nat.beq pc 196 then some (.aload_n 0, 197, [0], 0, 0, []) else none)) else (bif Nat.blt pc 199 then (bif Nat.beq pc 197 then some (.iload 9, 199, [9], 0, 0, []) else none) else (bif Nat.blt pc 202 then (bif Nat.beq pc 199 then some (.invokevirtual 236, 202, [142, 2, 13, 0, 0, 1], 0, 0, []) else none) else (bif Nat.beq pc 202 then some (.ifCond .ne 11, 205, [213], 0, 0, []) else none)))) else (bif Nat.blt pc 207 then (bif Nat.blt pc 206 then (bif Nat.beq pc 205 then some (.aload_n 0, 206, [0], 0, 0, []) else none) else (bif Nat.beq pc 206 then some (.iconst 3, 207, [], 3, 0, []) else none)) else (bif Nat.blt pc 210 then (bif Nat.beq pc 207 then some (.putfield 68, 210, [12, 19, 0], 0, 0, []) else none) else (bif Nat.blt pc 213 then (bif Nat.beq pc 210 then some (.goto 54, 213, [264], 0, 0, []) else none) else (bif Nat.beq pc 213 then some (.aload_n 0, 214, [0], 0, 0, []) else none))))))) else (bif Nat.blt pc 244 then (bif Nat.blt pc 232 then (bif Nat.blt pc 223 then (bif Nat.blt pc 219 then (bif Nat.blt pc 217 then (bif Nat.beq pc 214 then some (.getfield 35, 217, [12, 8, 0], 0, 0, []) else none) else (bif Nat.beq pc 217 then some (.bipush 90, 219, [], 90, 0, []) else none)) else (bif Nat.blt pc 222 then (bif Nat.beq pc 219 then some (.if_icmp .ne 11, 222, [230], 0, 0, []) else none) else (bif Nat.beq pc 222 then some (.aload_n 0, 223, [0], 0, 0, []) else none))) else (bif Nat.blt pc 227 then (bif Nat.blt pc 224 then (bif Nat.beq pc 223 then some (.iconst 4, 224, [], 4, 0, []) else none) else (bif Nat.beq pc 224 then some (.putfield 68, 227, [12, 19, 0], 0, 0, []) else none)) else (bif Nat.blt pc 230 then (bif Nat.beq pc 227 then some (.goto 37, 230, [264], 0, 0, []) else none) else (bif Nat.blt pc 231 then (bif Nat.beq pc 230 then some (.aload_n 0, 231, [0], 0, 0, []) else none) else (bif Nat.beq pc 231 then some (.iconst 3, 232, [], 3, 0, []) else none))))) else (bif Nat.blt pc 238 then (bif Nat.blt pc 234 then (bif Nat.blt pc 233 then (bif Nat.beq pc 232 then some (.iload_n 1, 233, [1], 0, 0, []) else none) else (bif Nat.beq pc 233 then some (.iload_n 2, 234, [2], 0, 0, []) else none)) else (bif Nat.blt pc 236 then (bif Nat.beq pc 234 then some (.iload 9, 236, [9], 0, 0, []) else none) else (bif Nat.blt pc 237 then (bif Nat.beq pc 236 then some (.iload_n 3, 237, [3], 0, 0, []) else none) else (bif Nat.beq pc 237 then some (.iconst 1, 238, [], 1, 0, []) else none)))) else (bif Nat.blt pc 241 then (bif Nat.blt pc 239 then (bif Nat.beq pc 238 then some (.isub, 239, [], 0, 0, []) else none) else (bif Nat.beq pc 239 then some (.iload 8, 241, [8], 0, 0, []) else none)) else (bif Nat.blt pc 242 then (bif Nat.beq pc 241 then some (.iadd, 242, [], 0, 0, []) else none) else (bif Nat.blt pc 243 then (bif Nat.beq pc 242 then some (.iconst 4, 243, [], 4, 0, []) else none) else (bif Nat.beq pc 243 then some (.irem, 244, [], 0, 0, []) else none)))))) else (bif Nat.blt pc 254 then (bif Nat.blt pc 248 then (bif Nat.blt pc 246 then (bif Nat.blt pc 245 then (bif Nat.beq pc 244 then some (.iconst 1, 245, [], 1, 0, []) else none) else (bif Nat.beq pc 245 then some (.iadd, 246, [], 0, 0, []) else none)) else (bif Nat.blt pc 247 then (bif Nat.beq pc 246 then some (.iload_n 3, 247, [3], 0, 0, []) else none) else (bif Nat.beq pc 247 then some (.iconst 1, 248, [], 1, 0, []) else none))) else (bif Nat.blt pc 251 then (bif Nat.blt pc 249 then (bif Nat.beq pc 248 then some (.isub, 249, [], 0, 0, []) else none) else (bif Nat.beq pc 249 then some (.iload 8, 251, [8], 0, 0, []) else none)) else (bif Nat.blt pc 252 then (bif Nat.beq pc 251 then some (.iadd, 252, [], 0, 0, []) else none) else (bif Nat.blt pc 253 then (bif Nat.beq pc 252 then some (.iconst 4, 253, [], 4, 0, []) else none) else (bif Nat.beq pc 253 then some (.irem, 254, [], 0, 0, []) else none))))) else (bif Nat.blt pc 261 then (bif Nat.blt pc 256 then (bif Nat.blt pc 255 then (bif Nat.beq pc 254 then some (.iconst 1, 255, [], 1, 0, []) else none) else (bif Nat.beq pc 255 then some (.iadd, 256, [], 0, 0, []) else none)) else (bif Nat.blt pc 257 then (bif Nat.beq pc 256 then some (.iconst (-1), 257, [], (-1), 0, []) else none) else (bif Nat.blt pc 260 then (bif Nat.beq pc 257 then some (.invokevirtual 245, 260, [154, 8, 13, 0, 0, 1], 0, 0, []) else none) else (bif Nat.beq pc 260 then some (.pop, 261, [], 0, 0, []) else none)))) else (bif Nat.blt pc 267 then (bif Nat.blt pc 264 then (bif Nat.beq pc 261 then some (.iinc 7 1, 264, [7], 1, 0, []) else none) else (bif Nat.beq pc 264 then some (.iinc 8 1, 267, [8], 1, 0, []) else none)) else (bif Nat.blt pc 270 then (bif Nat.beq pc 267 then some (.goto (-180), 270, [87], 0, 0, []) else none) else (bif Nat.blt pc 272 then (bif Nat.beq pc 270 then some (.iload 7, 272, [7], 0, 0, []) else none) else (bif Nat.beq pc 272 then some (.ireturn, 273, [0], 0, 0, []) else none)))))))))
theorem okX11_book : ∀ pc Y, pfX11_book pc = some Y → OKI m_X11_book pc Y := fun pc Y => ((bt_node (bt_node (bt_node (bt_node (bt_node (bt_node (bt_node (bt_leaf (P := OKI m_X11_book) oX11_book_0) (bt_leaf (P := OKI m_X11_book) oX11_book_1)) (bt_node (bt_leaf (P := OKI m_X11_book) oX11_book_2) (bt_leaf (P := OKI m_X11_book) oX11_book_5))) (bt_node (bt_node (bt_leaf (P := OKI m_X11_book) oX11_book_8) (bt_leaf (P := OKI m_X11_book) oX11_book_9)) (bt_node (bt_leaf (P := OKI m_X11_book) oX11_book_10) (bt_node (bt_leaf (P := OKI m_X11_book) oX11_book_13) (bt_leaf (P := OKI m_X11_book) oX11_book_16))))) (bt_node (bt_node (bt_node (bt_leaf (P := OKI m_X11_book) oX11_book_17) (bt_leaf (P := OKI m_X11_book) oX11_book_19)) (bt_node (bt_leaf (P := OKI m_X11_book) oX11_book_22) (bt_node (bt_leaf (P := OKI m_X11_book) oX11_book_25) (bt_leaf (P := OKI m_X11_book) oX11_book_26)))) (bt_node (bt_node (bt_leaf (P := OKI m_X11_book) oX11_book_27) (bt_leaf (P := OKI m_X11_book) oX11_book_28)) (bt_node (bt_leaf (P := OKI m_X11_book) oX11_book_29) (bt_node (bt_leaf (P := OKI m_X11_book) oX11_book_30) (bt_leaf (P := OKI m_X11_book) oX11_book_31)))))) (bt_node (bt_node (bt_node (bt_node (bt_leaf (P := OKI m_X11_book) oX11_book_34) (bt_leaf (P := OKI m_X11_book) oX11_book_37)) (bt_node (bt_leaf (P := OKI m_X11_book) oX11_book_38) (bt_leaf (P := OKI m_X11_book) oX11_book_40))) (bt_node (bt_node (bt_leaf (P := OKI m_X11_book) oX11_book_41) (bt_leaf (P := OKI m_X11_book) oX11_book_43)) (bt_node (bt_leaf (P := OKI m_X11_book) oX11_book_46) (bt_node (bt_leaf (P := OKI m_X11_book) oX11_book_49) (bt_leaf (P := OKI m_X11_book) oX11_book_51))))) (bt_node (bt_node (bt_node (bt_leaf (P := OKI m_X11_book) oX11_book_52) (bt_leaf (P := OKI m_X11_book) oX11_book_53)) (bt_node (bt_leaf (P := OKI m_X11_book) oX11_book_56) (bt_node (bt_leaf (P := OKI m_X11_book) oX11_book_58) (bt_leaf (P := OKI m_X11_book) oX11_book_59)))) (bt_node (bt_node (bt_leaf (P := OKI m_X11_book) oX11_book_62) (bt_leaf (P := OKI m_X11_book) oX11_book_63)) (bt_node (bt_leaf (P := OKI m_X11_book) oX11_book_66) (bt_node (bt_leaf (P := OKI m_X11_book) oX11_book_68) (bt_leaf (P := OKI m_X11_book) oX11_book_69))))))) (bt_node (bt_node (bt_node (bt_node (bt_node (bt_leaf (P := OKI m_X11_book) oX11_book_70) (bt_leaf (P := OKI m_X11_book) oX11_book_73)) (bt_node (bt_leaf (P := OKI m_X11_book) oX11_book_75) (bt_leaf (P := OKI m_X11_book) oX11_book_76))) (bt_node (bt_node (bt_leaf (P := OKI m_X11_book) oX11_book_77) (bt_leaf (P := OKI m_X11_book) oX11_book_79)) (bt_node (bt_leaf (P := OKI m_X11_book) oX11_book_80) (bt_node (bt_leaf (P := OKI m_X11_book) oX11_book_81) (bt_leaf (P := OKI m_X11_book) oX11_book_84))))) (bt_node (bt_node (bt_node (bt_leaf (P := OKI m_X11_book) oX11_book_85) (bt_leaf (P := OKI m_X11_book) oX11_book_87)) (bt_node (bt_leaf (P := OKI m_X11_book) oX11_book_89) (bt_node (bt_leaf (P := OKI m_X11_book) oX11_book_91) (bt_leaf (P := OKI m_X11_book) oX11_book_94)))) (bt_node (bt_node (bt_leaf (P := OKI m_X11_book) oX11_book_95) (bt_leaf (P := OKI m_X11_book) oX11_book_98)) (bt_node (bt_leaf (P := OKI m_X11_book) oX11_book_101) (bt_node (bt_leaf (P := OKI m_X11_book) oX11_book_102) (bt_leaf (P := OKI m_X11_book) oX11_book_105)))))) (bt_node (bt_node (bt_node (bt_node (bt_leaf (P := OKI m_X11_book) oX11_book_107) (bt_leaf (P := OKI m_X11_book) oX11_book_108)) (bt_node (bt_leaf (P := OKI m_X11_book) oX11_book_111) (bt_leaf (P := OKI m_X11_book) oX11_book_112))) (bt_node (bt_node (bt_leaf (P := OKI m_X11_book) oX11_book_113) (bt_leaf (P := OKI m_X11_book) oX11_book_116)) (bt_node (bt_leaf (P := OKI m_X11_book) oX11_book_119) (bt_node (bt_leaf (P := OKI m_X11_book) oX11_book_121) (bt_leaf (P := OKI m_X11_book) oX11_book_124))))) (bt_node (bt_node (bt_node (bt_leaf (P := OKI m_X11_book) oX11_book_126) (bt_leaf (P := OKI m_X11_book) oX11_book_127)) (bt_node (bt_leaf (P := OKI m_X11_book) oX11_book_130) (bt_node (bt_leaf (P := OKI m_X11_book) oX11_book_132) (bt_leaf (P := OKI m_X11_book) oX11_book_133)))) (bt_node (bt_node (bt_leaf (P := OKI m_X11_book) oX11_book_135) (bt_leaf (P := OKI m_X11_book) oX11_book_136)) (bt_node (bt_leaf (P := OKI m_X11_book) oX11_book_139) (bt_node (bt_leaf (P := OKI m_X11_book) oX11_book_140) (bt_leaf (P := OKI m_X11_book) oX11_book_141)))))))) (bt_node (bt_node (bt_node (bt_node (bt_node (bt_node (bt_leaf (P := OKI m_X11_book) oX11_book_144) (bt_leaf (P := OKI m_X11_book) oX11_book_147)) (bt_node (bt_leaf (P := OKI m_X11_book) oX11_book_148) (bt_leaf (P := OKI m_X11_book) oX11_book_151))) (bt_node (bt_node (bt_leaf (P := OKI m_X11_book) oX11_book_153) (bt_leaf (P := OKI m_X11_book) oX11_book_155)) (bt_node (bt_leaf (P := OKI m_X11_book) oX11_book_156) (bt_node (bt_leaf (P := OKI m_X11_book) oX11_book_158) (bt_leaf (P := OKI m_X11_book) oX11_book_159))))) (bt_node (bt_node (bt_node (bt_leaf (P := OKI m_X11_book) oX11_book_161) (bt_leaf (P := OKI m_X11_book) oX11_book_162)) (bt_node (bt_leaf (P := OKI m_X11_book) oX11_book_163) (bt_node (bt_leaf (P := OKI m_X11_book) oX11_book_166) (bt_leaf (P := OKI m_X11_book) oX11_book_169)))) (bt_node (bt_node (bt_leaf (P := OKI m_X11_book) oX11_book_170) (bt_leaf (P := OKI m_X11_book) oX11_book_171)) (bt_node (bt_leaf (P := OKI m_X11_book) oX11_book_174) (bt_node (bt_leaf (P := OKI m_X11_book) oX11_book_176) (bt_leaf (P := OKI m_X11_book) oX11_book_178)))))) (bt_node (bt_node (bt_node (bt_node (bt_leaf (P := OKI m_X11_book) oX11_book_179) (bt_leaf (P := OKI m_X11_book) oX11_book_181)) (bt_node (bt_leaf (P := OKI m_X11_book) oX11_book_182) (bt_leaf (P := OKI m_X11_book) oX11_book_184))) (bt_node (bt_node (bt_leaf (P := OKI m_X11_book) oX11_book_185) (bt_leaf (P := OKI m_X11_book) oX11_book_186)) (bt_node (bt_leaf (P := OKI m_X11_book) oX11_book_187) (bt_node (bt_leaf (P := OKI m_X11_book) oX11_book_190) (bt_leaf (P := OKI m_X11_book) oX11_book_193))))) (bt_node (bt_node (bt_node (bt_leaf (P := OKI m_X11_book) oX11_book_194) (bt_leaf (P := OKI m_X11_book) oX11_book_196)) (bt_node (bt_leaf (P := OKI m_X11_book) oX11_book_197) (bt_node (bt_leaf (P := OKI m_X11_book) oX11_book_199) (bt_leaf (P := OKI m_X11_book) oX11_book_202)))) (bt_node (bt_node (bt_leaf (P := OKI m_X11_book) oX11_book_205) (bt_leaf (P := OKI m_X11_book) oX11_book_206)) (bt_node (bt_leaf (P := OKI m_X11_book) oX11_book_207) (bt_node (bt_leaf (P := OKI m_X11_book) oX11_book_210) (bt_leaf (P := OKI m_X11_book) oX11_book_213))))))) (bt_node (bt_node (bt_node (bt_node (bt_node (bt_leaf (P := OKI m_X11_book) oX11_book_214) (bt_leaf (P := OKI m_X11_book) oX11_book_217)) (bt_node (bt_leaf (P := OKI m_X11_book) oX11_book_219) (bt_leaf (P := OKI m_X11_book) oX11_book_222))) (bt_node (bt_node (bt_leaf (P := OKI m_X11_book) oX11_book_223) (bt_leaf (P := OKI m_X11_book) oX11_book_224)) (bt_node (bt_leaf (P := OKI m_X11_book) oX11_book_227) (bt_node (bt_leaf (P := OKI m_X11_book) oX11_book_230) (bt_leaf (P := OKI m_X11_book) oX11_book_231))))) (bt_node (bt_node (bt_node (bt_leaf (P := OKI m_X11_book) oX11_book_232) (bt_leaf (P := OKI m_X11_book) oX11_book_233)) (bt_node (bt_leaf (P := OKI m_X11_book) oX11_book_234) (bt_node (bt_leaf (P := OKI m_X11_book) oX11_book_236) (bt_leaf (P := OKI m_X11_book) oX11_book_237)))) (bt_node (bt_node (bt_leaf (P := OKI m_X11_book) oX11_book_238) (bt_leaf (P := OKI m_X11_book) oX11_book_239)) (bt_node (bt_leaf (P := OKI m_X11_book) oX11_book_241) (bt_node (bt_leaf (P := OKI m_X11_book) oX11_book_242) (bt_leaf (P := OKI m_X11_book) oX11_book_243)))))) (bt_node (bt_node (bt_node (bt_node (bt_leaf (P := OKI m_X11_book) oX11_book_244) (bt_leaf (P := OKI m_X11_book) oX11_book_245)) (bt_node (bt_leaf (P := OKI m_X11_book) oX11_book_246) (bt_leaf (P := OKI m_X11_book) oX11_book_247))) (bt_node (bt_node (bt_leaf (P := OKI m_X11_book) oX11_book_248) (bt_leaf (P := OKI m_X11_book) oX11_book_249)) (bt_node (bt_leaf (P := OKI m_X11_book) oX11_book_251) (bt_node (bt_leaf (P := OKI m_X11_book) oX11_book_252) (bt_leaf (P := OKI m_X11_book) oX11_book_253))))) (bt_node (bt_node (bt_node (bt_leaf (P := OKI m_X11_book) oX11_book_254) (bt_leaf (P := OKI m_X11_book) oX11_book_255)) (bt_node (bt_leaf (P := OKI m_X11_book) oX11_book_256) (bt_node (bt_leaf (P := OKI m_X11_book) oX11_book_257) (bt_leaf (P := OKI m_X11_book) oX11_book_260)))) (bt_node (bt_node (bt_leaf (P := OKI m_X11_book) oX11_book_261) (bt_leaf (P := OKI m_X11_book) oX11_book_264)) (bt_node (bt_leaf (P := OKI m_X11_book) oX11_book_267) (bt_node (bt_leaf (P := OKI m_X11_book) oX11_book_270) (bt_leaf (P := OKI m_X11_book) oX11_book_272))))))))) : pfX11_book pc = some Y → OKI m_X11_book pc Y)
def stpX11_book (pc : Nat) : Option (List Bool) := (bif Nat.blt pc 139 then (bif Nat.blt pc 76 then (bif Nat.blt pc 49 then (bif Nat.beq pc 25 then some [false, false, false, false, false, false, false, false, false, false] else none) else (bif Nat.beq pc 49 then some [false, false, false, false, false, false, false, false, false, false] else none)) else (bif Nat.blt pc 87 then (bif Nat.beq pc 76 then some [true, true, true, true, true, true, true, false, false, false] else none) else (bif Nat.beq pc 87 then some [true, true, true, true, true, true, true, true, true, false] else none))) else (bif Nat.blt pc 264 then (bif Nat.blt pc 261 then (bif Nat.beq pc 139 then some [true, true, true, true, true, true, true, true, true, false] else none) else (bif Nat.beq pc 261 then some [true, true, true, true, true, true, true, true, true, false] else none)) else (bif Nat.blt pc 270 then (bif Nat.beq pc 264 then some [true, true, true, true, true, true, true, true, true, false] else none) else (bif Nat.beq pc 270 then some [false, false, false, false, false, false, false, true, false, false] else none))))
def bX11_book_0 (d rc rs : Nat) (a1 : Int32) (a2 : Int32) (a3 : Int32) (a4 : Int32) (a5 : Int32) (a6 : Int32) (σ : XH) (Q : XV → XH → Prop) : Prop :=
  ((1 ≤ d ∧ Ec (d - 1) 0 0 m_X11_isClock [vR (some (12, 0)), vI a1] σ (kI fun x2 h1 => ((x2 = 0 → Ex d rc rs m_X11_book 25 [vU, vU, vU, vU, vU, vU, vU, vU, vU, vU] [] h1 Q) ∧ (¬ x2 = 0 → ((1 ≤ d ∧ Ec (d - 1) 0 0 m_X11_isHand [vR (some (12, 0)), vI a2] h1 (kI fun x4 h3 => ((x4 = 0 → Ex d rc rs m_X11_book 25 [vU, vU, vU, vU, vU, vU, vU, vU, vU, vU] [] h3 Q) ∧ (¬ x4 = 0 → ((1 ≤ d ∧ Ec (d - 1) 0 0 m_X11_isTape [vR (some (12, 0)), vI a4] h3 (kI fun x6 h5 => ((x6 = 0 → Ex d rc rs m_X11_book 25 [vU, vU, vU, vU, vU, vU, vU, vU, vU, vU] [] h5 Q) ∧ (¬ x6 = 0 → ((1 ≤ d ∧ Ec (d - 1) 0 0 m_X11_in [vR (some (12, 0)), vI a3, vI 1, vI 4] h5 (kI fun x8 h7 => ((x8 = 0 → Ex d rc rs m_X11_book 49 [vU, vU, vU, vU, vU, vU, vU, vU, vU, vU] [] h7 Q) ∧ (¬ x8 = 0 → ((1 ≤ d ∧ Ec (d - 1) 0 0 m_X11_in [vR (some (12, 0)), vI a6, vI 1, vI 40] h7 (kI fun x10 h9 => ((x10 = 0 → Ex d rc rs m_X11_book 49 [vU, vU, vU, vU, vU, vU, vU, vU, vU, vU] [] h9 Q) ∧ (¬ x10 = 0 → ((hr h9 12 0 65 = some (151, 0) ∧ ((vp_in a4 (hn h9 151 0) ∧ (((hi h9 151 0 a4.toNatClampNeg) < 0 → Ex d rc rs m_X11_book 76 [vR (some (12, 0)), vI a1, vI a2, vI a3, vI a4, vI a5, vI a6, vU, vU, vU] [] h9 Q) ∧ (¬ (hi h9 151 0 a4.toNatClampNeg) < 0 → ((hr h9 12 0 65 = some (151, 0) ∧ ((vp_in a4 (hn h9 151 0) ∧ (((hi h9 151 0 a4.toNatClampNeg) = 3 → Ex d rc rs m_X11_book 76 [vR (some (12, 0)), vI a1, vI a2, vI a3, vI a4, vI a5, vI a6, vU, vU, vU] [] h9 Q) ∧ (¬ (hi h9 151 0 a4.toNatClampNeg) = 3 → Q (vI (-12)) h9)))))))))))))))))))))))))))))))))))))
theorem sX11_book_0 {d rc rs : Nat} {a1 : Int32} {a2 : Int32} {a3 : Int32} {a4 : Int32} {a5 : Int32} {a6 : Int32} {σ : XH} {Q : XV → XH → Prop} (h : bX11_book_0 d rc rs a1 a2 a3 a4 a5 a6 σ Q) : Ex d rc rs m_X11_book 0 [vR (some (12, 0)), vI a1, vI a2, vI a3, vI a4, vI a5, vI a6, vU, vU, vU] [] σ Q :=
  xtree_sound (stop := stpX11_book) okX11_book 39 _ _ _ _ _ _ h
def bX11_book_25 (d rc rs : Nat)  (σ : XH) (Q : XV → XH → Prop) : Prop :=
  Q (vI (-1)) σ
theorem sX11_book_25 {d rc rs : Nat}  {σ : XH} {Q : XV → XH → Prop} (h : bX11_book_25 d rc rs  σ Q) : Ex d rc rs m_X11_book 25 [vU, vU, vU, vU, vU, vU, vU, vU, vU, vU] [] σ Q :=
  xtree_sound (stop := stpX11_book) okX11_book 4 _ _ _ _ _ _ h
def bX11_book_49 (d rc rs : Nat)  (σ : XH) (Q : XV → XH → Prop) : Prop :=
  Q (vI (-2)) σ
theorem sX11_book_49 {d rc rs : Nat}  {σ : XH} {Q : XV → XH → Prop} (h : bX11_book_49 d rc rs  σ Q) : Ex d rc rs m_X11_book 49 [vU, vU, vU, vU, vU, vU, vU, vU, vU, vU] [] σ Q :=
  xtree_sound (stop := stpX11_book) okX11_book 4 _ _ _ _ _ _ h
def bX11_book_76 (d rc rs : Nat) (l1 : Int32) (l2 : Int32) (l3 : Int32) (l4 : Int32) (l5 : Int32) (l6 : Int32) (σ : XH) (Q : XV → XH → Prop) : Prop :=
  ((∀ h1, h1 = wI σ 12 0 19 0 → Ex d rc rs m_X11_book 87 [vR (some (12, 0)), vI l1, vI l2, vI l3, vI l4, vI l5, vI l6, vI 0, vI 0, vU] [] h1 Q))
theorem sX11_book_76 {d rc rs : Nat} {l1 : Int32} {l2 : Int32} {l3 : Int32} {l4 : Int32} {l5 : Int32} {l6 : Int32} {σ : XH} {Q : XV → XH → Prop} (h : bX11_book_76 d rc rs l1 l2 l3 l4 l5 l6 σ Q) : Ex d rc rs m_X11_book 76 [vR (some (12, 0)), vI l1, vI l2, vI l3, vI l4, vI l5, vI l6, vU, vU, vU] [] σ Q :=
  xtree_sound (stop := stpX11_book) okX11_book 9 _ _ _ _ _ _ h
def bX11_book_87 (d rc rs : Nat) (l1 : Int32) (l2 : Int32) (l3 : Int32) (l4 : Int32) (l5 : Int32) (l6 : Int32) (l7 : Int32) (l8 : Int32) (σ : XH) (Q : XV → XH → Prop) : Prop :=
  ((l8 < l6 → ((((hi σ 12 0 19) = 0 → ((hr σ 12 0 65 = some (151, 0) ∧ ((vp_in l4 (hn σ 151 0) ∧ (((hi σ 151 0 l4.toNatClampNeg) < 0 → ((∀ h9, h9 = wI σ 12 0 19 1 → Ex d rc rs m_X11_book 264 [vR (some (12, 0)), vI l1, vI l2, vI l3, vI l4, vI l5, vI l6, vI l7, vI l8, vU] [] h9 Q))) ∧ (¬ (hi σ 151 0 l4.toNatClampNeg) < 0 → ((l5 < 0 → Ex d rc rs m_X11_book 139 [vR (some (12, 0)), vI l1, vI l2, vI l3, vI l4, vI l5, vI l6, vI l7, vI l8, vU] [] σ Q) ∧ (¬ l5 < 0 → ((hr σ 12 0 66 = some (152, 0) ∧ ((vp_in l4 (hn σ 152 0) ∧ ((l5 < ((hi σ 152 0 l4.toNatClampNeg) - l8) → ((hr σ 12 0 67 = some (153, 0) ∧ ((vp_in (((60 * l4) + l5) + l8) (hn σ 153 0) ∧ (((hi σ 153 0 (((60 * l4) + l5) + l8).toNatClampNeg) = 999999999 → Ex d rc rs m_X11_book 264 [vR (some (12, 0)), vI l1, vI l2, vI l3, vI l4, vI l5, vI l6, vI l7, vI l8, vU] [] σ Q) ∧ (¬ (hi σ 153 0 (((60 * l4) + l5) + l8).toNatClampNeg) = 999999999 → ((hr σ 12 0 67 = some (153, 0) ∧ ((vp_in (((60 * l4) + l5) + l8) (hn σ 153 0) ∧ ((1 ≤ d ∧ Ec (d - 1) 0 0 m_X11_down [vR (some (12, 0)), vL ((hi σ 153 0 (((60 * l4) + l5) + l8).toNatClampNeg).toInt64), vL 8] σ (kL fun x2 h1 => ((1 ≤ d ∧ Ec (d - 1) 0 0 m_X11_isTime [vR (some (12, 0)), vI x2.toInt32] h1 (kI fun x4 h3 => ((x4 = 0 → ((∀ h8, h8 = wI h3 12 0 19 3 → Ex d rc rs m_X11_book 264 [vR (some (12, 0)), vI l1, vI l2, vI l3, vI l4, vI l5, vI l6, vI l7, vI l8, vU] [] h8 Q))) ∧ (¬ x4 = 0 → ((((hi h3 12 0 8) = 90 → ((∀ h7, h7 = wI h3 12 0 19 4 → Ex d rc rs m_X11_book 264 [vR (some (12, 0)), vI l1, vI l2, vI l3, vI l4, vI l5, vI l6, vI l7, vI l8, vU] [] h7 Q))) ∧ (¬ (hi h3 12 0 8) = 90 → (¬ (4 : Int32) = 0 ∧ (¬ (4 : Int32) = 0 ∧ ((1 ≤ d ∧ Ec (d - 1) 0 0 m_X11_add [vR (some (12, 0)), vI 3, vI l1, vI l2, vI x2.toInt32, vI ((((l3 - 1) + l8) - ((l3 - 1) + l8) / 4 * 4) + 1), vI ((((l3 - 1) + l8) - ((l3 - 1) + l8) / 4 * 4) + 1), vI (-1)] h3 (kI fun x6 h5 => Ex d rc rs m_X11_book 261 [vR (some (12, 0)), vI l1, vI l2, vI l3, vI l4, vI l5, vI l6, vI l7, vI l8, vU] [] h5 Q))))))))))))))))))))))))))) ∧ (¬ l5 < ((hi σ 152 0 l4.toNatClampNeg) - l8) → Ex d rc rs m_X11_book 139 [vR (some (12, 0)), vI l1, vI l2, vI l3, vI l4, vI l5, vI l6, vI l7, vI l8, vU] [] σ Q))))))))))))))) ∧ (¬ (hi σ 12 0 19) = 0 → Ex d rc rs m_X11_book 270 [vU, vU, vU, vU, vU, vU, vU, vI l7, vU, vU] [] σ Q)))) ∧ (¬ l8 < l6 → Ex d rc rs m_X11_book 270 [vU, vU, vU, vU, vU, vU, vU, vI l7, vU, vU] [] σ Q))
set_option maxRecDepth 40000 in
set_option maxHeartbeats 4000000 in
theorem sX11_book_87 {d rc rs : Nat} {l1 : Int32} {l2 : Int32} {l3 : Int32} {l4 : Int32} {l5 : Int32} {l6 : Int32} {l7 : Int32} {l8 : Int32} {σ : XH} {Q : XV → XH → Prop} (h : bX11_book_87 d rc rs l1 l2 l3 l4 l5 l6 l7 l8 σ Q) : Ex d rc rs m_X11_book 87 [vR (some (12, 0)), vI l1, vI l2, vI l3, vI l4, vI l5, vI l6, vI l7, vI l8, vU] [] σ Q :=
  xtree_sound (stop := stpX11_book) okX11_book 85 _ _ _ _ _ _ h
def bX11_book_139 (d rc rs : Nat) (l1 : Int32) (l2 : Int32) (l3 : Int32) (l4 : Int32) (l5 : Int32) (l6 : Int32) (l7 : Int32) (l8 : Int32) (σ : XH) (Q : XV → XH → Prop) : Prop :=
  ((∀ h1, h1 = wI σ 12 0 19 2 → Ex d rc rs m_X11_book 264 [vR (some (12, 0)), vI l1, vI l2, vI l3, vI l4, vI l5, vI l6, vI l7, vI l8, vU] [] h1 Q))
theorem sX11_book_139 {d rc rs : Nat} {l1 : Int32} {l2 : Int32} {l3 : Int32} {l4 : Int32} {l5 : Int32} {l6 : Int32} {l7 : Int32} {l8 : Int32} {σ : XH} {Q : XV → XH → Prop} (h : bX11_book_139 d rc rs l1 l2 l3 l4 l5 l6 l7 l8 σ Q) : Ex d rc rs m_X11_book 139 [vR (some (12, 0)), vI l1, vI l2, vI l3, vI l4, vI l5, vI l6, vI l7, vI l8, vU] [] σ Q :=
  xtree_sound (stop := stpX11_book) okX11_book 6 _ _ _ _ _ _ h
def bX11_book_261 (d rc rs : Nat) (l1 : Int32) (l2 : Int32) (l3 : Int32) (l4 : Int32) (l5 : Int32) (l6 : Int32) (l7 : Int32) (l8 : Int32) (σ : XH) (Q : XV → XH → Prop) : Prop :=
  Ex d rc rs m_X11_book 264 [vR (some (12, 0)), vI l1, vI l2, vI l3, vI l4, vI l5, vI l6, vI (l7 + 1), vI l8, vU] [] σ Q
theorem sX11_book_261 {d rc rs : Nat} {l1 : Int32} {l2 : Int32} {l3 : Int32} {l4 : Int32} {l5 : Int32} {l6 : Int32} {l7 : Int32} {l8 : Int32} {σ : XH} {Q : XV → XH → Prop} (h : bX11_book_261 d rc rs l1 l2 l3 l4 l5 l6 l7 l8 σ Q) : Ex d rc rs m_X11_book 261 [vR (some (12, 0)), vI l1, vI l2, vI l3, vI l4, vI l5, vI l6, vI l7, vI l8, vU] [] σ Q :=
  xtree_sound (stop := stpX11_book) okX11_book 3 _ _ _ _ _ _ h
def bX11_book_264 (d rc rs : Nat) (l1 : Int32) (l2 : Int32) (l3 : Int32) (l4 : Int32) (l5 : Int32) (l6 : Int32) (l7 : Int32) (l8 : Int32) (σ : XH) (Q : XV → XH → Prop) : Prop :=
  Ex d rc rs m_X11_book 87 [vR (some (12, 0)), vI l1, vI l2, vI l3, vI l4, vI l5, vI l6, vI l7, vI (l8 + 1), vU] [] σ Q
theorem sX11_book_264 {d rc rs : Nat} {l1 : Int32} {l2 : Int32} {l3 : Int32} {l4 : Int32} {l5 : Int32} {l6 : Int32} {l7 : Int32} {l8 : Int32} {σ : XH} {Q : XV → XH → Prop} (h : bX11_book_264 d rc rs l1 l2 l3 l4 l5 l6 l7 l8 σ Q) : Ex d rc rs m_X11_book 264 [vR (some (12, 0)), vI l1, vI l2, vI l3, vI l4, vI l5, vI l6, vI l7, vI l8, vU] [] σ Q :=
  xtree_sound (stop := stpX11_book) okX11_book 4 _ _ _ _ _ _ h
def bX11_book_270 (d rc rs : Nat) (l7 : Int32) (σ : XH) (Q : XV → XH → Prop) : Prop :=
  Q (vI l7) σ
theorem sX11_book_270 {d rc rs : Nat} {l7 : Int32} {σ : XH} {Q : XV → XH → Prop} (h : bX11_book_270 d rc rs l7 σ Q) : Ex d rc rs m_X11_book 270 [vU, vU, vU, vU, vU, vU, vU, vI l7, vU, vU] [] σ Q :=
  xtree_sound (stop := stpX11_book) okX11_book 4 _ _ _ _ _ _ h
/-! SpotTimersModel.ended()I -/
theorem dX11_ended_0 : decode cX11_ended 0 = .ok (.aload_n 0, 1) := by decide +kernel
theorem dX11_ended_1 : decode cX11_ended 1 = .ok (.getfield 68, 3) := by decide +kernel
theorem dX11_ended_4 : decode cX11_ended 4 = .ok (.ifCond .ge 8, 3) := by decide +kernel
theorem dX11_ended_7 : decode cX11_ended 7 = .ok (.bipush (-3), 2) := by decide +kernel
theorem dX11_ended_9 : decode cX11_ended 9 = .ok (.goto 7, 3) := by decide +kernel
theorem dX11_ended_12 : decode cX11_ended 12 = .ok (.aload_n 0, 1) := by decide +kernel
theorem dX11_ended_13 : decode cX11_ended 13 = .ok (.getfield 68, 3) := by decide +kernel
theorem dX11_ended_16 : decode cX11_ended 16 = .ok (.ireturn, 1) := by decide +kernel
theorem oX11_ended_0 : OKI 175 0 (.aload_n 0, 1, [0], 0, 0, []) := And.intro dX11_ended_0 (And.intro rfl (rfl))
theorem oX11_ended_1 : OKI 175 1 (.getfield 68, 4, [12, 19, 0], 0, 0, []) := And.intro dX11_ended_1 (And.intro rfl (⟨(RX11, TX11, 69), "SpotTimersModel", rfl, by decide, tm_5 _ (List.mem_of_getElem? (i := 225) rfl) rfl, Or.inl rfl, Or.inr (Or.inr (And.intro rfl (Or.inl rfl)))⟩))
theorem oX11_ended_4 : OKI 175 4 (.ifCond .ge 8, 7, [12], 0, 0, []) := And.intro dX11_ended_4 (And.intro rfl (by decide))
theorem oX11_ended_7 : OKI 175 7 (.bipush (-3), 9, [], (-3), 0, []) := And.intro dX11_ended_7 (And.intro rfl (by decide +kernel))
theorem oX11_ended_9 : OKI 175 9 (.goto 7, 12, [16], 0, 0, []) := And.intro dX11_ended_9 (And.intro rfl (by decide))
theorem oX11_ended_12 : OKI 175 12 (.aload_n 0, 13, [0], 0, 0, []) := And.intro dX11_ended_12 (And.intro rfl (rfl))
theorem oX11_ended_13 : OKI 175 13 (.getfield 68, 16, [12, 19, 0], 0, 0, []) := And.intro dX11_ended_13 (And.intro rfl (⟨(RX11, TX11, 69), "SpotTimersModel", rfl, by decide, tm_5 _ (List.mem_of_getElem? (i := 225) rfl) rfl, Or.inl rfl, Or.inr (Or.inr (And.intro rfl (Or.inl rfl)))⟩))
theorem oX11_ended_16 : OKI 175 16 (.ireturn, 17, [0], 0, 0, []) := And.intro dX11_ended_16 (Or.inl (And.intro rfl rfl))
def pfX11_ended (pc : Nat) : Option XE := (bif Nat.blt pc 9 then (bif Nat.blt pc 4 then (bif Nat.blt pc 1 then (bif Nat.beq pc 0 then some (.aload_n 0, 1, [0], 0, 0, []) else none) else (bif Nat.beq pc 1 then some (.getfield 68, 4, [12, 19, 0], 0, 0, []) else none)) else (bif Nat.blt pc 7 then (bif Nat.beq pc 4 then some (.ifCond .ge 8, 7, [12], 0, 0, []) else none) else (bif Nat.beq pc 7 then some (.bipush (-3), 9, [], (-3), 0, []) else none))) else (bif Nat.blt pc 13 then (bif Nat.blt pc 12 then (bif Nat.beq pc 9 then some (.goto 7, 12, [16], 0, 0, []) else none) else (bif Nat.beq pc 12 then some (.aload_n 0, 13, [0], 0, 0, []) else none)) else (bif Nat.blt pc 16 then (bif Nat.beq pc 13 then some (.getfield 68, 16, [12, 19, 0], 0, 0, []) else none) else (bif Nat.beq pc 16 then some (.ireturn, 17, [0], 0, 0, []) else none))))
theorem okX11_ended : ∀ pc Y, pfX11_ended pc = some Y → OKI m_X11_ended pc Y := fun pc Y => ((bt_node (bt_node (bt_node (bt_leaf (P := OKI m_X11_ended) oX11_ended_0) (bt_leaf (P := OKI m_X11_ended) oX11_ended_1)) (bt_node (bt_leaf (P := OKI m_X11_ended) oX11_ended_4) (bt_leaf (P := OKI m_X11_ended) oX11_ended_7))) (bt_node (bt_node (bt_leaf (P := OKI m_X11_ended) oX11_ended_9) (bt_leaf (P := OKI m_X11_ended) oX11_ended_12)) (bt_node (bt_leaf (P := OKI m_X11_ended) oX11_ended_13) (bt_leaf (P := OKI m_X11_ended) oX11_ended_16)))) : pfX11_ended pc = some Y → OKI m_X11_ended pc Y)
def stpX11_ended (pc : Nat) : Option (List Bool) := (bif Nat.beq pc 16 then some [false] else none)
def bX11_ended_0 (d rc rs : Nat)  (σ : XH) (Q : XV → XH → Prop) : Prop :=
  ((((hi σ 12 0 19) < 0 → Ex d rc rs m_X11_ended 16 [vU] [vI (-3)] σ Q) ∧ (¬ (hi σ 12 0 19) < 0 → (Ex d rc rs m_X11_ended 16 [vU] [vI (hi σ 12 0 19)] σ Q))))
theorem sX11_ended_0 {d rc rs : Nat}  {σ : XH} {Q : XV → XH → Prop} (h : bX11_ended_0 d rc rs  σ Q) : Ex d rc rs m_X11_ended 0 [vR (some (12, 0))] [] σ Q :=
  xtree_sound (stop := stpX11_ended) okX11_ended 7 _ _ _ _ _ _ h
def bX11_ended_16 (d rc rs : Nat) (q0 : Int32) (σ : XH) (Q : XV → XH → Prop) : Prop :=
  Q (vI q0) σ
theorem sX11_ended_16 {d rc rs : Nat} {q0 : Int32} {σ : XH} {Q : XV → XH → Prop} (h : bX11_ended_16 d rc rs q0 σ Q) : Ex d rc rs m_X11_ended 16 [vU] [vI q0] σ Q :=
  xtree_sound (stop := stpX11_ended) okX11_ended 3 _ _ _ _ _ _ h
/-! SpotTimersModel.isHouse(I)Z -/
theorem dX11_isHouse_0 : decode cX11_isHouse 0 = .ok (.aload_n 0, 1) := by decide +kernel
theorem dX11_isHouse_1 : decode cX11_isHouse 1 = .ok (.iload_n 1, 1) := by decide +kernel
theorem dX11_isHouse_2 : decode cX11_isHouse 2 = .ok (.iconst 0, 1) := by decide +kernel
theorem dX11_isHouse_3 : decode cX11_isHouse 3 = .ok (.iconst 2, 1) := by decide +kernel
theorem dX11_isHouse_4 : decode cX11_isHouse 4 = .ok (.invokevirtual 222, 3) := by decide +kernel
theorem dX11_isHouse_7 : decode cX11_isHouse 7 = .ok (.ireturn, 1) := by decide +kernel
theorem oX11_isHouse_0 : OKI 176 0 (.aload_n 0, 1, [0], 0, 0, []) := And.intro dX11_isHouse_0 (And.intro rfl (rfl))
theorem oX11_isHouse_1 : OKI 176 1 (.iload_n 1, 2, [1], 0, 0, []) := And.intro dX11_isHouse_1 (And.intro rfl (rfl))
theorem oX11_isHouse_2 : OKI 176 2 (.iconst 0, 3, [], 0, 0, []) := And.intro dX11_isHouse_2 (And.intro rfl (by decide +kernel))
theorem oX11_isHouse_3 : OKI 176 3 (.iconst 2, 4, [], 2, 0, []) := And.intro dX11_isHouse_3 (And.intro rfl (by decide +kernel))
theorem oX11_isHouse_4 : OKI 176 4 (.invokevirtual 222, 7, [141, 4, 13, 0, 0, 1], 0, 0, []) := And.intro dX11_isHouse_4 (And.intro rfl (And.intro (by decide) (And.intro (by decide) (And.intro mo_X11_in (And.intro (tm_6 _ (List.mem_of_getElem? (i := 179) rfl) rfl) (And.intro (tm_6 _ (List.mem_of_getElem? (i := 181) rfl) rfl) (And.intro (pm_3 _ (List.mem_of_getElem? (i := 8) rfl)) (Or.inl ⟨(RX11, TX11, 69), rfl, rfl⟩))))))))
theorem oX11_isHouse_7 : OKI 176 7 (.ireturn, 8, [3], 0, 0, []) := And.intro dX11_isHouse_7 (Or.inr (Or.inl (And.intro rfl rfl)))
def pfX11_isHouse (pc : Nat) : Option XE := (bif Nat.blt pc 3 then (bif Nat.blt pc 1 then (bif Nat.beq pc 0 then some (.aload_n 0, 1, [0], 0, 0, []) else none) else (bif Nat.blt pc 2 then (bif Nat.beq pc 1 then some (.iload_n 1, 2, [1], 0, 0, []) else none) else (bif Nat.beq pc 2 then some (.iconst 0, 3, [], 0, 0, []) else none))) else (bif Nat.blt pc 4 then (bif Nat.beq pc 3 then some (.iconst 2, 4, [], 2, 0, []) else none) else (bif Nat.blt pc 7 then (bif Nat.beq pc 4 then some (.invokevirtual 222, 7, [141, 4, 13, 0, 0, 1], 0, 0, []) else none) else (bif Nat.beq pc 7 then some (.ireturn, 8, [3], 0, 0, []) else none))))
theorem okX11_isHouse : ∀ pc Y, pfX11_isHouse pc = some Y → OKI m_X11_isHouse pc Y := fun pc Y => ((bt_node (bt_node (bt_leaf (P := OKI m_X11_isHouse) oX11_isHouse_0) (bt_node (bt_leaf (P := OKI m_X11_isHouse) oX11_isHouse_1) (bt_leaf (P := OKI m_X11_isHouse) oX11_isHouse_2))) (bt_node (bt_leaf (P := OKI m_X11_isHouse) oX11_isHouse_3) (bt_node (bt_leaf (P := OKI m_X11_isHouse) oX11_isHouse_4) (bt_leaf (P := OKI m_X11_isHouse) oX11_isHouse_7)))) : pfX11_isHouse pc = some Y → OKI m_X11_isHouse pc Y)
def stpX11_isHouse (_ : Nat) : Option (List Bool) := none
def bX11_isHouse_0 (d rc rs : Nat) (a1 : Int32) (σ : XH) (Q : XV → XH → Prop) : Prop :=
  ((1 ≤ d ∧ Ec (d - 1) 0 0 m_X11_in [vR (some (12, 0)), vI a1, vI 0, vI 2] σ (kI fun x2 h1 => ((x2 = 0 ∨ x2 = 1) ∧ Q (vI x2) h1))))
theorem sX11_isHouse_0 {d rc rs : Nat} {a1 : Int32} {σ : XH} {Q : XV → XH → Prop} (h : bX11_isHouse_0 d rc rs a1 σ Q) : Ex d rc rs m_X11_isHouse 0 [vR (some (12, 0)), vI a1] [] σ Q :=
  xtree_sound (stop := stpX11_isHouse) okX11_isHouse 8 _ _ _ _ _ _ h
/-! SpotTimersModel.letter(III)I -/
theorem dX11_letter_0 : decode cX11_letter 0 = .ok (.aload_n 0, 1) := by decide +kernel
theorem dX11_letter_1 : decode cX11_letter 1 = .ok (.iload_n 1, 1) := by decide +kernel
theorem dX11_letter_2 : decode cX11_letter 2 = .ok (.invokevirtual 229, 3) := by decide +kernel
theorem dX11_letter_5 : decode cX11_letter 5 = .ok (.ifCond .eq 11, 3) := by decide +kernel
theorem dX11_letter_8 : decode cX11_letter 8 = .ok (.aload_n 0, 1) := by decide +kernel
theorem dX11_letter_9 : decode cX11_letter 9 = .ok (.iload_n 2, 1) := by decide +kernel
theorem dX11_letter_10 : decode cX11_letter 10 = .ok (.invokevirtual 301, 3) := by decide +kernel
theorem dX11_letter_13 : decode cX11_letter 13 = .ok (.ifCond .ne 5, 3) := by decide +kernel
theorem dX11_letter_16 : decode cX11_letter 16 = .ok (.iconst (-1), 1) := by decide +kernel
theorem dX11_letter_17 : decode cX11_letter 17 = .ok (.ireturn, 1) := by decide +kernel
theorem dX11_letter_18 : decode cX11_letter 18 = .ok (.aload_n 0, 1) := by decide +kernel
theorem dX11_letter_19 : decode cX11_letter 19 = .ok (.iload_n 3, 1) := by decide +kernel
theorem dX11_letter_20 : decode cX11_letter 20 = .ok (.iconst 0, 1) := by decide +kernel
theorem dX11_letter_21 : decode cX11_letter 21 = .ok (.sipush 400, 3) := by decide +kernel
theorem dX11_letter_24 : decode cX11_letter 24 = .ok (.invokevirtual 222, 3) := by decide +kernel
theorem dX11_letter_27 : decode cX11_letter 27 = .ok (.ifCond .ne 6, 3) := by decide +kernel
theorem dX11_letter_30 : decode cX11_letter 30 = .ok (.bipush (-2), 2) := by decide +kernel
theorem dX11_letter_32 : decode cX11_letter 32 = .ok (.ireturn, 1) := by decide +kernel
theorem dX11_letter_33 : decode cX11_letter 33 = .ok (.aload_n 0, 1) := by decide +kernel
theorem dX11_letter_34 : decode cX11_letter 34 = .ok (.getfield 71, 3) := by decide +kernel
theorem dX11_letter_37 : decode cX11_letter 37 = .ok (.bipush 60, 2) := by decide +kernel
theorem dX11_letter_39 : decode cX11_letter 39 = .ok (.if_icmp .ne 6, 3) := by decide +kernel
theorem dX11_letter_42 : decode cX11_letter 42 = .ok (.bipush (-4), 2) := by decide +kernel
theorem dX11_letter_44 : decode cX11_letter 44 = .ok (.ireturn, 1) := by decide +kernel
theorem dX11_letter_45 : decode cX11_letter 45 = .ok (.aload_n 0, 1) := by decide +kernel
theorem dX11_letter_46 : decode cX11_letter 46 = .ok (.getfield 74, 3) := by decide +kernel
theorem dX11_letter_49 : decode cX11_letter 49 = .ok (.aload_n 0, 1) := by decide +kernel
theorem dX11_letter_50 : decode cX11_letter 50 = .ok (.getfield 71, 3) := by decide +kernel
theorem dX11_letter_53 : decode cX11_letter 53 = .ok (.iload_n 1, 1) := by decide +kernel
theorem dX11_letter_54 : decode cX11_letter 54 = .ok (.iastore, 1) := by decide +kernel
theorem dX11_letter_55 : decode cX11_letter 55 = .ok (.aload_n 0, 1) := by decide +kernel
theorem dX11_letter_56 : decode cX11_letter 56 = .ok (.getfield 77, 3) := by decide +kernel
theorem dX11_letter_59 : decode cX11_letter 59 = .ok (.aload_n 0, 1) := by decide +kernel
theorem dX11_letter_60 : decode cX11_letter 60 = .ok (.getfield 71, 3) := by decide +kernel
theorem dX11_letter_63 : decode cX11_letter 63 = .ok (.iload_n 2, 1) := by decide +kernel
theorem dX11_letter_64 : decode cX11_letter 64 = .ok (.iastore, 1) := by decide +kernel
theorem dX11_letter_65 : decode cX11_letter 65 = .ok (.aload_n 0, 1) := by decide +kernel
theorem dX11_letter_66 : decode cX11_letter 66 = .ok (.getfield 80, 3) := by decide +kernel
theorem dX11_letter_69 : decode cX11_letter 69 = .ok (.aload_n 0, 1) := by decide +kernel
theorem dX11_letter_70 : decode cX11_letter 70 = .ok (.getfield 71, 3) := by decide +kernel
theorem dX11_letter_73 : decode cX11_letter 73 = .ok (.aload_n 0, 1) := by decide +kernel
theorem dX11_letter_74 : decode cX11_letter 74 = .ok (.getfield 7, 3) := by decide +kernel
theorem dX11_letter_77 : decode cX11_letter 77 = .ok (.iload_n 3, 1) := by decide +kernel
theorem dX11_letter_78 : decode cX11_letter 78 = .ok (.iadd, 1) := by decide +kernel
theorem dX11_letter_79 : decode cX11_letter 79 = .ok (.iastore, 1) := by decide +kernel
theorem dX11_letter_80 : decode cX11_letter 80 = .ok (.aload_n 0, 1) := by decide +kernel
theorem dX11_letter_81 : decode cX11_letter 81 = .ok (.dup, 1) := by decide +kernel
theorem dX11_letter_82 : decode cX11_letter 82 = .ok (.getfield 19, 3) := by decide +kernel
theorem dX11_letter_85 : decode cX11_letter 85 = .ok (.iconst 1, 1) := by decide +kernel
theorem dX11_letter_86 : decode cX11_letter 86 = .ok (.iadd, 1) := by decide +kernel
theorem dX11_letter_87 : decode cX11_letter 87 = .ok (.putfield 19, 3) := by decide +kernel
theorem dX11_letter_90 : decode cX11_letter 90 = .ok (.aload_n 0, 1) := by decide +kernel
theorem dX11_letter_91 : decode cX11_letter 91 = .ok (.getfield 83, 3) := by decide +kernel
theorem dX11_letter_94 : decode cX11_letter 94 = .ok (.aload_n 0, 1) := by decide +kernel
theorem dX11_letter_95 : decode cX11_letter 95 = .ok (.getfield 71, 3) := by decide +kernel
theorem dX11_letter_98 : decode cX11_letter 98 = .ok (.aload_n 0, 1) := by decide +kernel
theorem dX11_letter_99 : decode cX11_letter 99 = .ok (.getfield 19, 3) := by decide +kernel
theorem dX11_letter_102 : decode cX11_letter 102 = .ok (.iastore, 1) := by decide +kernel
theorem dX11_letter_103 : decode cX11_letter 103 = .ok (.aload_n 0, 1) := by decide +kernel
theorem dX11_letter_104 : decode cX11_letter 104 = .ok (.dup, 1) := by decide +kernel
theorem dX11_letter_105 : decode cX11_letter 105 = .ok (.getfield 71, 3) := by decide +kernel
theorem dX11_letter_108 : decode cX11_letter 108 = .ok (.iconst 1, 1) := by decide +kernel
theorem dX11_letter_109 : decode cX11_letter 109 = .ok (.iadd, 1) := by decide +kernel
theorem dX11_letter_110 : decode cX11_letter 110 = .ok (.putfield 71, 3) := by decide +kernel
theorem dX11_letter_113 : decode cX11_letter 113 = .ok (.aload_n 0, 1) := by decide +kernel
theorem dX11_letter_114 : decode cX11_letter 114 = .ok (.getfield 71, 3) := by decide +kernel
theorem dX11_letter_117 : decode cX11_letter 117 = .ok (.ireturn, 1) := by decide +kernel
theorem oX11_letter_0 : OKI 177 0 (.aload_n 0, 1, [0], 0, 0, []) := And.intro dX11_letter_0 (And.intro rfl (rfl))
theorem oX11_letter_1 : OKI 177 1 (.iload_n 1, 2, [1], 0, 0, []) := And.intro dX11_letter_1 (And.intro rfl (rfl))
theorem oX11_letter_2 : OKI 177 2 (.invokevirtual 229, 5, [147, 2, 13, 0, 0, 1], 0, 0, []) := And.intro dX11_letter_2 (And.intro rfl (And.intro (by decide) (And.intro (by decide) (And.intro mo_X11_isStation (And.intro (tm_6 _ (List.mem_of_getElem? (i := 194) rfl) rfl) (And.intro (tm_6 _ (List.mem_of_getElem? (i := 196) rfl) rfl) (And.intro (pm_3 _ (List.mem_of_getElem? (i := 9) rfl)) (Or.inl ⟨(RX11, TX11, 69), rfl, rfl⟩))))))))
theorem oX11_letter_5 : OKI 177 5 (.ifCond .eq 11, 8, [16], 0, 0, []) := And.intro dX11_letter_5 (And.intro rfl (by decide))
theorem oX11_letter_8 : OKI 177 8 (.aload_n 0, 9, [0], 0, 0, []) := And.intro dX11_letter_8 (And.intro rfl (rfl))
theorem oX11_letter_9 : OKI 177 9 (.iload_n 2, 10, [2], 0, 0, []) := And.intro dX11_letter_9 (And.intro rfl (rfl))
theorem oX11_letter_10 : OKI 177 10 (.invokevirtual 301, 13, [176, 2, 13, 0, 0, 1], 0, 0, []) := And.intro dX11_letter_10 (And.intro rfl (And.intro (by decide) (And.intro (by decide) (And.intro mo_X11_isHouse (And.intro (tm_7 _ (List.mem_of_getElem? (i := 88) rfl) rfl) (And.intro (tm_7 _ (List.mem_of_getElem? (i := 90) rfl) rfl) (And.intro (pm_4 _ (List.mem_of_getElem? (i := 12) rfl)) (Or.inl ⟨(RX11, TX11, 69), rfl, rfl⟩))))))))
theorem oX11_letter_13 : OKI 177 13 (.ifCond .ne 5, 16, [18], 0, 0, []) := And.intro dX11_letter_13 (And.intro rfl (by decide))
theorem oX11_letter_16 : OKI 177 16 (.iconst (-1), 17, [], (-1), 0, []) := And.intro dX11_letter_16 (And.intro rfl (by decide +kernel))
theorem oX11_letter_17 : OKI 177 17 (.ireturn, 18, [0], 0, 0, []) := And.intro dX11_letter_17 (Or.inl (And.intro rfl rfl))
theorem oX11_letter_18 : OKI 177 18 (.aload_n 0, 19, [0], 0, 0, []) := And.intro dX11_letter_18 (And.intro rfl (rfl))
theorem oX11_letter_19 : OKI 177 19 (.iload_n 3, 20, [3], 0, 0, []) := And.intro dX11_letter_19 (And.intro rfl (rfl))
theorem oX11_letter_20 : OKI 177 20 (.iconst 0, 21, [], 0, 0, []) := And.intro dX11_letter_20 (And.intro rfl (by decide +kernel))
theorem oX11_letter_21 : OKI 177 21 (.sipush 400, 24, [], 400, 0, []) := And.intro dX11_letter_21 (And.intro rfl (by decide +kernel))
theorem oX11_letter_24 : OKI 177 24 (.invokevirtual 222, 27, [141, 4, 13, 0, 0, 1], 0, 0, []) := And.intro dX11_letter_24 (And.intro rfl (And.intro (by decide) (And.intro (by decide) (And.intro mo_X11_in (And.intro (tm_6 _ (List.mem_of_getElem? (i := 179) rfl) rfl) (And.intro (tm_6 _ (List.mem_of_getElem? (i := 181) rfl) rfl) (And.intro (pm_3 _ (List.mem_of_getElem? (i := 8) rfl)) (Or.inl ⟨(RX11, TX11, 69), rfl, rfl⟩))))))))
theorem oX11_letter_27 : OKI 177 27 (.ifCond .ne 6, 30, [33], 0, 0, []) := And.intro dX11_letter_27 (And.intro rfl (by decide))
theorem oX11_letter_30 : OKI 177 30 (.bipush (-2), 32, [], (-2), 0, []) := And.intro dX11_letter_30 (And.intro rfl (by decide +kernel))
theorem oX11_letter_32 : OKI 177 32 (.ireturn, 33, [0], 0, 0, []) := And.intro dX11_letter_32 (Or.inl (And.intro rfl rfl))
theorem oX11_letter_33 : OKI 177 33 (.aload_n 0, 34, [0], 0, 0, []) := And.intro dX11_letter_33 (And.intro rfl (rfl))
theorem oX11_letter_34 : OKI 177 34 (.getfield 71, 37, [12, 20, 0], 0, 0, []) := And.intro dX11_letter_34 (And.intro rfl (⟨(RX11, TX11, 69), "SpotTimersModel", rfl, by decide, tm_5 _ (List.mem_of_getElem? (i := 226) rfl) rfl, Or.inl rfl, Or.inr (Or.inr (And.intro rfl (Or.inl rfl)))⟩))
theorem oX11_letter_37 : OKI 177 37 (.bipush 60, 39, [], 60, 0, []) := And.intro dX11_letter_37 (And.intro rfl (by decide +kernel))
theorem oX11_letter_39 : OKI 177 39 (.if_icmp .ne 6, 42, [45], 0, 0, []) := And.intro dX11_letter_39 (And.intro rfl (by decide))
theorem oX11_letter_42 : OKI 177 42 (.bipush (-4), 44, [], (-4), 0, []) := And.intro dX11_letter_42 (And.intro rfl (by decide +kernel))
theorem oX11_letter_44 : OKI 177 44 (.ireturn, 45, [0], 0, 0, []) := And.intro dX11_letter_44 (Or.inl (And.intro rfl rfl))
theorem oX11_letter_45 : OKI 177 45 (.aload_n 0, 46, [0], 0, 0, []) := And.intro dX11_letter_45 (And.intro rfl (rfl))
theorem oX11_letter_46 : OKI 177 46 (.getfield 74, 49, [12, 21, 2, 130, 0], 0, 0, []) := And.intro dX11_letter_46 (And.intro rfl (⟨(RX11, TX11, 69), "SpotTimersModel", rfl, by decide, tm_5 _ (List.mem_of_getElem? (i := 227) rfl) rfl, Or.inl rfl, rfl, rfl⟩))
theorem oX11_letter_49 : OKI 177 49 (.aload_n 0, 50, [0], 0, 0, []) := And.intro dX11_letter_49 (And.intro rfl (rfl))
theorem oX11_letter_50 : OKI 177 50 (.getfield 71, 53, [12, 20, 0], 0, 0, []) := And.intro dX11_letter_50 (And.intro rfl (⟨(RX11, TX11, 69), "SpotTimersModel", rfl, by decide, tm_5 _ (List.mem_of_getElem? (i := 226) rfl) rfl, Or.inl rfl, Or.inr (Or.inr (And.intro rfl (Or.inl rfl)))⟩))
theorem oX11_letter_53 : OKI 177 53 (.iload_n 1, 54, [1], 0, 0, []) := And.intro dX11_letter_53 (And.intro rfl (rfl))
theorem oX11_letter_54 : OKI 177 54 (.iastore, 55, [], 0, 0, []) := And.intro dX11_letter_54 rfl
theorem oX11_letter_55 : OKI 177 55 (.aload_n 0, 56, [0], 0, 0, []) := And.intro dX11_letter_55 (And.intro rfl (rfl))
theorem oX11_letter_56 : OKI 177 56 (.getfield 77, 59, [12, 22, 2, 131, 0], 0, 0, []) := And.intro dX11_letter_56 (And.intro rfl (⟨(RX11, TX11, 69), "SpotTimersModel", rfl, by decide, tm_5 _ (List.mem_of_getElem? (i := 228) rfl) rfl, Or.inl rfl, rfl, rfl⟩))
theorem oX11_letter_59 : OKI 177 59 (.aload_n 0, 60, [0], 0, 0, []) := And.intro dX11_letter_59 (And.intro rfl (rfl))
theorem oX11_letter_60 : OKI 177 60 (.getfield 71, 63, [12, 20, 0], 0, 0, []) := And.intro dX11_letter_60 (And.intro rfl (⟨(RX11, TX11, 69), "SpotTimersModel", rfl, by decide, tm_5 _ (List.mem_of_getElem? (i := 226) rfl) rfl, Or.inl rfl, Or.inr (Or.inr (And.intro rfl (Or.inl rfl)))⟩))
theorem oX11_letter_63 : OKI 177 63 (.iload_n 2, 64, [2], 0, 0, []) := And.intro dX11_letter_63 (And.intro rfl (rfl))
theorem oX11_letter_64 : OKI 177 64 (.iastore, 65, [], 0, 0, []) := And.intro dX11_letter_64 rfl
theorem oX11_letter_65 : OKI 177 65 (.aload_n 0, 66, [0], 0, 0, []) := And.intro dX11_letter_65 (And.intro rfl (rfl))
theorem oX11_letter_66 : OKI 177 66 (.getfield 80, 69, [12, 23, 2, 132, 0], 0, 0, []) := And.intro dX11_letter_66 (And.intro rfl (⟨(RX11, TX11, 69), "SpotTimersModel", rfl, by decide, tm_5 _ (List.mem_of_getElem? (i := 229) rfl) rfl, Or.inl rfl, rfl, rfl⟩))
theorem oX11_letter_69 : OKI 177 69 (.aload_n 0, 70, [0], 0, 0, []) := And.intro dX11_letter_69 (And.intro rfl (rfl))
theorem oX11_letter_70 : OKI 177 70 (.getfield 71, 73, [12, 20, 0], 0, 0, []) := And.intro dX11_letter_70 (And.intro rfl (⟨(RX11, TX11, 69), "SpotTimersModel", rfl, by decide, tm_5 _ (List.mem_of_getElem? (i := 226) rfl) rfl, Or.inl rfl, Or.inr (Or.inr (And.intro rfl (Or.inl rfl)))⟩))
theorem oX11_letter_73 : OKI 177 73 (.aload_n 0, 74, [0], 0, 0, []) := And.intro dX11_letter_73 (And.intro rfl (rfl))
theorem oX11_letter_74 : OKI 177 74 (.getfield 7, 77, [12, 0, 0], 0, 0, []) := And.intro dX11_letter_74 (And.intro rfl (⟨(RX11, TX11, 69), "SpotTimersModel", rfl, by decide, tm_5 _ (List.mem_of_getElem? (i := 206) rfl) rfl, Or.inl rfl, Or.inr (Or.inr (And.intro rfl (Or.inl rfl)))⟩))
theorem oX11_letter_77 : OKI 177 77 (.iload_n 3, 78, [3], 0, 0, []) := And.intro dX11_letter_77 (And.intro rfl (rfl))
theorem oX11_letter_78 : OKI 177 78 (.iadd, 79, [], 0, 0, []) := And.intro dX11_letter_78 rfl
theorem oX11_letter_79 : OKI 177 79 (.iastore, 80, [], 0, 0, []) := And.intro dX11_letter_79 rfl
theorem oX11_letter_80 : OKI 177 80 (.aload_n 0, 81, [0], 0, 0, []) := And.intro dX11_letter_80 (And.intro rfl (rfl))
theorem oX11_letter_81 : OKI 177 81 (.dup, 82, [], 0, 0, []) := And.intro dX11_letter_81 rfl
theorem oX11_letter_82 : OKI 177 82 (.getfield 19, 85, [12, 3, 0], 0, 0, []) := And.intro dX11_letter_82 (And.intro rfl (⟨(RX11, TX11, 69), "SpotTimersModel", rfl, by decide, tm_5 _ (List.mem_of_getElem? (i := 209) rfl) rfl, Or.inl rfl, Or.inr (Or.inr (And.intro rfl (Or.inl rfl)))⟩))
theorem oX11_letter_85 : OKI 177 85 (.iconst 1, 86, [], 1, 0, []) := And.intro dX11_letter_85 (And.intro rfl (by decide +kernel))
theorem oX11_letter_86 : OKI 177 86 (.iadd, 87, [], 0, 0, []) := And.intro dX11_letter_86 rfl
theorem oX11_letter_87 : OKI 177 87 (.putfield 19, 90, [12, 3, 0], 0, 0, []) := And.intro dX11_letter_87 (And.intro rfl (⟨(RX11, TX11, 69), "SpotTimersModel", rfl, by decide, tm_5 _ (List.mem_of_getElem? (i := 209) rfl) rfl, Or.inl rfl, Or.inl rfl, rfl⟩))
theorem oX11_letter_90 : OKI 177 90 (.aload_n 0, 91, [0], 0, 0, []) := And.intro dX11_letter_90 (And.intro rfl (rfl))
theorem oX11_letter_91 : OKI 177 91 (.getfield 83, 94, [12, 24, 2, 133, 0], 0, 0, []) := And.intro dX11_letter_91 (And.intro rfl (⟨(RX11, TX11, 69), "SpotTimersModel", rfl, by decide, tm_5 _ (List.mem_of_getElem? (i := 230) rfl) rfl, Or.inl rfl, rfl, rfl⟩))
theorem oX11_letter_94 : OKI 177 94 (.aload_n 0, 95, [0], 0, 0, []) := And.intro dX11_letter_94 (And.intro rfl (rfl))
theorem oX11_letter_95 : OKI 177 95 (.getfield 71, 98, [12, 20, 0], 0, 0, []) := And.intro dX11_letter_95 (And.intro rfl (⟨(RX11, TX11, 69), "SpotTimersModel", rfl, by decide, tm_5 _ (List.mem_of_getElem? (i := 226) rfl) rfl, Or.inl rfl, Or.inr (Or.inr (And.intro rfl (Or.inl rfl)))⟩))
theorem oX11_letter_98 : OKI 177 98 (.aload_n 0, 99, [0], 0, 0, []) := And.intro dX11_letter_98 (And.intro rfl (rfl))
theorem oX11_letter_99 : OKI 177 99 (.getfield 19, 102, [12, 3, 0], 0, 0, []) := And.intro dX11_letter_99 (And.intro rfl (⟨(RX11, TX11, 69), "SpotTimersModel", rfl, by decide, tm_5 _ (List.mem_of_getElem? (i := 209) rfl) rfl, Or.inl rfl, Or.inr (Or.inr (And.intro rfl (Or.inl rfl)))⟩))
theorem oX11_letter_102 : OKI 177 102 (.iastore, 103, [], 0, 0, []) := And.intro dX11_letter_102 rfl
theorem oX11_letter_103 : OKI 177 103 (.aload_n 0, 104, [0], 0, 0, []) := And.intro dX11_letter_103 (And.intro rfl (rfl))
theorem oX11_letter_104 : OKI 177 104 (.dup, 105, [], 0, 0, []) := And.intro dX11_letter_104 rfl
theorem oX11_letter_105 : OKI 177 105 (.getfield 71, 108, [12, 20, 0], 0, 0, []) := And.intro dX11_letter_105 (And.intro rfl (⟨(RX11, TX11, 69), "SpotTimersModel", rfl, by decide, tm_5 _ (List.mem_of_getElem? (i := 226) rfl) rfl, Or.inl rfl, Or.inr (Or.inr (And.intro rfl (Or.inl rfl)))⟩))
theorem oX11_letter_108 : OKI 177 108 (.iconst 1, 109, [], 1, 0, []) := And.intro dX11_letter_108 (And.intro rfl (by decide +kernel))
theorem oX11_letter_109 : OKI 177 109 (.iadd, 110, [], 0, 0, []) := And.intro dX11_letter_109 rfl
theorem oX11_letter_110 : OKI 177 110 (.putfield 71, 113, [12, 20, 0], 0, 0, []) := And.intro dX11_letter_110 (And.intro rfl (⟨(RX11, TX11, 69), "SpotTimersModel", rfl, by decide, tm_5 _ (List.mem_of_getElem? (i := 226) rfl) rfl, Or.inl rfl, Or.inl rfl, rfl⟩))
theorem oX11_letter_113 : OKI 177 113 (.aload_n 0, 114, [0], 0, 0, []) := And.intro dX11_letter_113 (And.intro rfl (rfl))
theorem oX11_letter_114 : OKI 177 114 (.getfield 71, 117, [12, 20, 0], 0, 0, []) := And.intro dX11_letter_114 (And.intro rfl (⟨(RX11, TX11, 69), "SpotTimersModel", rfl, by decide, tm_5 _ (List.mem_of_getElem? (i := 226) rfl) rfl, Or.inl rfl, Or.inr (Or.inr (And.intro rfl (Or.inl rfl)))⟩))
theorem oX11_letter_117 : OKI 177 117 (.ireturn, 118, [0], 0, 0, []) := And.intro dX11_letter_117 (Or.inl (And.intro rfl rfl))
def pfX11_letter (pc : Nat) : Option XE := (bif Nat.blt pc 60 then (bif Nat.blt pc 30 then (bif Nat.blt pc 16 then (bif Nat.blt pc 8 then (bif Nat.blt pc 2 then (bif Nat.blt pc 1 then (bif Nat.beq pc 0 then some (.aload_n 0, 1, [0], 0, 0, []) else none) else (bif Nat.beq pc 1 then some (.iload_n 1, 2, [1], 0, 0, []) else none)) else (bif Nat.blt pc 5 then (bif Nat.beq pc 2 then some (.invokevirtual 229, 5, [147, 2, 13, 0, 0, 1], 0, 0, []) else none) else (bif Nat.beq pc 5 then some (.ifCond .eq 11, 8, [16], 0, 0, []) else none))) else (bif Nat.blt pc 10 then (bif Nat.blt pc 9 then (bif Nat.beq pc 8 then some (.aload_n 0, 9, [0], 0, 0, []) else none) else (bif Nat.beq pc 9 then some (.iload_n 2, 10, [2], 0, 0, []) else none)) else (bif Nat.blt pc 13 then (bif Nat.beq pc 10 then some (.invokevirtual 301, 13, [176, 2, 13, 0, 0, 1], 0, 0, []) else none) else (bif Nat.beq pc 13 then some (.ifCond .ne 5, 16, [18], 0, 0, []) else none)))) else (bif Nat.blt pc 20 then (bif Nat.blt pc 18 then (bif Nat.blt pc 17 then (bif Nat.beq pc 16 then some (.iconst (-1), 17, [], (-1), 0, []) else none) else (bif Nat.beq pc 17 then some (.ireturn, 18, [0], 0, 0, []) else none)) else (bif Nat.blt pc 19 then (bif Nat.beq pc 18 then some (.aload_n 0, 19, [0], 0, 0, []) else none) else (bif Nat.beq pc 19 then some (.iload_n 3, 20, [3], 0, 0, []) else none))) else (bif Nat.blt pc 24 then (bif Nat.blt pc 21 then (bif Nat.beq pc 20 then some (.iconst 0, 21, [], 0, 0, []) else none) else (bif Nat.beq pc 21 then some (.sipush 400, 24, [], 400, 0, []) else none)) else (bif Nat.blt pc 27 then (bif Nat.beq pc 24 then some (.invokevirtual 222, 27, [141, 4, 13, 0, 0, 1], 0, 0, []) else none) else (bif Nat.beq pc 27 then some (.ifCond .ne 6, 30, [33], 0, 0, []) else none))))) else (bif Nat.blt pc 45 then (bif Nat.blt pc 37 then (bif Nat.blt pc 33 then (bif Nat.blt pc 32 then (bif Nat.beq pc 30 then some (.bipush (-2), 32, [], (-2), 0, []) else none) else (bif Nat.beq pc 32 then some (.ireturn, 33, [0], 0, 0, []) else none)) else (bif Nat.blt pc 34 then (bif Nat.beq pc 33 then some (.aload_n 0, 34, [0], 0, 0, []) else none) else (bif Nat.beq pc 34 then some (.getfield 71, 37, [12, 20, 0], 0, 0, []) else none))) else (bif Nat.blt pc 42 then (bif Nat.blt pc 39 then (bif Nat.beq pc 37 then some (.bipush 60, 39, [], 60, 0, []) else none) else (bif Nat.beq pc 39 then some (.if_icmp .ne 6, 42, [45], 0, 0, []) else none)) else (bif Nat.blt pc 44 then (bif Nat.beq pc 42 then some (.bipush (-4), 44, [], (-4), 0, []) else none) else (bif Nat.beq pc 44 then some (.ireturn, 45, [0], 0, 0, []) else none)))) else (bif Nat.blt pc 53 then (bif Nat.blt pc 49 then (bif Nat.blt pc 46 then (bif Nat.beq pc 45 then some (.aload_n 0, 46, [0], 0, 0, []) else none) else (bif Nat.beq pc 46 then some (.getfield 74, 49, [12, 21, 2, 130, 0], 0, 0, []) else none)) else (bif Nat.blt pc 50 then (bif Nat.beq pc 49 then some (.aload_n 0, 50, [0], 0, 0, []) else none) else (bif Nat.beq pc 50 then some (.getfield 71, 53, [12, 20, 0], 0, 0, []) else none))) else (bif Nat.blt pc 55 then (bif Nat.blt pc 54 then (bif Nat.beq pc 53 then some (.iload_n 1, 54, [1], 0, 0, []) else none) else (bif Nat.beq pc 54 then some (.iastore, 55, [], 0, 0, []) else none)) else (bif Nat.blt pc 56 then (bif Nat.beq pc 55 then some (.aload_n 0, 56, [0], 0, 0, []) else none) else (bif Nat.blt pc 59 then (bif Nat.beq pc 56 then some (.getfield 77, 59, [12, 22, 2, 131, 0], 0, 0, []) else none) else (bif Nat.beq pc 59 then some (.aload_n 0, 60, [0], 0, 0, []) else none))))))) else (bif Nat.blt pc 87 then (bif Nat.blt pc 74 then (bif Nat.blt pc 66 then (bif Nat.blt pc 64 then (bif Nat.blt pc 63 then (bif Nat.beq pc 60 then some (.getfield 71, 63, [12, 20, 0], 0, 0, []) else none) else (bif Nat.beq pc 63 then some (.iload_n 2, 64, [2], 0, 0, []) else none)) else (bif Nat.blt pc 65 then (bif Nat.beq pc 64 then some (.iastore, 65, [], 0, 0, []) else none) else (bif Nat.beq pc 65 then some (.aload_n 0, 66, [0], 0, 0, []) else none))) else (bif Nat.blt pc 70 then (bif Nat.blt pc 69 then (bif Nat.beq pc 66 then some (.getfield 80, 69, [12, 23, 2, 132, 0], 0, 0, []) else none) else (bif Nat.beq pc 69 then some (.aload_n 0, 70, [0], 0, 0, []) else none)) else (bif Nat.blt pc 73 then (bif Nat.beq pc 70 then some (.getfield 71, 73, [12, 20, 0], 0, 0, []) else none) else (bif Nat.beq pc 73 then some (.aload_n 0, 74, [0], 0, 0, []) else none)))) else (bif Nat.blt pc 80 then (bif Nat.blt pc 78 then (bif Nat.blt pc 77 then (bif Nat.beq pc 74 then some (.getfield 7, 77, [12, 0, 0], 0, 0, []) else none) else (bif Nat.beq pc 77 then some (.iload_n 3, 78, [3], 0, 0, []) else none)) else (bif Nat.blt pc 79 then (bif Nat.beq pc 78 then some (.iadd, 79, [], 0, 0, []) else none) else (bif Nat.beq pc 79 then some (.iastore, 80, [], 0, 0, []) else none))) else (bif Nat.blt pc 82 then (bif Nat.blt pc 81 then (bif Nat.beq pc 80 then some (.aload_n 0, 81, [0], 0, 0, []) else none) else (bif Nat.beq pc 81 then some (.dup, 82, [], 0, 0, []) else none)) else (bif Nat.blt pc 85 then (bif Nat.beq pc 82 then some (.getfield 19, 85, [12, 3, 0], 0, 0, []) else none) else (bif Nat.blt pc 86 then (bif Nat.beq pc 85 then some (.iconst 1, 86, [], 1, 0, []) else none) else (bif Nat.beq pc 86 then some (.iadd, 87, [], 0, 0, []) else none)))))) else (bif Nat.blt pc 103 then (bif Nat.blt pc 95 then (bif Nat.blt pc 91 then (bif Nat.blt pc 90 then (bif Nat.beq pc 87 then some (.putfield 19, 90, [12, 3, 0], 0, 0, []) else none) else (bif Nat.beq pc 90 then some (.aload_n 0, 91, [0], 0, 0, []) else none)) else (bif Nat.blt pc 94 then (bif Nat.beq pc 91 then some (.getfield 83, 94, [12, 24, 2, 133, 0], 0, 0, []) else none) else (bif Nat.beq pc 94 then some (.aload_n 0, 95, [0], 0, 0, []) else none))) else (bif Nat.blt pc 99 then (bif Nat.blt pc 98 then (bif Nat.beq pc 95 then some (.getfield 71, 98, [12, 20, 0], 0, 0, []) else none) else (bif Nat.beq pc 98 then some (.aload_n 0, 99, [0], 0, 0, []) else none)) else (bif Nat.blt pc 102 then (bif Nat.beq pc 99 then some (.getfield 19, 102, [12, 3, 0], 0, 0, []) else none) else (bif Nat.beq pc 102 then some (.iastore, 103, [], 0, 0, []) else none)))) else (bif Nat.blt pc 109 then (bif Nat.blt pc 105 then (bif Nat.blt pc 104 then (bif Nat.beq pc 103 then some (.aload_n 0, 104, [0], 0, 0, []) else none) else (bif Nat.beq pc 104 then some (.dup, 105, [], 0, 0, []) else none)) else (bif Nat.blt pc 108 then (bif Nat.beq pc 105 then some (.getfield 71, 108, [12, 20, 0], 0, 0, []) else none) else (bif Nat.beq pc 108 then some (.iconst 1, 109, [], 1, 0, []) else none))) else (bif Nat.blt pc 113 then (bif Nat.blt pc 110 then (bif Nat.beq pc 109 then some (.iadd, 110, [], 0, 0, []) else none) else (bif Nat.beq pc 110 then some (.putfield 71, 113, [12, 20, 0], 0, 0, []) else none)) else (bif Nat.blt pc 114 then (bif Nat.beq pc 113 then some (.aload_n 0, 114, [0], 0, 0, []) else none) else (bif Nat.blt pc 117 then (bif Nat.beq pc 114 then some (.getfield 71, 117, [12, 20, 0], 0, 0, []) else none) else (bif Nat.beq pc 117 then some (.ireturn, 118, [0], 0, 0, []) else none))))))))
theorem okX11_letter : ∀ pc Y, pfX11_letter pc = some Y → OKI m_X11_letter pc Y := fun pc Y => ((bt_node (bt_node (bt_node (bt_node (bt_node (bt_node (bt_leaf (P := OKI m_X11_letter) oX11_letter_0) (bt_leaf (P := OKI m_X11_letter) oX11_letter_1)) (bt_node (bt_leaf (P := OKI m_X11_letter) oX11_letter_2) (bt_leaf (P := OKI m_X11_letter) oX11_letter_5))) (bt_node (bt_node (bt_leaf (P := OKI m_X11_letter) oX11_letter_8) (bt_leaf (P := OKI m_X11_letter) oX11_letter_9)) (bt_node (bt_leaf (P := OKI m_X11_letter) oX11_letter_10) (bt_leaf (P := OKI m_X11_letter) oX11_letter_13)))) (bt_node (bt_node (bt_node (bt_leaf (P := OKI m_X11_letter) oX11_letter_16) (bt_leaf (P := OKI m_X11_letter) oX11_letter_17)) (bt_node (bt_leaf (P := OKI m_X11_letter) oX11_letter_18) (bt_leaf (P := OKI m_X11_letter) oX11_letter_19))) (bt_node (bt_node (bt_leaf (P := OKI m_X11_letter) oX11_letter_20) (bt_leaf (P := OKI m_X11_letter) oX11_letter_21)) (bt_node (bt_leaf (P := OKI m_X11_letter) oX11_letter_24) (bt_leaf (P := OKI m_X11_letter) oX11_letter_27))))) (bt_node (bt_node (bt_node (bt_node (bt_leaf (P := OKI m_X11_letter) oX11_letter_30) (bt_leaf (P := OKI m_X11_letter) oX11_letter_32)) (bt_node (bt_leaf (P := OKI m_X11_letter) oX11_letter_33) (bt_leaf (P := OKI m_X11_letter) oX11_letter_34))) (bt_node (bt_node (bt_leaf (P := OKI m_X11_letter) oX11_letter_37) (bt_leaf (P := OKI m_X11_letter) oX11_letter_39)) (bt_node (bt_leaf (P := OKI m_X11_letter) oX11_letter_42) (bt_leaf (P := OKI m_X11_letter) oX11_letter_44)))) (bt_node (bt_node (bt_node (bt_leaf (P := OKI m_X11_letter) oX11_letter_45) (bt_leaf (P := OKI m_X11_letter) oX11_letter_46)) (bt_node (bt_leaf (P := OKI m_X11_letter) oX11_letter_49) (bt_leaf (P := OKI m_X11_letter) oX11_letter_50))) (bt_node (bt_node (bt_leaf (P := OKI m_X11_letter) oX11_letter_53) (bt_leaf (P := OKI m_X11_letter) oX11_letter_54)) (bt_node (bt_leaf (P := OKI m_X11_letter) oX11_letter_55) (bt_node (bt_leaf (P := OKI m_X11_letter) oX11_letter_56) (bt_leaf (P := OKI m_X11_letter) oX11_letter_59))))))) (bt_node (bt_node (bt_node (bt_node (bt_node (bt_leaf (P := OKI m_X11_letter) oX11_letter_60) (bt_leaf (P := OKI m_X11_letter) oX11_letter_63)) (bt_node (bt_leaf (P := OKI m_X11_letter) oX11_letter_64) (bt_leaf (P := OKI m_X11_letter) oX11_letter_65))) (bt_node (bt_node (bt_leaf (P := OKI m_X11_letter) oX11_letter_66) (bt_leaf (P := OKI m_X11_letter) oX11_letter_69)) (bt_node (bt_leaf (P := OKI m_X11_letter) oX11_letter_70) (bt_leaf (P := OKI m_X11_letter) oX11_letter_73)))) (bt_node (bt_node (bt_node (bt_leaf (P := OKI m_X11_letter) oX11_letter_74) (bt_leaf (P := OKI m_X11_letter) oX11_letter_77)) (bt_node (bt_leaf (P := OKI m_X11_letter) oX11_letter_78) (bt_leaf (P := OKI m_X11_letter) oX11_letter_79))) (bt_node (bt_node (bt_leaf (P := OKI m_X11_letter) oX11_letter_80) (bt_leaf (P := OKI m_X11_letter) oX11_letter_81)) (bt_node (bt_leaf (P := OKI m_X11_letter) oX11_letter_82) (bt_node (bt_leaf (P := OKI m_X11_letter) oX11_letter_85) (bt_leaf (P := OKI m_X11_letter) oX11_letter_86)))))) (bt_node (bt_node (bt_node (bt_node (bt_leaf (P := OKI m_X11_letter) oX11_letter_87) (bt_leaf (P := OKI m_X11_letter) oX11_letter_90)) (bt_node (bt_leaf (P := OKI m_X11_letter) oX11_letter_91) (bt_leaf (P := OKI m_X11_letter) oX11_letter_94))) (bt_node (bt_node (bt_leaf (P := OKI m_X11_letter) oX11_letter_95) (bt_leaf (P := OKI m_X11_letter) oX11_letter_98)) (bt_node (bt_leaf (P := OKI m_X11_letter) oX11_letter_99) (bt_leaf (P := OKI m_X11_letter) oX11_letter_102)))) (bt_node (bt_node (bt_node (bt_leaf (P := OKI m_X11_letter) oX11_letter_103) (bt_leaf (P := OKI m_X11_letter) oX11_letter_104)) (bt_node (bt_leaf (P := OKI m_X11_letter) oX11_letter_105) (bt_leaf (P := OKI m_X11_letter) oX11_letter_108))) (bt_node (bt_node (bt_leaf (P := OKI m_X11_letter) oX11_letter_109) (bt_leaf (P := OKI m_X11_letter) oX11_letter_110)) (bt_node (bt_leaf (P := OKI m_X11_letter) oX11_letter_113) (bt_node (bt_leaf (P := OKI m_X11_letter) oX11_letter_114) (bt_leaf (P := OKI m_X11_letter) oX11_letter_117)))))))) : pfX11_letter pc = some Y → OKI m_X11_letter pc Y)
def stpX11_letter (pc : Nat) : Option (List Bool) := (bif Nat.blt pc 113 then (bif Nat.beq pc 16 then some [false, false, false, false] else none) else (bif Nat.beq pc 113 then some [true, false, false, false] else none))
def bX11_letter_0 (d rc rs : Nat) (a1 : Int32) (a2 : Int32) (a3 : Int32) (σ : XH) (Q : XV → XH → Prop) : Prop :=
  ((1 ≤ d ∧ Ec (d - 1) 0 0 m_X11_isStation [vR (some (12, 0)), vI a1] σ (kI fun x2 h1 => ((x2 = 0 → Ex d rc rs m_X11_letter 16 [vU, vU, vU, vU] [] h1 Q) ∧ (¬ x2 = 0 → ((1 ≤ d ∧ Ec (d - 1) 0 0 m_X11_isHouse [vR (some (12, 0)), vI a2] h1 (kI fun x4 h3 => ((x4 = 0 → Ex d rc rs m_X11_letter 16 [vU, vU, vU, vU] [] h3 Q) ∧ (¬ x4 = 0 → ((1 ≤ d ∧ Ec (d - 1) 0 0 m_X11_in [vR (some (12, 0)), vI a3, vI 0, vI 400] h3 (kI fun x6 h5 => ((x6 = 0 → Q (vI (-2)) h5) ∧ (¬ x6 = 0 → ((((hi h5 12 0 20) = 60 → Q (vI (-4)) h5) ∧ (¬ (hi h5 12 0 20) = 60 → ((hr h5 12 0 21 = some (130, 0) ∧ (((vp_in (hi h5 12 0 20) (hn h5 130 0) ∧ (∀ h7, h7 = wI h5 130 0 (hi h5 12 0 20).toNatClampNeg a1 → ((hr h7 12 0 22 = some (131, 0) ∧ (((vp_in (hi h7 12 0 20) (hn h7 131 0) ∧ (∀ h8, h8 = wI h7 131 0 (hi h7 12 0 20).toNatClampNeg a2 → ((hr h8 12 0 23 = some (132, 0) ∧ ((((vp_in (hi h8 12 0 20) (hn h8 132 0) ∧ (∀ h9, h9 = wI h8 132 0 (hi h8 12 0 20).toNatClampNeg ((hi h8 12 0 0) + a3) → (((∀ h10, h10 = wI h9 12 0 3 ((hi h9 12 0 3) + 1) → ((hr h10 12 0 24 = some (133, 0) ∧ ((((vp_in (hi h10 12 0 20) (hn h10 133 0) ∧ (∀ h11, h11 = wI h10 133 0 (hi h10 12 0 20).toNatClampNeg (hi h10 12 0 3) → (((∀ h12, h12 = wI h11 12 0 20 ((hi h11 12 0 20) + 1) → Ex d rc rs m_X11_letter 113 [vR (some (12, 0)), vU, vU, vU] [] h12 Q))))))))))))))))))))))))))))))))))))))))))))))))))
set_option maxRecDepth 40000 in
set_option maxHeartbeats 4000000 in
theorem sX11_letter_0 {d rc rs : Nat} {a1 : Int32} {a2 : Int32} {a3 : Int32} {σ : XH} {Q : XV → XH → Prop} (h : bX11_letter_0 d rc rs a1 a2 a3 σ Q) : Ex d rc rs m_X11_letter 0 [vR (some (12, 0)), vI a1, vI a2, vI a3] [] σ Q :=
  xtree_sound (stop := stpX11_letter) okX11_letter 60 _ _ _ _ _ _ h
def bX11_letter_16 (d rc rs : Nat)  (σ : XH) (Q : XV → XH → Prop) : Prop :=
  Q (vI (-1)) σ
theorem sX11_letter_16 {d rc rs : Nat}  {σ : XH} {Q : XV → XH → Prop} (h : bX11_letter_16 d rc rs  σ Q) : Ex d rc rs m_X11_letter 16 [vU, vU, vU, vU] [] σ Q :=
  xtree_sound (stop := stpX11_letter) okX11_letter 4 _ _ _ _ _ _ h
def bX11_letter_113 (d rc rs : Nat)  (σ : XH) (Q : XV → XH → Prop) : Prop :=
  (Q (vI (hi σ 12 0 20)) σ)
theorem sX11_letter_113 {d rc rs : Nat}  {σ : XH} {Q : XV → XH → Prop} (h : bX11_letter_113 d rc rs  σ Q) : Ex d rc rs m_X11_letter 113 [vR (some (12, 0)), vU, vU, vU] [] σ Q :=
  xtree_sound (stop := stpX11_letter) okX11_letter 5 _ _ _ _ _ _ h
/-! SpotTimersModel.hasIt(III)I -/
theorem dX11_hasIt_0 : decode cX11_hasIt 0 = .ok (.iconst 0, 1) := by decide +kernel
theorem dX11_hasIt_1 : decode cX11_hasIt 1 = .ok (.istore 4, 2) := by decide +kernel
theorem dX11_hasIt_3 : decode cX11_hasIt 3 = .ok (.iconst 0, 1) := by decide +kernel
theorem dX11_hasIt_4 : decode cX11_hasIt 4 = .ok (.istore 5, 2) := by decide +kernel
theorem dX11_hasIt_6 : decode cX11_hasIt 6 = .ok (.iload 5, 2) := by decide +kernel
theorem dX11_hasIt_8 : decode cX11_hasIt 8 = .ok (.aload_n 0, 1) := by decide +kernel
theorem dX11_hasIt_9 : decode cX11_hasIt 9 = .ok (.getfield 71, 3) := by decide +kernel
theorem dX11_hasIt_12 : decode cX11_hasIt 12 = .ok (.if_icmp .ge 109, 3) := by decide +kernel
theorem dX11_hasIt_15 : decode cX11_hasIt 15 = .ok (.aload_n 0, 1) := by decide +kernel
theorem dX11_hasIt_16 : decode cX11_hasIt 16 = .ok (.getfield 77, 3) := by decide +kernel
theorem dX11_hasIt_19 : decode cX11_hasIt 19 = .ok (.iload 5, 2) := by decide +kernel
theorem dX11_hasIt_21 : decode cX11_hasIt 21 = .ok (.iaload, 1) := by decide +kernel
theorem dX11_hasIt_22 : decode cX11_hasIt 22 = .ok (.iload_n 1, 1) := by decide +kernel
theorem dX11_hasIt_23 : decode cX11_hasIt 23 = .ok (.if_icmp .ne 92, 3) := by decide +kernel
theorem dX11_hasIt_26 : decode cX11_hasIt 26 = .ok (.aload_n 0, 1) := by decide +kernel
theorem dX11_hasIt_27 : decode cX11_hasIt 27 = .ok (.getfield 74, 3) := by decide +kernel
theorem dX11_hasIt_30 : decode cX11_hasIt 30 = .ok (.iload 5, 2) := by decide +kernel
theorem dX11_hasIt_32 : decode cX11_hasIt 32 = .ok (.iaload, 1) := by decide +kernel
theorem dX11_hasIt_33 : decode cX11_hasIt 33 = .ok (.aload_n 0, 1) := by decide +kernel
theorem dX11_hasIt_34 : decode cX11_hasIt 34 = .ok (.getfield 29, 3) := by decide +kernel
theorem dX11_hasIt_37 : decode cX11_hasIt 37 = .ok (.aload_n 0, 1) := by decide +kernel
theorem dX11_hasIt_38 : decode cX11_hasIt 38 = .ok (.getfield 41, 3) := by decide +kernel
theorem dX11_hasIt_41 : decode cX11_hasIt 41 = .ok (.iload_n 2, 1) := by decide +kernel
theorem dX11_hasIt_42 : decode cX11_hasIt 42 = .ok (.iaload, 1) := by decide +kernel
theorem dX11_hasIt_43 : decode cX11_hasIt 43 = .ok (.iaload, 1) := by decide +kernel
theorem dX11_hasIt_44 : decode cX11_hasIt 44 = .ok (.if_icmp .ne 71, 3) := by decide +kernel
theorem dX11_hasIt_47 : decode cX11_hasIt 47 = .ok (.aload_n 0, 1) := by decide +kernel
theorem dX11_hasIt_48 : decode cX11_hasIt 48 = .ok (.getfield 80, 3) := by decide +kernel
theorem dX11_hasIt_51 : decode cX11_hasIt 51 = .ok (.iload 5, 2) := by decide +kernel
theorem dX11_hasIt_53 : decode cX11_hasIt 53 = .ok (.iaload, 1) := by decide +kernel
theorem dX11_hasIt_54 : decode cX11_hasIt 54 = .ok (.iload_n 3, 1) := by decide +kernel
theorem dX11_hasIt_55 : decode cX11_hasIt 55 = .ok (.if_icmp .gt 60, 3) := by decide +kernel
theorem dX11_hasIt_58 : decode cX11_hasIt 58 = .ok (.aload_n 0, 1) := by decide +kernel
theorem dX11_hasIt_59 : decode cX11_hasIt 59 = .ok (.getfield 83, 3) := by decide +kernel
theorem dX11_hasIt_62 : decode cX11_hasIt 62 = .ok (.iload 5, 2) := by decide +kernel
theorem dX11_hasIt_64 : decode cX11_hasIt 64 = .ok (.iaload, 1) := by decide +kernel
theorem dX11_hasIt_65 : decode cX11_hasIt 65 = .ok (.aload_n 0, 1) := by decide +kernel
theorem dX11_hasIt_66 : decode cX11_hasIt 66 = .ok (.getfield 62, 3) := by decide +kernel
theorem dX11_hasIt_69 : decode cX11_hasIt 69 = .ok (.iload_n 2, 1) := by decide +kernel
theorem dX11_hasIt_70 : decode cX11_hasIt 70 = .ok (.iaload, 1) := by decide +kernel
theorem dX11_hasIt_71 : decode cX11_hasIt 71 = .ok (.if_icmp .ge 6, 3) := by decide +kernel
theorem dX11_hasIt_74 : decode cX11_hasIt 74 = .ok (.goto 41, 3) := by decide +kernel
theorem dX11_hasIt_77 : decode cX11_hasIt 77 = .ok (.aload_n 0, 1) := by decide +kernel
theorem dX11_hasIt_78 : decode cX11_hasIt 78 = .ok (.getfield 65, 3) := by decide +kernel
theorem dX11_hasIt_81 : decode cX11_hasIt 81 = .ok (.iload_n 2, 1) := by decide +kernel
theorem dX11_hasIt_82 : decode cX11_hasIt 82 = .ok (.iaload, 1) := by decide +kernel
theorem dX11_hasIt_83 : decode cX11_hasIt 83 = .ok (.ifCond .le 19, 3) := by decide +kernel
theorem dX11_hasIt_86 : decode cX11_hasIt 86 = .ok (.aload_n 0, 1) := by decide +kernel
theorem dX11_hasIt_87 : decode cX11_hasIt 87 = .ok (.getfield 83, 3) := by decide +kernel
theorem dX11_hasIt_90 : decode cX11_hasIt 90 = .ok (.iload 5, 2) := by decide +kernel
theorem dX11_hasIt_92 : decode cX11_hasIt 92 = .ok (.iaload, 1) := by decide +kernel
theorem dX11_hasIt_93 : decode cX11_hasIt 93 = .ok (.aload_n 0, 1) := by decide +kernel
theorem dX11_hasIt_94 : decode cX11_hasIt 94 = .ok (.getfield 65, 3) := by decide +kernel
theorem dX11_hasIt_97 : decode cX11_hasIt 97 = .ok (.iload_n 2, 1) := by decide +kernel
theorem dX11_hasIt_98 : decode cX11_hasIt 98 = .ok (.iaload, 1) := by decide +kernel
theorem dX11_hasIt_99 : decode cX11_hasIt 99 = .ok (.if_icmp .gt 9, 3) := by decide +kernel
theorem dX11_hasIt_102 : decode cX11_hasIt 102 = .ok (.iload 4, 2) := by decide +kernel
theorem dX11_hasIt_104 : decode cX11_hasIt 104 = .ok (.iconst 2, 1) := by decide +kernel
theorem dX11_hasIt_105 : decode cX11_hasIt 105 = .ok (.if_icmp .ne 7, 3) := by decide +kernel
theorem dX11_hasIt_108 : decode cX11_hasIt 108 = .ok (.iconst 2, 1) := by decide +kernel
theorem dX11_hasIt_109 : decode cX11_hasIt 109 = .ok (.goto 4, 3) := by decide +kernel
theorem dX11_hasIt_112 : decode cX11_hasIt 112 = .ok (.iconst 1, 1) := by decide +kernel
theorem dX11_hasIt_113 : decode cX11_hasIt 113 = .ok (.istore 4, 2) := by decide +kernel
theorem dX11_hasIt_115 : decode cX11_hasIt 115 = .ok (.iinc 5 1, 3) := by decide +kernel
theorem dX11_hasIt_118 : decode cX11_hasIt 118 = .ok (.goto (-112), 3) := by decide +kernel
theorem dX11_hasIt_121 : decode cX11_hasIt 121 = .ok (.iload 4, 2) := by decide +kernel
theorem dX11_hasIt_123 : decode cX11_hasIt 123 = .ok (.ireturn, 1) := by decide +kernel
theorem oX11_hasIt_0 : OKI 178 0 (.iconst 0, 1, [], 0, 0, []) := And.intro dX11_hasIt_0 (And.intro rfl (by decide +kernel))
theorem oX11_hasIt_1 : OKI 178 1 (.istore 4, 3, [4], 0, 0, []) := And.intro dX11_hasIt_1 (And.intro rfl (And.intro rfl (by decide)))
theorem oX11_hasIt_3 : OKI 178 3 (.iconst 0, 4, [], 0, 0, []) := And.intro dX11_hasIt_3 (And.intro rfl (by decide +kernel))
theorem oX11_hasIt_4 : OKI 178 4 (.istore 5, 6, [5], 0, 0, []) := And.intro dX11_hasIt_4 (And.intro rfl (And.intro rfl (by decide)))
theorem oX11_hasIt_6 : OKI 178 6 (.iload 5, 8, [5], 0, 0, []) := And.intro dX11_hasIt_6 (And.intro rfl (rfl))
theorem oX11_hasIt_8 : OKI 178 8 (.aload_n 0, 9, [0], 0, 0, []) := And.intro dX11_hasIt_8 (And.intro rfl (rfl))
theorem oX11_hasIt_9 : OKI 178 9 (.getfield 71, 12, [12, 20, 0], 0, 0, []) := And.intro dX11_hasIt_9 (And.intro rfl (⟨(RX11, TX11, 69), "SpotTimersModel", rfl, by decide, tm_5 _ (List.mem_of_getElem? (i := 226) rfl) rfl, Or.inl rfl, Or.inr (Or.inr (And.intro rfl (Or.inl rfl)))⟩))
theorem oX11_hasIt_12 : OKI 178 12 (.if_icmp .ge 109, 15, [121], 0, 0, []) := And.intro dX11_hasIt_12 (And.intro rfl (by decide))
theorem oX11_hasIt_15 : OKI 178 15 (.aload_n 0, 16, [0], 0, 0, []) := And.intro dX11_hasIt_15 (And.intro rfl (rfl))
theorem oX11_hasIt_16 : OKI 178 16 (.getfield 77, 19, [12, 22, 2, 131, 0], 0, 0, []) := And.intro dX11_hasIt_16 (And.intro rfl (⟨(RX11, TX11, 69), "SpotTimersModel", rfl, by decide, tm_5 _ (List.mem_of_getElem? (i := 228) rfl) rfl, Or.inl rfl, rfl, rfl⟩))
theorem oX11_hasIt_19 : OKI 178 19 (.iload 5, 21, [5], 0, 0, []) := And.intro dX11_hasIt_19 (And.intro rfl (rfl))
theorem oX11_hasIt_21 : OKI 178 21 (.iaload, 22, [], 0, 0, []) := And.intro dX11_hasIt_21 rfl
theorem oX11_hasIt_22 : OKI 178 22 (.iload_n 1, 23, [1], 0, 0, []) := And.intro dX11_hasIt_22 (And.intro rfl (rfl))
theorem oX11_hasIt_23 : OKI 178 23 (.if_icmp .ne 92, 26, [115], 0, 0, []) := And.intro dX11_hasIt_23 (And.intro rfl (by decide))
theorem oX11_hasIt_26 : OKI 178 26 (.aload_n 0, 27, [0], 0, 0, []) := And.intro dX11_hasIt_26 (And.intro rfl (rfl))
theorem oX11_hasIt_27 : OKI 178 27 (.getfield 74, 30, [12, 21, 2, 130, 0], 0, 0, []) := And.intro dX11_hasIt_27 (And.intro rfl (⟨(RX11, TX11, 69), "SpotTimersModel", rfl, by decide, tm_5 _ (List.mem_of_getElem? (i := 227) rfl) rfl, Or.inl rfl, rfl, rfl⟩))
theorem oX11_hasIt_30 : OKI 178 30 (.iload 5, 32, [5], 0, 0, []) := And.intro dX11_hasIt_30 (And.intro rfl (rfl))
theorem oX11_hasIt_32 : OKI 178 32 (.iaload, 33, [], 0, 0, []) := And.intro dX11_hasIt_32 rfl
theorem oX11_hasIt_33 : OKI 178 33 (.aload_n 0, 34, [0], 0, 0, []) := And.intro dX11_hasIt_33 (And.intro rfl (rfl))
theorem oX11_hasIt_34 : OKI 178 34 (.getfield 29, 37, [12, 6, 2, 118, 0], 0, 0, []) := And.intro dX11_hasIt_34 (And.intro rfl (⟨(RX11, TX11, 69), "SpotTimersModel", rfl, by decide, tm_5 _ (List.mem_of_getElem? (i := 212) rfl) rfl, Or.inl rfl, rfl, rfl⟩))
theorem oX11_hasIt_37 : OKI 178 37 (.aload_n 0, 38, [0], 0, 0, []) := And.intro dX11_hasIt_37 (And.intro rfl (rfl))
theorem oX11_hasIt_38 : OKI 178 38 (.getfield 41, 41, [12, 10, 2, 121, 0], 0, 0, []) := And.intro dX11_hasIt_38 (And.intro rfl (⟨(RX11, TX11, 69), "SpotTimersModel", rfl, by decide, tm_5 _ (List.mem_of_getElem? (i := 216) rfl) rfl, Or.inl rfl, rfl, rfl⟩))
theorem oX11_hasIt_41 : OKI 178 41 (.iload_n 2, 42, [2], 0, 0, []) := And.intro dX11_hasIt_41 (And.intro rfl (rfl))
theorem oX11_hasIt_42 : OKI 178 42 (.iaload, 43, [], 0, 0, []) := And.intro dX11_hasIt_42 rfl
theorem oX11_hasIt_43 : OKI 178 43 (.iaload, 44, [], 0, 0, []) := And.intro dX11_hasIt_43 rfl
theorem oX11_hasIt_44 : OKI 178 44 (.if_icmp .ne 71, 47, [115], 0, 0, []) := And.intro dX11_hasIt_44 (And.intro rfl (by decide))
theorem oX11_hasIt_47 : OKI 178 47 (.aload_n 0, 48, [0], 0, 0, []) := And.intro dX11_hasIt_47 (And.intro rfl (rfl))
theorem oX11_hasIt_48 : OKI 178 48 (.getfield 80, 51, [12, 23, 2, 132, 0], 0, 0, []) := And.intro dX11_hasIt_48 (And.intro rfl (⟨(RX11, TX11, 69), "SpotTimersModel", rfl, by decide, tm_5 _ (List.mem_of_getElem? (i := 229) rfl) rfl, Or.inl rfl, rfl, rfl⟩))
theorem oX11_hasIt_51 : OKI 178 51 (.iload 5, 53, [5], 0, 0, []) := And.intro dX11_hasIt_51 (And.intro rfl (rfl))
theorem oX11_hasIt_53 : OKI 178 53 (.iaload, 54, [], 0, 0, []) := And.intro dX11_hasIt_53 rfl
theorem oX11_hasIt_54 : OKI 178 54 (.iload_n 3, 55, [3], 0, 0, []) := And.intro dX11_hasIt_54 (And.intro rfl (rfl))
theorem oX11_hasIt_55 : OKI 178 55 (.if_icmp .gt 60, 58, [115], 0, 0, []) := And.intro dX11_hasIt_55 (And.intro rfl (by decide))
theorem oX11_hasIt_58 : OKI 178 58 (.aload_n 0, 59, [0], 0, 0, []) := And.intro dX11_hasIt_58 (And.intro rfl (rfl))
theorem oX11_hasIt_59 : OKI 178 59 (.getfield 83, 62, [12, 24, 2, 133, 0], 0, 0, []) := And.intro dX11_hasIt_59 (And.intro rfl (⟨(RX11, TX11, 69), "SpotTimersModel", rfl, by decide, tm_5 _ (List.mem_of_getElem? (i := 230) rfl) rfl, Or.inl rfl, rfl, rfl⟩))
theorem oX11_hasIt_62 : OKI 178 62 (.iload 5, 64, [5], 0, 0, []) := And.intro dX11_hasIt_62 (And.intro rfl (rfl))
theorem oX11_hasIt_64 : OKI 178 64 (.iaload, 65, [], 0, 0, []) := And.intro dX11_hasIt_64 rfl
theorem oX11_hasIt_65 : OKI 178 65 (.aload_n 0, 66, [0], 0, 0, []) := And.intro dX11_hasIt_65 (And.intro rfl (rfl))
theorem oX11_hasIt_66 : OKI 178 66 (.getfield 62, 69, [12, 17, 2, 128, 0], 0, 0, []) := And.intro dX11_hasIt_66 (And.intro rfl (⟨(RX11, TX11, 69), "SpotTimersModel", rfl, by decide, tm_5 _ (List.mem_of_getElem? (i := 223) rfl) rfl, Or.inl rfl, rfl, rfl⟩))
theorem oX11_hasIt_69 : OKI 178 69 (.iload_n 2, 70, [2], 0, 0, []) := And.intro dX11_hasIt_69 (And.intro rfl (rfl))
theorem oX11_hasIt_70 : OKI 178 70 (.iaload, 71, [], 0, 0, []) := And.intro dX11_hasIt_70 rfl
theorem oX11_hasIt_71 : OKI 178 71 (.if_icmp .ge 6, 74, [77], 0, 0, []) := And.intro dX11_hasIt_71 (And.intro rfl (by decide))
theorem oX11_hasIt_74 : OKI 178 74 (.goto 41, 77, [115], 0, 0, []) := And.intro dX11_hasIt_74 (And.intro rfl (by decide))
theorem oX11_hasIt_77 : OKI 178 77 (.aload_n 0, 78, [0], 0, 0, []) := And.intro dX11_hasIt_77 (And.intro rfl (rfl))
theorem oX11_hasIt_78 : OKI 178 78 (.getfield 65, 81, [12, 18, 2, 129, 0], 0, 0, []) := And.intro dX11_hasIt_78 (And.intro rfl (⟨(RX11, TX11, 69), "SpotTimersModel", rfl, by decide, tm_5 _ (List.mem_of_getElem? (i := 224) rfl) rfl, Or.inl rfl, rfl, rfl⟩))
theorem oX11_hasIt_81 : OKI 178 81 (.iload_n 2, 82, [2], 0, 0, []) := And.intro dX11_hasIt_81 (And.intro rfl (rfl))
theorem oX11_hasIt_82 : OKI 178 82 (.iaload, 83, [], 0, 0, []) := And.intro dX11_hasIt_82 rfl
theorem oX11_hasIt_83 : OKI 178 83 (.ifCond .le 19, 86, [102], 0, 0, []) := And.intro dX11_hasIt_83 (And.intro rfl (by decide))
theorem oX11_hasIt_86 : OKI 178 86 (.aload_n 0, 87, [0], 0, 0, []) := And.intro dX11_hasIt_86 (And.intro rfl (rfl))
theorem oX11_hasIt_87 : OKI 178 87 (.getfield 83, 90, [12, 24, 2, 133, 0], 0, 0, []) := And.intro dX11_hasIt_87 (And.intro rfl (⟨(RX11, TX11, 69), "SpotTimersModel", rfl, by decide, tm_5 _ (List.mem_of_getElem? (i := 230) rfl) rfl, Or.inl rfl, rfl, rfl⟩))
theorem oX11_hasIt_90 : OKI 178 90 (.iload 5, 92, [5], 0, 0, []) := And.intro dX11_hasIt_90 (And.intro rfl (rfl))
theorem oX11_hasIt_92 : OKI 178 92 (.iaload, 93, [], 0, 0, []) := And.intro dX11_hasIt_92 rfl
theorem oX11_hasIt_93 : OKI 178 93 (.aload_n 0, 94, [0], 0, 0, []) := And.intro dX11_hasIt_93 (And.intro rfl (rfl))
theorem oX11_hasIt_94 : OKI 178 94 (.getfield 65, 97, [12, 18, 2, 129, 0], 0, 0, []) := And.intro dX11_hasIt_94 (And.intro rfl (⟨(RX11, TX11, 69), "SpotTimersModel", rfl, by decide, tm_5 _ (List.mem_of_getElem? (i := 224) rfl) rfl, Or.inl rfl, rfl, rfl⟩))
theorem oX11_hasIt_97 : OKI 178 97 (.iload_n 2, 98, [2], 0, 0, []) := And.intro dX11_hasIt_97 (And.intro rfl (rfl))
theorem oX11_hasIt_98 : OKI 178 98 (.iaload, 99, [], 0, 0, []) := And.intro dX11_hasIt_98 rfl
theorem oX11_hasIt_99 : OKI 178 99 (.if_icmp .gt 9, 102, [108], 0, 0, []) := And.intro dX11_hasIt_99 (And.intro rfl (by decide))
theorem oX11_hasIt_102 : OKI 178 102 (.iload 4, 104, [4], 0, 0, []) := And.intro dX11_hasIt_102 (And.intro rfl (rfl))
theorem oX11_hasIt_104 : OKI 178 104 (.iconst 2, 105, [], 2, 0, []) := And.intro dX11_hasIt_104 (And.intro rfl (by decide +kernel))
theorem oX11_hasIt_105 : OKI 178 105 (.if_icmp .ne 7, 108, [112], 0, 0, []) := And.intro dX11_hasIt_105 (And.intro rfl (by decide))
theorem oX11_hasIt_108 : OKI 178 108 (.iconst 2, 109, [], 2, 0, []) := And.intro dX11_hasIt_108 (And.intro rfl (by decide +kernel))
theorem oX11_hasIt_109 : OKI 178 109 (.goto 4, 112, [113], 0, 0, []) := And.intro dX11_hasIt_109 (And.intro rfl (by decide))
theorem oX11_hasIt_112 : OKI 178 112 (.iconst 1, 113, [], 1, 0, []) := And.intro dX11_hasIt_112 (And.intro rfl (by decide +kernel))
theorem oX11_hasIt_113 : OKI 178 113 (.istore 4, 115, [4], 0, 0, []) := And.intro dX11_hasIt_113 (And.intro rfl (And.intro rfl (by decide)))
theorem oX11_hasIt_115 : OKI 178 115 (.iinc 5 1, 118, [5], 1, 0, []) := And.intro dX11_hasIt_115 (And.intro rfl (And.intro rfl (And.intro (by decide +kernel) (by decide))))
theorem oX11_hasIt_118 : OKI 178 118 (.goto (-112), 121, [6], 0, 0, []) := And.intro dX11_hasIt_118 (And.intro rfl (by decide))
theorem oX11_hasIt_121 : OKI 178 121 (.iload 4, 123, [4], 0, 0, []) := And.intro dX11_hasIt_121 (And.intro rfl (rfl))
theorem oX11_hasIt_123 : OKI 178 123 (.ireturn, 124, [0], 0, 0, []) := And.intro dX11_hasIt_123 (Or.inl (And.intro rfl rfl))
def pfX11_hasIt (pc : Nat) : Option XE := (bif Nat.blt pc 59 then (bif Nat.blt pc 30 then (bif Nat.blt pc 15 then (bif Nat.blt pc 6 then (bif Nat.blt pc 3 then (bif Nat.blt pc 1 then (bif Nat.beq pc 0 then some (.iconst 0, 1, [], 0, 0, []) else none) else (bif Nat.beq pc 1 then some (.istore 4, 3, [4], 0, 0, []) else none)) else (bif Nat.blt pc 4 then (bif Nat.beq pc 3 then some (.iconst 0, 4, [], 0, 0, []) else none) else (bif Nat.beq pc 4 then some (.istore 5, 6, [5], 0, 0, []) else none))) else (bif Nat.blt pc 9 then (bif Nat.blt pc 8 then (bif Nat.beq pc 6 then some (.iload 5, 8, [5], 0, 0, []) else none) else (bif Nat.beq pc 8 then some (.aload_n 0, 9, [0], 0, 0, []) else none)) else (bif Nat.blt pc 12 then (bif Nat.beq pc 9 then some (.getfield 71, 12, [12, 20, 0], 0, 0, []) else none) else (bif Nat.beq pc 12 then some (.if_icmp .ge 109, 15, [121], 0, 0, []) else none)))) else (bif Nat.blt pc 22 then (bif Nat.blt pc 19 then (bif Nat.blt pc 16 then (bif Nat.beq pc 15 then some (.aload_n 0, 16, [0], 0, 0, []) else none) else (bif Nat.beq pc 16 then some (.getfield 77, 19, [12, 22, 2, 131, 0], 0, 0, []) else none)) else (bif Nat.blt pc 21 then (bif Nat.beq pc 19 then some (.iload 5, 21, [5], 0, 0, []) else none) else (bif Nat.beq pc 21 then some (.iaload, 22, [], 0, 0, []) else none))) else (bif Nat.blt pc 26 then (bif Nat.blt pc 23 then (bif Nat.beq pc 22 then some (.iload_n 1, 23, [1], 0, 0, []) else none) else (bif Nat.beq pc 23 then some (.if_icmp .ne 92, 26, [115], 0, 0, []) else none)) else (bif Nat.blt pc 27 then (bif Nat.beq pc 26 then some (.aload_n 0, 27, [0], 0, 0, []) else none) else (bif Nat.beq pc 27 then some (.getfield 74, 30, [12, 21, 2, 130, 0], 0, 0, []) else none))))) else (bif Nat.blt pc 43 then (bif Nat.blt pc 37 then (bif Nat.blt pc 33 then (bif Nat.blt pc 32 then (bif Nat.beq pc 30 then some (.iload 5, 32, [5], 0, 0, []) else none) else (bif Nat.beq pc 32 then some (.iaload, 33, [], 0, 0, []) else none)) else (bif Nat.blt pc 34 then (bif Nat.beq pc 33 then some (.aload_n 0, 34, [0], 0, 0, []) else none) else (bif Nat.beq pc 34 then some (.getfield 29, 37, [12, 6, 2, 118, 0], 0, 0, []) else none))) else (bif Nat.blt pc 41 then (bif Nat.blt pc 38 then (bif Nat.beq pc 37 then some (.aload_n 0, 38, [0], 0, 0, []) else none) else (bif Nat.beq pc 38 then some (.getfield 41, 41, [12, 10, 2, 121, 0], 0, 0, []) else none)) else (bif Nat.blt pc 42 then (bif Nat.beq pc 41 then some (.iload_n 2, 42, [2], 0, 0, []) else none) else (bif Nat.beq pc 42 then some (.iaload, 43, [], 0, 0, []) else none)))) else (bif Nat.blt pc 51 then (bif Nat.blt pc 47 then (bif Nat.blt pc 44 then (bif Nat.beq pc 43 then some (.iaload, 44, [], 0, 0, []) else none) else (bif Nat.beq pc 44 then some (.if_icmp .ne 71, 47, [115], 0, 0, []) else none)) else (bif Nat.blt pc 48 then (bif Nat.beq pc 47 then some (.aload_n 0, 48, [0], 0, 0, []) else none) else (bif Nat.beq pc 48 then some (.getfield 80, 51, [12, 23, 2, 132, 0], 0, 0, []) else none))) else (bif Nat.blt pc 54 then (bif Nat.blt pc 53 then (bif Nat.beq pc 51 then some (.iload 5, 53, [5], 0, 0, []) else none) else (bif Nat.beq pc 53 then some (.iaload, 54, [], 0, 0, []) else none)) else (bif Nat.blt pc 55 then (bif Nat.beq pc 54 then some (.iload_n 3, 55, [3], 0, 0, []) else none) else (bif Nat.blt pc 58 then (bif Nat.beq pc 55 then some (.if_icmp .gt 60, 58, [115], 0, 0, []) else none) else (bif Nat.beq pc 58 then some (.aload_n 0, 59, [0], 0, 0, []) else none))))))) else (bif Nat.blt pc 92 then (bif Nat.blt pc 74 then (bif Nat.blt pc 66 then (bif Nat.blt pc 64 then (bif Nat.blt pc 62 then (bif Nat.beq pc 59 then some (.getfield 83, 62, [12, 24, 2, 133, 0], 0, 0, []) else none) else (bif Nat.beq pc 62 then some (.iload 5, 64, [5], 0, 0, []) else none)) else (bif Nat.blt pc 65 then (bif Nat.beq pc 64 then some (.iaload, 65, [], 0, 0, []) else none) else (bif Nat.beq pc 65 then some (.aload_n 0, 66, [0], 0, 0, []) else none))) else (bif Nat.blt pc 70 then (bif Nat.blt pc 69 then (bif Nat.beq pc 66 then some (.getfield 62, 69, [12, 17, 2, 128, 0], 0, 0, []) else none) else (bif Nat.beq pc 69 then some (.iload_n 2, 70, [2], 0, 0, []) else none)) else (bif Nat.blt pc 71 then (bif Nat.beq pc 70 then some (.iaload, 71, [], 0, 0, []) else none) else (bif Nat.beq pc 71 then some (.if_icmp .ge 6, 74, [77], 0, 0, []) else none)))) else (bif Nat.blt pc 82 then (bif Nat.blt pc 78 then (bif Nat.blt pc 77 then (bif Nat.beq pc 74 then some (.goto 41, 77, [115], 0, 0, []) else none) else (bif Nat.beq pc 77 then some (.aload_n 0, 78, [0], 0, 0, []) else none)) else (bif Nat.blt pc 81 then (bif Nat.beq pc 78 then some (.getfield 65, 81, [12, 18, 2, 129, 0], 0, 0, []) else none) else (bif Nat.beq pc 81 then some (.iload_n 2, 82, [2], 0, 0, []) else none))) else (bif Nat.blt pc 86 then (bif Nat.blt pc 83 then (bif Nat.beq pc 82 then some (.iaload, 83, [], 0, 0, []) else none) else (bif Nat.beq pc 83 then some (.ifCond .le 19, 86, [102], 0, 0, []) else none)) else (bif Nat.blt pc 87 then (bif Nat.beq pc 86 then some (.aload_n 0, 87, [0], 0, 0, []) else none) else (bif Nat.blt pc 90 then (bif Nat.beq pc 87 then some (.getfield 83, 90, [12, 24, 2, 133, 0], 0, 0, []) else none) else (bif Nat.beq pc 90 then some (.iload 5, 92, [5], 0, 0, []) else none)))))) else (bif Nat.blt pc 105 then (bif Nat.blt pc 98 then (bif Nat.blt pc 94 then (bif Nat.blt pc 93 then (bif Nat.beq pc 92 then some (.iaload, 93, [], 0, 0, []) else none) else (bif Nat.beq pc 93 then some (.aload_n 0, 94, [0], 0, 0, []) else none)) else (bif Nat.blt pc 97 then (bif Nat.beq pc 94 then some (.getfield 65, 97, [12, 18, 2, 129, 0], 0, 0, []) else none) else (bif Nat.beq pc 97 then some (.iload_n 2, 98, [2], 0, 0, []) else none))) else (bif Nat.blt pc 102 then (bif Nat.blt pc 99 then (bif Nat.beq pc 98 then some (.iaload, 99, [], 0, 0, []) else none) else (bif Nat.beq pc 99 then some (.if_icmp .gt 9, 102, [108], 0, 0, []) else none)) else (bif Nat.blt pc 104 then (bif Nat.beq pc 102 then some (.iload 4, 104, [4], 0, 0, []) else none) else (bif Nat.beq pc 104 then some (.iconst 2, 105, [], 2, 0, []) else none)))) else (bif Nat.blt pc 113 then (bif Nat.blt pc 109 then (bif Nat.blt pc 108 then (bif Nat.beq pc 105 then some (.if_icmp .ne 7, 108, [112], 0, 0, []) else none) else (bif Nat.beq pc 108 then some (.iconst 2, 109, [], 2, 0, []) else none)) else (bif Nat.blt pc 112 then (bif Nat.beq pc 109 then some (.goto 4, 112, [113], 0, 0, []) else none) else (bif Nat.beq pc 112 then some (.iconst 1, 113, [], 1, 0, []) else none))) else (bif Nat.blt pc 118 then (bif Nat.blt pc 115 then (bif Nat.beq pc 113 then some (.istore 4, 115, [4], 0, 0, []) else none) else (bif Nat.beq pc 115 then some (.iinc 5 1, 118, [5], 1, 0, []) else none)) else (bif Nat.blt pc 121 then (bif Nat.beq pc 118 then some (.goto (-112), 121, [6], 0, 0, []) else none) else (bif Nat.blt pc 123 then (bif Nat.beq pc 121 then some (.iload 4, 123, [4], 0, 0, []) else none) else (bif Nat.beq pc 123 then some (.ireturn, 124, [0], 0, 0, []) else none))))))))
theorem okX11_hasIt : ∀ pc Y, pfX11_hasIt pc = some Y → OKI m_X11_hasIt pc Y := fun pc Y => ((bt_node (bt_node (bt_node (bt_node (bt_node (bt_node (bt_leaf (P := OKI m_X11_hasIt) oX11_hasIt_0) (bt_leaf (P := OKI m_X11_hasIt) oX11_hasIt_1)) (bt_node (bt_leaf (P := OKI m_X11_hasIt) oX11_hasIt_3) (bt_leaf (P := OKI m_X11_hasIt) oX11_hasIt_4))) (bt_node (bt_node (bt_leaf (P := OKI m_X11_hasIt) oX11_hasIt_6) (bt_leaf (P := OKI m_X11_hasIt) oX11_hasIt_8)) (bt_node (bt_leaf (P := OKI m_X11_hasIt) oX11_hasIt_9) (bt_leaf (P := OKI m_X11_hasIt) oX11_hasIt_12)))) (bt_node (bt_node (bt_node (bt_leaf (P := OKI m_X11_hasIt) oX11_hasIt_15) (bt_leaf (P := OKI m_X11_hasIt) oX11_hasIt_16)) (bt_node (bt_leaf (P := OKI m_X11_hasIt) oX11_hasIt_19) (bt_leaf (P := OKI m_X11_hasIt) oX11_hasIt_21))) (bt_node (bt_node (bt_leaf (P := OKI m_X11_hasIt) oX11_hasIt_22) (bt_leaf (P := OKI m_X11_hasIt) oX11_hasIt_23)) (bt_node (bt_leaf (P := OKI m_X11_hasIt) oX11_hasIt_26) (bt_leaf (P := OKI m_X11_hasIt) oX11_hasIt_27))))) (bt_node (bt_node (bt_node (bt_node (bt_leaf (P := OKI m_X11_hasIt) oX11_hasIt_30) (bt_leaf (P := OKI m_X11_hasIt) oX11_hasIt_32)) (bt_node (bt_leaf (P := OKI m_X11_hasIt) oX11_hasIt_33) (bt_leaf (P := OKI m_X11_hasIt) oX11_hasIt_34))) (bt_node (bt_node (bt_leaf (P := OKI m_X11_hasIt) oX11_hasIt_37) (bt_leaf (P := OKI m_X11_hasIt) oX11_hasIt_38)) (bt_node (bt_leaf (P := OKI m_X11_hasIt) oX11_hasIt_41) (bt_leaf (P := OKI m_X11_hasIt) oX11_hasIt_42)))) (bt_node (bt_node (bt_node (bt_leaf (P := OKI m_X11_hasIt) oX11_hasIt_43) (bt_leaf (P := OKI m_X11_hasIt) oX11_hasIt_44)) (bt_node (bt_leaf (P := OKI m_X11_hasIt) oX11_hasIt_47) (bt_leaf (P := OKI m_X11_hasIt) oX11_hasIt_48))) (bt_node (bt_node (bt_leaf (P := OKI m_X11_hasIt) oX11_hasIt_51) (bt_leaf (P := OKI m_X11_hasIt) oX11_hasIt_53)) (bt_node (bt_leaf (P := OKI m_X11_hasIt) oX11_hasIt_54) (bt_node (bt_leaf (P := OKI m_X11_hasIt) oX11_hasIt_55) (bt_leaf (P := OKI m_X11_hasIt) oX11_hasIt_58))))))) (bt_node (bt_node (bt_node (bt_node (bt_node (bt_leaf (P := OKI m_X11_hasIt) oX11_hasIt_59) (bt_leaf (P := OKI m_X11_hasIt) oX11_hasIt_62)) (bt_node (bt_leaf (P := OKI m_X11_hasIt) oX11_hasIt_64) (bt_leaf (P := OKI m_X11_hasIt) oX11_hasIt_65))) (bt_node (bt_node (bt_leaf (P := OKI m_X11_hasIt) oX11_hasIt_66) (bt_leaf (P := OKI m_X11_hasIt) oX11_hasIt_69)) (bt_node (bt_leaf (P := OKI m_X11_hasIt) oX11_hasIt_70) (bt_leaf (P := OKI m_X11_hasIt) oX11_hasIt_71)))) (bt_node (bt_node (bt_node (bt_leaf (P := OKI m_X11_hasIt) oX11_hasIt_74) (bt_leaf (P := OKI m_X11_hasIt) oX11_hasIt_77)) (bt_node (bt_leaf (P := OKI m_X11_hasIt) oX11_hasIt_78) (bt_leaf (P := OKI m_X11_hasIt) oX11_hasIt_81))) (bt_node (bt_node (bt_leaf (P := OKI m_X11_hasIt) oX11_hasIt_82) (bt_leaf (P := OKI m_X11_hasIt) oX11_hasIt_83)) (bt_node (bt_leaf (P := OKI m_X11_hasIt) oX11_hasIt_86) (bt_node (bt_leaf (P := OKI m_X11_hasIt) oX11_hasIt_87) (bt_leaf (P := OKI m_X11_hasIt) oX11_hasIt_90)))))) (bt_node (bt_node (bt_node (bt_node (bt_leaf (P := OKI m_X11_hasIt) oX11_hasIt_92) (bt_leaf (P := OKI m_X11_hasIt) oX11_hasIt_93)) (bt_node (bt_leaf (P := OKI m_X11_hasIt) oX11_hasIt_94) (bt_leaf (P := OKI m_X11_hasIt) oX11_hasIt_97))) (bt_node (bt_node (bt_leaf (P := OKI m_X11_hasIt) oX11_hasIt_98) (bt_leaf (P := OKI m_X11_hasIt) oX11_hasIt_99)) (bt_node (bt_leaf (P := OKI m_X11_hasIt) oX11_hasIt_102) (bt_leaf (P := OKI m_X11_hasIt) oX11_hasIt_104)))) (bt_node (bt_node (bt_node (bt_leaf (P := OKI m_X11_hasIt) oX11_hasIt_105) (bt_leaf (P := OKI m_X11_hasIt) oX11_hasIt_108)) (bt_node (bt_leaf (P := OKI m_X11_hasIt) oX11_hasIt_109) (bt_leaf (P := OKI m_X11_hasIt) oX11_hasIt_112))) (bt_node (bt_node (bt_leaf (P := OKI m_X11_hasIt) oX11_hasIt_113) (bt_leaf (P := OKI m_X11_hasIt) oX11_hasIt_115)) (bt_node (bt_leaf (P := OKI m_X11_hasIt) oX11_hasIt_118) (bt_node (bt_leaf (P := OKI m_X11_hasIt) oX11_hasIt_121) (bt_leaf (P := OKI m_X11_hasIt) oX11_hasIt_123)))))))) : pfX11_hasIt pc = some Y → OKI m_X11_hasIt pc Y)
def stpX11_hasIt (pc : Nat) : Option (List Bool) := (bif Nat.blt pc 108 then (bif Nat.blt pc 102 then (bif Nat.beq pc 6 then some [true, true, true, true, true, true] else none) else (bif Nat.beq pc 102 then some [true, true, true, true, true, true] else none)) else (bif Nat.blt pc 113 then (bif Nat.beq pc 108 then some [true, true, true, true, false, true] else none) else (bif Nat.blt pc 115 then (bif Nat.beq pc 113 then some [true, true, true, true, false, true] else none) else (bif Nat.beq pc 115 then some [true, true, true, true, true, true] else none))))
def bX11_hasIt_0 (d rc rs : Nat) (a1 : Int32) (a2 : Int32) (a3 : Int32) (σ : XH) (Q : XV → XH → Prop) : Prop :=
  Ex d rc rs m_X11_hasIt 6 [vR (some (12, 0)), vI a1, vI a2, vI a3, vI 0, vI 0] [] σ Q
theorem sX11_hasIt_0 {d rc rs : Nat} {a1 : Int32} {a2 : Int32} {a3 : Int32} {σ : XH} {Q : XV → XH → Prop} (h : bX11_hasIt_0 d rc rs a1 a2 a3 σ Q) : Ex d rc rs m_X11_hasIt 0 [vR (some (12, 0)), vI a1, vI a2, vI a3, vU, vU] [] σ Q :=
  xtree_sound (stop := stpX11_hasIt) okX11_hasIt 6 _ _ _ _ _ _ h
def bX11_hasIt_6 (d rc rs : Nat) (l1 : Int32) (l2 : Int32) (l3 : Int32) (l4 : Int32) (l5 : Int32) (σ : XH) (Q : XV → XH → Prop) : Prop :=
  (((l5 < (hi σ 12 0 20) → ((hr σ 12 0 22 = some (131, 0) ∧ ((vp_in l5 (hn σ 131 0) ∧ (((hi σ 131 0 l5.toNatClampNeg) = l1 → ((hr σ 12 0 21 = some (130, 0) ∧ ((vp_in l5 (hn σ 130 0) ∧ ((hr σ 12 0 6 = some (118, 0) ∧ ((hr σ 12 0 10 = some (121, 0) ∧ ((vp_in l2 (hn σ 121 0) ∧ ((vp_in (hi σ 121 0 l2.toNatClampNeg) (hn σ 118 0) ∧ (((hi σ 130 0 l5.toNatClampNeg) = (hi σ 118 0 (hi σ 121 0 l2.toNatClampNeg).toNatClampNeg) → ((hr σ 12 0 23 = some (132, 0) ∧ ((vp_in l5 (hn σ 132 0) ∧ ((l3 < (hi σ 132 0 l5.toNatClampNeg) → Ex d rc rs m_X11_hasIt 115 [vR (some (12, 0)), vI l1, vI l2, vI l3, vI l4, vI l5] [] σ Q) ∧ (¬ l3 < (hi σ 132 0 l5.toNatClampNeg) → ((hr σ 12 0 24 = some (133, 0) ∧ ((vp_in l5 (hn σ 133 0) ∧ ((hr σ 12 0 17 = some (128, 0) ∧ ((vp_in l2 (hn σ 128 0) ∧ (((hi σ 133 0 l5.toNatClampNeg) < (hi σ 128 0 l2.toNatClampNeg) → Ex d rc rs m_X11_hasIt 115 [vR (some (12, 0)), vI l1, vI l2, vI l3, vI l4, vI l5] [] σ Q) ∧ (¬ (hi σ 133 0 l5.toNatClampNeg) < (hi σ 128 0 l2.toNatClampNeg) → ((hr σ 12 0 18 = some (129, 0) ∧ ((vp_in l2 (hn σ 129 0) ∧ ((0 < (hi σ 129 0 l2.toNatClampNeg) → ((hr σ 12 0 24 = some (133, 0) ∧ ((vp_in l5 (hn σ 133 0) ∧ ((hr σ 12 0 18 = some (129, 0) ∧ ((vp_in l2 (hn σ 129 0) ∧ (((hi σ 129 0 l2.toNatClampNeg) < (hi σ 133 0 l5.toNatClampNeg) → Ex d rc rs m_X11_hasIt 108 [vR (some (12, 0)), vI l1, vI l2, vI l3, vU, vI l5] [] σ Q) ∧ (¬ (hi σ 129 0 l2.toNatClampNeg) < (hi σ 133 0 l5.toNatClampNeg) → Ex d rc rs m_X11_hasIt 102 [vR (some (12, 0)), vI l1, vI l2, vI l3, vI l4, vI l5] [] σ Q))))))))))) ∧ (¬ 0 < (hi σ 129 0 l2.toNatClampNeg) → Ex d rc rs m_X11_hasIt 102 [vR (some (12, 0)), vI l1, vI l2, vI l3, vI l4, vI l5] [] σ Q))))))))))))))))))))))) ∧ (¬ (hi σ 130 0 l5.toNatClampNeg) = (hi σ 118 0 (hi σ 121 0 l2.toNatClampNeg).toNatClampNeg) → Ex d rc rs m_X11_hasIt 115 [vR (some (12, 0)), vI l1, vI l2, vI l3, vI l4, vI l5] [] σ Q))))))))))))))) ∧ (¬ (hi σ 131 0 l5.toNatClampNeg) = l1 → Ex d rc rs m_X11_hasIt 115 [vR (some (12, 0)), vI l1, vI l2, vI l3, vI l4, vI l5] [] σ Q))))))) ∧ (¬ l5 < (hi σ 12 0 20) → Q (vI l4) σ)))
set_option maxRecDepth 40000 in
set_option maxHeartbeats 4000000 in
theorem sX11_hasIt_6 {d rc rs : Nat} {l1 : Int32} {l2 : Int32} {l3 : Int32} {l4 : Int32} {l5 : Int32} {σ : XH} {Q : XV → XH → Prop} (h : bX11_hasIt_6 d rc rs l1 l2 l3 l4 l5 σ Q) : Ex d rc rs m_X11_hasIt 6 [vR (some (12, 0)), vI l1, vI l2, vI l3, vI l4, vI l5] [] σ Q :=
  xtree_sound (stop := stpX11_hasIt) okX11_hasIt 53 _ _ _ _ _ _ h
def bX11_hasIt_102 (d rc rs : Nat) (l1 : Int32) (l2 : Int32) (l3 : Int32) (l4 : Int32) (l5 : Int32) (σ : XH) (Q : XV → XH → Prop) : Prop :=
  ((l4 = 2 → Ex d rc rs m_X11_hasIt 108 [vR (some (12, 0)), vI l1, vI l2, vI l3, vU, vI l5] [] σ Q) ∧ (¬ l4 = 2 → Ex d rc rs m_X11_hasIt 113 [vR (some (12, 0)), vI l1, vI l2, vI l3, vU, vI l5] [vI 1] σ Q))
theorem sX11_hasIt_102 {d rc rs : Nat} {l1 : Int32} {l2 : Int32} {l3 : Int32} {l4 : Int32} {l5 : Int32} {σ : XH} {Q : XV → XH → Prop} (h : bX11_hasIt_102 d rc rs l1 l2 l3 l4 l5 σ Q) : Ex d rc rs m_X11_hasIt 102 [vR (some (12, 0)), vI l1, vI l2, vI l3, vI l4, vI l5] [] σ Q :=
  xtree_sound (stop := stpX11_hasIt) okX11_hasIt 6 _ _ _ _ _ _ h
def bX11_hasIt_108 (d rc rs : Nat) (l1 : Int32) (l2 : Int32) (l3 : Int32) (l5 : Int32) (σ : XH) (Q : XV → XH → Prop) : Prop :=
  Ex d rc rs m_X11_hasIt 113 [vR (some (12, 0)), vI l1, vI l2, vI l3, vU, vI l5] [vI 2] σ Q
theorem sX11_hasIt_108 {d rc rs : Nat} {l1 : Int32} {l2 : Int32} {l3 : Int32} {l5 : Int32} {σ : XH} {Q : XV → XH → Prop} (h : bX11_hasIt_108 d rc rs l1 l2 l3 l5 σ Q) : Ex d rc rs m_X11_hasIt 108 [vR (some (12, 0)), vI l1, vI l2, vI l3, vU, vI l5] [] σ Q :=
  xtree_sound (stop := stpX11_hasIt) okX11_hasIt 4 _ _ _ _ _ _ h
def bX11_hasIt_113 (d rc rs : Nat) (l1 : Int32) (l2 : Int32) (l3 : Int32) (l5 : Int32) (q0 : Int32) (σ : XH) (Q : XV → XH → Prop) : Prop :=
  Ex d rc rs m_X11_hasIt 115 [vR (some (12, 0)), vI l1, vI l2, vI l3, vI q0, vI l5] [] σ Q
theorem sX11_hasIt_113 {d rc rs : Nat} {l1 : Int32} {l2 : Int32} {l3 : Int32} {l5 : Int32} {q0 : Int32} {σ : XH} {Q : XV → XH → Prop} (h : bX11_hasIt_113 d rc rs l1 l2 l3 l5 q0 σ Q) : Ex d rc rs m_X11_hasIt 113 [vR (some (12, 0)), vI l1, vI l2, vI l3, vU, vI l5] [vI q0] σ Q :=
  xtree_sound (stop := stpX11_hasIt) okX11_hasIt 3 _ _ _ _ _ _ h
def bX11_hasIt_115 (d rc rs : Nat) (l1 : Int32) (l2 : Int32) (l3 : Int32) (l4 : Int32) (l5 : Int32) (σ : XH) (Q : XV → XH → Prop) : Prop :=
  Ex d rc rs m_X11_hasIt 6 [vR (some (12, 0)), vI l1, vI l2, vI l3, vI l4, vI (l5 + 1)] [] σ Q
theorem sX11_hasIt_115 {d rc rs : Nat} {l1 : Int32} {l2 : Int32} {l3 : Int32} {l4 : Int32} {l5 : Int32} {σ : XH} {Q : XV → XH → Prop} (h : bX11_hasIt_115 d rc rs l1 l2 l3 l4 l5 σ Q) : Ex d rc rs m_X11_hasIt 115 [vR (some (12, 0)), vI l1, vI l2, vI l3, vI l4, vI l5] [] σ Q :=
  xtree_sound (stop := stpX11_hasIt) okX11_hasIt 4 _ _ _ _ _ _ h
/-! SpotTimersModel.has(III)I -/
theorem dX11_has_0 : decode cX11_has 0 = .ok (.aload_n 0, 1) := by decide +kernel
theorem dX11_has_1 : decode cX11_has 1 = .ok (.iload_n 1, 1) := by decide +kernel
theorem dX11_has_2 : decode cX11_has 2 = .ok (.invokevirtual 301, 3) := by decide +kernel
theorem dX11_has_5 : decode cX11_has 5 = .ok (.ifCond .eq 11, 3) := by decide +kernel
theorem dX11_has_8 : decode cX11_has 8 = .ok (.aload_n 0, 1) := by decide +kernel
theorem dX11_has_9 : decode cX11_has 9 = .ok (.iload_n 2, 1) := by decide +kernel
theorem dX11_has_10 : decode cX11_has 10 = .ok (.invokevirtual 249, 3) := by decide +kernel
theorem dX11_has_13 : decode cX11_has 13 = .ok (.ifCond .ne 5, 3) := by decide +kernel
theorem dX11_has_16 : decode cX11_has 16 = .ok (.iconst (-1), 1) := by decide +kernel
theorem dX11_has_17 : decode cX11_has 17 = .ok (.ireturn, 1) := by decide +kernel
theorem dX11_has_18 : decode cX11_has 18 = .ok (.aload_n 0, 1) := by decide +kernel
theorem dX11_has_19 : decode cX11_has 19 = .ok (.iload_n 3, 1) := by decide +kernel
theorem dX11_has_20 : decode cX11_has 20 = .ok (.invokevirtual 304, 3) := by decide +kernel
theorem dX11_has_23 : decode cX11_has 23 = .ok (.ifCond .eq 13, 3) := by decide +kernel
theorem dX11_has_26 : decode cX11_has 26 = .ok (.aload_n 0, 1) := by decide +kernel
theorem dX11_has_27 : decode cX11_has 27 = .ok (.iload_n 1, 1) := by decide +kernel
theorem dX11_has_28 : decode cX11_has 28 = .ok (.iload_n 2, 1) := by decide +kernel
theorem dX11_has_29 : decode cX11_has 29 = .ok (.iload_n 3, 1) := by decide +kernel
theorem dX11_has_30 : decode cX11_has 30 = .ok (.invokevirtual 307, 3) := by decide +kernel
theorem dX11_has_33 : decode cX11_has 33 = .ok (.goto 5, 3) := by decide +kernel
theorem dX11_has_36 : decode cX11_has 36 = .ok (.bipush (-2), 2) := by decide +kernel
theorem dX11_has_38 : decode cX11_has 38 = .ok (.ireturn, 1) := by decide +kernel
theorem oX11_has_0 : OKI 179 0 (.aload_n 0, 1, [0], 0, 0, []) := And.intro dX11_has_0 (And.intro rfl (rfl))
theorem oX11_has_1 : OKI 179 1 (.iload_n 1, 2, [1], 0, 0, []) := And.intro dX11_has_1 (And.intro rfl (rfl))
theorem oX11_has_2 : OKI 179 2 (.invokevirtual 301, 5, [176, 2, 13, 0, 0, 1], 0, 0, []) := And.intro dX11_has_2 (And.intro rfl (And.intro (by decide) (And.intro (by decide) (And.intro mo_X11_isHouse (And.intro (tm_7 _ (List.mem_of_getElem? (i := 88) rfl) rfl) (And.intro (tm_7 _ (List.mem_of_getElem? (i := 90) rfl) rfl) (And.intro (pm_4 _ (List.mem_of_getElem? (i := 12) rfl)) (Or.inl ⟨(RX11, TX11, 69), rfl, rfl⟩))))))))
theorem oX11_has_5 : OKI 179 5 (.ifCond .eq 11, 8, [16], 0, 0, []) := And.intro dX11_has_5 (And.intro rfl (by decide))
theorem oX11_has_8 : OKI 179 8 (.aload_n 0, 9, [0], 0, 0, []) := And.intro dX11_has_8 (And.intro rfl (rfl))
theorem oX11_has_9 : OKI 179 9 (.iload_n 2, 10, [2], 0, 0, []) := And.intro dX11_has_9 (And.intro rfl (rfl))
theorem oX11_has_10 : OKI 179 10 (.invokevirtual 249, 13, [151, 2, 13, 0, 0, 1], 0, 0, []) := And.intro dX11_has_10 (And.intro rfl (And.intro (by decide) (And.intro (by decide) (And.intro mo_X11_isReading (And.intro (tm_6 _ (List.mem_of_getElem? (i := 231) rfl) rfl) (And.intro (tm_6 _ (List.mem_of_getElem? (i := 233) rfl) rfl) (And.intro (pm_3 _ (List.mem_of_getElem? (i := 15) rfl)) (Or.inl ⟨(RX11, TX11, 69), rfl, rfl⟩))))))))
theorem oX11_has_13 : OKI 179 13 (.ifCond .ne 5, 16, [18], 0, 0, []) := And.intro dX11_has_13 (And.intro rfl (by decide))
theorem oX11_has_16 : OKI 179 16 (.iconst (-1), 17, [], (-1), 0, []) := And.intro dX11_has_16 (And.intro rfl (by decide +kernel))
theorem oX11_has_17 : OKI 179 17 (.ireturn, 18, [0], 0, 0, []) := And.intro dX11_has_17 (Or.inl (And.intro rfl rfl))
theorem oX11_has_18 : OKI 179 18 (.aload_n 0, 19, [0], 0, 0, []) := And.intro dX11_has_18 (And.intro rfl (rfl))
theorem oX11_has_19 : OKI 179 19 (.iload_n 3, 20, [3], 0, 0, []) := And.intro dX11_has_19 (And.intro rfl (rfl))
theorem oX11_has_20 : OKI 179 20 (.invokevirtual 304, 23, [143, 2, 13, 0, 0, 1], 0, 0, []) := And.intro dX11_has_20 (And.intro rfl (And.intro (by decide) (And.intro (by decide) (And.intro mo_X11_isDay (And.intro (tm_7 _ (List.mem_of_getElem? (i := 96) rfl) rfl) (And.intro (tm_7 _ (List.mem_of_getElem? (i := 98) rfl) rfl) (And.intro (pm_4 _ (List.mem_of_getElem? (i := 13) rfl)) (Or.inl ⟨(RX11, TX11, 69), rfl, rfl⟩))))))))
theorem oX11_has_23 : OKI 179 23 (.ifCond .eq 13, 26, [36], 0, 0, []) := And.intro dX11_has_23 (And.intro rfl (by decide))
theorem oX11_has_26 : OKI 179 26 (.aload_n 0, 27, [0], 0, 0, []) := And.intro dX11_has_26 (And.intro rfl (rfl))
theorem oX11_has_27 : OKI 179 27 (.iload_n 1, 28, [1], 0, 0, []) := And.intro dX11_has_27 (And.intro rfl (rfl))
theorem oX11_has_28 : OKI 179 28 (.iload_n 2, 29, [2], 0, 0, []) := And.intro dX11_has_28 (And.intro rfl (rfl))
theorem oX11_has_29 : OKI 179 29 (.iload_n 3, 30, [3], 0, 0, []) := And.intro dX11_has_29 (And.intro rfl (rfl))
theorem oX11_has_30 : OKI 179 30 (.invokevirtual 307, 33, [178, 4, 13, 0, 0, 1], 0, 0, []) := And.intro dX11_has_30 (And.intro rfl (And.intro (by decide) (And.intro (by decide) (And.intro mo_X11_hasIt (And.intro (tm_7 _ (List.mem_of_getElem? (i := 100) rfl) rfl) (And.intro (tm_7 _ (List.mem_of_getElem? (i := 102) rfl) rfl) (And.intro (pm_4 _ (List.mem_of_getElem? (i := 14) rfl)) (Or.inl ⟨(RX11, TX11, 69), rfl, rfl⟩))))))))
theorem oX11_has_33 : OKI 179 33 (.goto 5, 36, [38], 0, 0, []) := And.intro dX11_has_33 (And.intro rfl (by decide))
theorem oX11_has_36 : OKI 179 36 (.bipush (-2), 38, [], (-2), 0, []) := And.intro dX11_has_36 (And.intro rfl (by decide +kernel))
theorem oX11_has_38 : OKI 179 38 (.ireturn, 39, [0], 0, 0, []) := And.intro dX11_has_38 (Or.inl (And.intro rfl rfl))
def pfX11_has (pc : Nat) : Option XE := (bif Nat.blt pc 19 then (bif Nat.blt pc 9 then (bif Nat.blt pc 2 then (bif Nat.blt pc 1 then (bif Nat.beq pc 0 then some (.aload_n 0, 1, [0], 0, 0, []) else none) else (bif Nat.beq pc 1 then some (.iload_n 1, 2, [1], 0, 0, []) else none)) else (bif Nat.blt pc 5 then (bif Nat.beq pc 2 then some (.invokevirtual 301, 5, [176, 2, 13, 0, 0, 1], 0, 0, []) else none) else (bif Nat.blt pc 8 then (bif Nat.beq pc 5 then some (.ifCond .eq 11, 8, [16], 0, 0, []) else none) else (bif Nat.beq pc 8 then some (.aload_n 0, 9, [0], 0, 0, []) else none)))) else (bif Nat.blt pc 16 then (bif Nat.blt pc 10 then (bif Nat.beq pc 9 then some (.iload_n 2, 10, [2], 0, 0, []) else none) else (bif Nat.blt pc 13 then (bif Nat.beq pc 10 then some (.invokevirtual 249, 13, [151, 2, 13, 0, 0, 1], 0, 0, []) else none) else (bif Nat.beq pc 13 then some (.ifCond .ne 5, 16, [18], 0, 0, []) else none))) else (bif Nat.blt pc 17 then (bif Nat.beq pc 16 then some (.iconst (-1), 17, [], (-1), 0, []) else none) else (bif Nat.blt pc 18 then (bif Nat.beq pc 17 then some (.ireturn, 18, [0], 0, 0, []) else none) else (bif Nat.beq pc 18 then some (.aload_n 0, 19, [0], 0, 0, []) else none))))) else (bif Nat.blt pc 28 then (bif Nat.blt pc 23 then (bif Nat.blt pc 20 then (bif Nat.beq pc 19 then some (.iload_n 3, 20, [3], 0, 0, []) else none) else (bif Nat.beq pc 20 then some (.invokevirtual 304, 23, [143, 2, 13, 0, 0, 1], 0, 0, []) else none)) else (bif Nat.blt pc 26 then (bif Nat.beq pc 23 then some (.ifCond .eq 13, 26, [36], 0, 0, []) else none) else (bif Nat.blt pc 27 then (bif Nat.beq pc 26 then some (.aload_n 0, 27, [0], 0, 0, []) else none) else (bif Nat.beq pc 27 then some (.iload_n 1, 28, [1], 0, 0, []) else none)))) else (bif Nat.blt pc 33 then (bif Nat.blt pc 29 then (bif Nat.beq pc 28 then some (.iload_n 2, 29, [2], 0, 0, []) else none) else (bif Nat.blt pc 30 then (bif Nat.beq pc 29 then some (.iload_n 3, 30, [3], 0, 0, []) else none) else (bif Nat.beq pc 30 then some (.invokevirtual 307, 33, [178, 4, 13, 0, 0, 1], 0, 0, []) else none))) else (bif Nat.blt pc 36 then (bif Nat.beq pc 33 then some (.goto 5, 36, [38], 0, 0, []) else none) else (bif Nat.blt pc 38 then (bif Nat.beq pc 36 then some (.bipush (-2), 38, [], (-2), 0, []) else none) else (bif Nat.beq pc 38 then some (.ireturn, 39, [0], 0, 0, []) else none))))))
theorem okX11_has : ∀ pc Y, pfX11_has pc = some Y → OKI m_X11_has pc Y := fun pc Y => ((bt_node (bt_node (bt_node (bt_node (bt_leaf (P := OKI m_X11_has) oX11_has_0) (bt_leaf (P := OKI m_X11_has) oX11_has_1)) (bt_node (bt_leaf (P := OKI m_X11_has) oX11_has_2) (bt_node (bt_leaf (P := OKI m_X11_has) oX11_has_5) (bt_leaf (P := OKI m_X11_has) oX11_has_8)))) (bt_node (bt_node (bt_leaf (P := OKI m_X11_has) oX11_has_9) (bt_node (bt_leaf (P := OKI m_X11_has) oX11_has_10) (bt_leaf (P := OKI m_X11_has) oX11_has_13))) (bt_node (bt_leaf (P := OKI m_X11_has) oX11_has_16) (bt_node (bt_leaf (P := OKI m_X11_has) oX11_has_17) (bt_leaf (P := OKI m_X11_has) oX11_has_18))))) (bt_node (bt_node (bt_node (bt_leaf (P := OKI m_X11_has) oX11_has_19) (bt_leaf (P := OKI m_X11_has) oX11_has_20)) (bt_node (bt_leaf (P := OKI m_X11_has) oX11_has_23) (bt_node (bt_leaf (P := OKI m_X11_has) oX11_has_26) (bt_leaf (P := OKI m_X11_has) oX11_has_27)))) (bt_node (bt_node (bt_leaf (P := OKI m_X11_has) oX11_has_28) (bt_node (bt_leaf (P := OKI m_X11_has) oX11_has_29) (bt_leaf (P := OKI m_X11_has) oX11_has_30))) (bt_node (bt_leaf (P := OKI m_X11_has) oX11_has_33) (bt_node (bt_leaf (P := OKI m_X11_has) oX11_has_36) (bt_leaf (P := OKI m_X11_has) oX11_has_38)))))) : pfX11_has pc = some Y → OKI m_X11_has pc Y)
def stpX11_has (pc : Nat) : Option (List Bool) := (bif Nat.blt pc 38 then (bif Nat.beq pc 16 then some [false, false, false, false] else none) else (bif Nat.beq pc 38 then some [false, false, false, false] else none))
def bX11_has_0 (d rc rs : Nat) (a1 : Int32) (a2 : Int32) (a3 : Int32) (σ : XH) (Q : XV → XH → Prop) : Prop :=
  ((1 ≤ d ∧ Ec (d - 1) 0 0 m_X11_isHouse [vR (some (12, 0)), vI a1] σ (kI fun x2 h1 => ((x2 = 0 → Ex d rc rs m_X11_has 16 [vU, vU, vU, vU] [] h1 Q) ∧ (¬ x2 = 0 → ((1 ≤ d ∧ Ec (d - 1) 0 0 m_X11_isReading [vR (some (12, 0)), vI a2] h1 (kI fun x4 h3 => ((x4 = 0 → Ex d rc rs m_X11_has 16 [vU, vU, vU, vU] [] h3 Q) ∧ (¬ x4 = 0 → ((1 ≤ d ∧ Ec (d - 1) 0 0 m_X11_isDay [vR (some (12, 0)), vI a3] h3 (kI fun x6 h5 => ((x6 = 0 → Ex d rc rs m_X11_has 38 [vU, vU, vU, vU] [vI (-2)] h5 Q) ∧ (¬ x6 = 0 → ((1 ≤ d ∧ Ec (d - 1) 0 0 m_X11_hasIt [vR (some (12, 0)), vI a1, vI a2, vI a3] h5 (kI fun x8 h7 => Ex d rc rs m_X11_has 38 [vU, vU, vU, vU] [vI x8] h7 Q))))))))))))))))))
theorem sX11_has_0 {d rc rs : Nat} {a1 : Int32} {a2 : Int32} {a3 : Int32} {σ : XH} {Q : XV → XH → Prop} (h : bX11_has_0 d rc rs a1 a2 a3 σ Q) : Ex d rc rs m_X11_has 0 [vR (some (12, 0)), vI a1, vI a2, vI a3] [] σ Q :=
  xtree_sound (stop := stpX11_has) okX11_has 20 _ _ _ _ _ _ h
def bX11_has_16 (d rc rs : Nat)  (σ : XH) (Q : XV → XH → Prop) : Prop :=
  Q (vI (-1)) σ
theorem sX11_has_16 {d rc rs : Nat}  {σ : XH} {Q : XV → XH → Prop} (h : bX11_has_16 d rc rs  σ Q) : Ex d rc rs m_X11_has 16 [vU, vU, vU, vU] [] σ Q :=
  xtree_sound (stop := stpX11_has) okX11_has 4 _ _ _ _ _ _ h
def bX11_has_38 (d rc rs : Nat) (q0 : Int32) (σ : XH) (Q : XV → XH → Prop) : Prop :=
  Q (vI q0) σ
theorem sX11_has_38 {d rc rs : Nat} {q0 : Int32} {σ : XH} {Q : XV → XH → Prop} (h : bX11_has_38 d rc rs q0 σ Q) : Ex d rc rs m_X11_has 38 [vU, vU, vU, vU] [vI q0] σ Q :=
  xtree_sound (stop := stpX11_has) okX11_has 3 _ _ _ _ _ _ h
/-! SpotTimersModel.feed(II)I -/
theorem dX11_feed_0 : decode cX11_feed 0 = .ok (.aload_n 0, 1) := by decide +kernel
theorem dX11_feed_1 : decode cX11_feed 1 = .ok (.iload_n 2, 1) := by decide +kernel
theorem dX11_feed_2 : decode cX11_feed 2 = .ok (.iconst 0, 1) := by decide +kernel
theorem dX11_feed_3 : decode cX11_feed 3 = .ok (.iconst 4, 1) := by decide +kernel
theorem dX11_feed_4 : decode cX11_feed 4 = .ok (.invokevirtual 222, 3) := by decide +kernel
theorem dX11_feed_7 : decode cX11_feed 7 = .ok (.ifCond .ne 6, 3) := by decide +kernel
theorem dX11_feed_10 : decode cX11_feed 10 = .ok (.bipush (-2), 2) := by decide +kernel
theorem dX11_feed_12 : decode cX11_feed 12 = .ok (.ireturn, 1) := by decide +kernel
theorem dX11_feed_13 : decode cX11_feed 13 = .ok (.aload_n 0, 1) := by decide +kernel
theorem dX11_feed_14 : decode cX11_feed 14 = .ok (.getfield 89, 3) := by decide +kernel
theorem dX11_feed_17 : decode cX11_feed 17 = .ok (.iload_n 2, 1) := by decide +kernel
theorem dX11_feed_18 : decode cX11_feed 18 = .ok (.iadd, 1) := by decide +kernel
theorem dX11_feed_19 : decode cX11_feed 19 = .ok (.sipush 140, 3) := by decide +kernel
theorem dX11_feed_22 : decode cX11_feed 22 = .ok (.if_icmp .le 6, 3) := by decide +kernel
theorem dX11_feed_25 : decode cX11_feed 25 = .ok (.bipush (-4), 2) := by decide +kernel
theorem dX11_feed_27 : decode cX11_feed 27 = .ok (.ireturn, 1) := by decide +kernel
theorem dX11_feed_28 : decode cX11_feed 28 = .ok (.iload_n 2, 1) := by decide +kernel
theorem dX11_feed_29 : decode cX11_feed 29 = .ok (.iconst 1, 1) := by decide +kernel
theorem dX11_feed_30 : decode cX11_feed 30 = .ok (.isub, 1) := by decide +kernel
theorem dX11_feed_31 : decode cX11_feed 31 = .ok (.istore_n 3, 1) := by decide +kernel
theorem dX11_feed_32 : decode cX11_feed 32 = .ok (.iload_n 3, 1) := by decide +kernel
theorem dX11_feed_33 : decode cX11_feed 33 = .ok (.ifCond .lt 39, 3) := by decide +kernel
theorem dX11_feed_36 : decode cX11_feed 36 = .ok (.aload_n 0, 1) := by decide +kernel
theorem dX11_feed_37 : decode cX11_feed 37 = .ok (.getfield 98, 3) := by decide +kernel
theorem dX11_feed_40 : decode cX11_feed 40 = .ok (.sipush 1680, 3) := by decide +kernel
theorem dX11_feed_43 : decode cX11_feed 43 = .ok (.aload_n 0, 1) := by decide +kernel
theorem dX11_feed_44 : decode cX11_feed 44 = .ok (.getfield 89, 3) := by decide +kernel
theorem dX11_feed_47 : decode cX11_feed 47 = .ok (.iadd, 1) := by decide +kernel
theorem dX11_feed_48 : decode cX11_feed 48 = .ok (.iload_n 1, 1) := by decide +kernel
theorem dX11_feed_49 : decode cX11_feed 49 = .ok (.bipush 8, 2) := by decide +kernel
theorem dX11_feed_51 : decode cX11_feed 51 = .ok (.iload_n 3, 1) := by decide +kernel
theorem dX11_feed_52 : decode cX11_feed 52 = .ok (.imul, 1) := by decide +kernel
theorem dX11_feed_53 : decode cX11_feed 53 = .ok (.ishr, 1) := by decide +kernel
theorem dX11_feed_54 : decode cX11_feed 54 = .ok (.i2b, 1) := by decide +kernel
theorem dX11_feed_55 : decode cX11_feed 55 = .ok (.iastore, 1) := by decide +kernel
theorem dX11_feed_56 : decode cX11_feed 56 = .ok (.aload_n 0, 1) := by decide +kernel
theorem dX11_feed_57 : decode cX11_feed 57 = .ok (.dup, 1) := by decide +kernel
theorem dX11_feed_58 : decode cX11_feed 58 = .ok (.getfield 89, 3) := by decide +kernel
theorem dX11_feed_61 : decode cX11_feed 61 = .ok (.iconst 1, 1) := by decide +kernel
theorem dX11_feed_62 : decode cX11_feed 62 = .ok (.iadd, 1) := by decide +kernel
theorem dX11_feed_63 : decode cX11_feed 63 = .ok (.putfield 89, 3) := by decide +kernel
theorem dX11_feed_66 : decode cX11_feed 66 = .ok (.iinc 3 (-1), 3) := by decide +kernel
theorem dX11_feed_69 : decode cX11_feed 69 = .ok (.goto (-37), 3) := by decide +kernel
theorem dX11_feed_72 : decode cX11_feed 72 = .ok (.aload_n 0, 1) := by decide +kernel
theorem dX11_feed_73 : decode cX11_feed 73 = .ok (.getfield 89, 3) := by decide +kernel
theorem dX11_feed_76 : decode cX11_feed 76 = .ok (.ireturn, 1) := by decide +kernel
theorem oX11_feed_0 : OKI 180 0 (.aload_n 0, 1, [0], 0, 0, []) := And.intro dX11_feed_0 (And.intro rfl (rfl))
theorem oX11_feed_1 : OKI 180 1 (.iload_n 2, 2, [2], 0, 0, []) := And.intro dX11_feed_1 (And.intro rfl (rfl))
theorem oX11_feed_2 : OKI 180 2 (.iconst 0, 3, [], 0, 0, []) := And.intro dX11_feed_2 (And.intro rfl (by decide +kernel))
theorem oX11_feed_3 : OKI 180 3 (.iconst 4, 4, [], 4, 0, []) := And.intro dX11_feed_3 (And.intro rfl (by decide +kernel))
theorem oX11_feed_4 : OKI 180 4 (.invokevirtual 222, 7, [141, 4, 13, 0, 0, 1], 0, 0, []) := And.intro dX11_feed_4 (And.intro rfl (And.intro (by decide) (And.intro (by decide) (And.intro mo_X11_in (And.intro (tm_6 _ (List.mem_of_getElem? (i := 179) rfl) rfl) (And.intro (tm_6 _ (List.mem_of_getElem? (i := 181) rfl) rfl) (And.intro (pm_3 _ (List.mem_of_getElem? (i := 8) rfl)) (Or.inl ⟨(RX11, TX11, 69), rfl, rfl⟩))))))))
theorem oX11_feed_7 : OKI 180 7 (.ifCond .ne 6, 10, [13], 0, 0, []) := And.intro dX11_feed_7 (And.intro rfl (by decide))
theorem oX11_feed_10 : OKI 180 10 (.bipush (-2), 12, [], (-2), 0, []) := And.intro dX11_feed_10 (And.intro rfl (by decide +kernel))
theorem oX11_feed_12 : OKI 180 12 (.ireturn, 13, [0], 0, 0, []) := And.intro dX11_feed_12 (Or.inl (And.intro rfl rfl))
theorem oX11_feed_13 : OKI 180 13 (.aload_n 0, 14, [0], 0, 0, []) := And.intro dX11_feed_13 (And.intro rfl (rfl))
theorem oX11_feed_14 : OKI 180 14 (.getfield 89, 17, [12, 26, 0], 0, 0, []) := And.intro dX11_feed_14 (And.intro rfl (⟨(RX11, TX11, 69), "SpotTimersModel", rfl, by decide, tm_5 _ (List.mem_of_getElem? (i := 232) rfl) rfl, Or.inl rfl, Or.inr (Or.inr (And.intro rfl (Or.inl rfl)))⟩))
theorem oX11_feed_17 : OKI 180 17 (.iload_n 2, 18, [2], 0, 0, []) := And.intro dX11_feed_17 (And.intro rfl (rfl))
theorem oX11_feed_18 : OKI 180 18 (.iadd, 19, [], 0, 0, []) := And.intro dX11_feed_18 rfl
theorem oX11_feed_19 : OKI 180 19 (.sipush 140, 22, [], 140, 0, []) := And.intro dX11_feed_19 (And.intro rfl (by decide +kernel))
theorem oX11_feed_22 : OKI 180 22 (.if_icmp .le 6, 25, [28], 0, 0, []) := And.intro dX11_feed_22 (And.intro rfl (by decide))
theorem oX11_feed_25 : OKI 180 25 (.bipush (-4), 27, [], (-4), 0, []) := And.intro dX11_feed_25 (And.intro rfl (by decide +kernel))
theorem oX11_feed_27 : OKI 180 27 (.ireturn, 28, [0], 0, 0, []) := And.intro dX11_feed_27 (Or.inl (And.intro rfl rfl))
theorem oX11_feed_28 : OKI 180 28 (.iload_n 2, 29, [2], 0, 0, []) := And.intro dX11_feed_28 (And.intro rfl (rfl))
theorem oX11_feed_29 : OKI 180 29 (.iconst 1, 30, [], 1, 0, []) := And.intro dX11_feed_29 (And.intro rfl (by decide +kernel))
theorem oX11_feed_30 : OKI 180 30 (.isub, 31, [], 0, 0, []) := And.intro dX11_feed_30 rfl
theorem oX11_feed_31 : OKI 180 31 (.istore_n 3, 32, [3], 0, 0, []) := And.intro dX11_feed_31 (And.intro rfl (And.intro rfl (by decide)))
theorem oX11_feed_32 : OKI 180 32 (.iload_n 3, 33, [3], 0, 0, []) := And.intro dX11_feed_32 (And.intro rfl (rfl))
theorem oX11_feed_33 : OKI 180 33 (.ifCond .lt 39, 36, [72], 0, 0, []) := And.intro dX11_feed_33 (And.intro rfl (by decide))
theorem oX11_feed_36 : OKI 180 36 (.aload_n 0, 37, [0], 0, 0, []) := And.intro dX11_feed_36 (And.intro rfl (rfl))
theorem oX11_feed_37 : OKI 180 37 (.getfield 98, 40, [12, 29, 2, 136, 0], 0, 0, []) := And.intro dX11_feed_37 (And.intro rfl (⟨(RX11, TX11, 69), "SpotTimersModel", rfl, by decide, tm_5 _ (List.mem_of_getElem? (i := 235) rfl) rfl, Or.inl rfl, rfl, rfl⟩))
theorem oX11_feed_40 : OKI 180 40 (.sipush 1680, 43, [], 1680, 0, []) := And.intro dX11_feed_40 (And.intro rfl (by decide +kernel))
theorem oX11_feed_43 : OKI 180 43 (.aload_n 0, 44, [0], 0, 0, []) := And.intro dX11_feed_43 (And.intro rfl (rfl))
theorem oX11_feed_44 : OKI 180 44 (.getfield 89, 47, [12, 26, 0], 0, 0, []) := And.intro dX11_feed_44 (And.intro rfl (⟨(RX11, TX11, 69), "SpotTimersModel", rfl, by decide, tm_5 _ (List.mem_of_getElem? (i := 232) rfl) rfl, Or.inl rfl, Or.inr (Or.inr (And.intro rfl (Or.inl rfl)))⟩))
theorem oX11_feed_47 : OKI 180 47 (.iadd, 48, [], 0, 0, []) := And.intro dX11_feed_47 rfl
theorem oX11_feed_48 : OKI 180 48 (.iload_n 1, 49, [1], 0, 0, []) := And.intro dX11_feed_48 (And.intro rfl (rfl))
theorem oX11_feed_49 : OKI 180 49 (.bipush 8, 51, [], 8, 0, []) := And.intro dX11_feed_49 (And.intro rfl (by decide +kernel))
theorem oX11_feed_51 : OKI 180 51 (.iload_n 3, 52, [3], 0, 0, []) := And.intro dX11_feed_51 (And.intro rfl (rfl))
theorem oX11_feed_52 : OKI 180 52 (.imul, 53, [], 0, 0, []) := And.intro dX11_feed_52 rfl
theorem oX11_feed_53 : OKI 180 53 (.ishr, 54, [], 0, 0, []) := And.intro dX11_feed_53 rfl
theorem oX11_feed_54 : OKI 180 54 (.i2b, 55, [], 0, 0, []) := And.intro dX11_feed_54 rfl
theorem oX11_feed_55 : OKI 180 55 (.iastore, 56, [], 0, 0, []) := And.intro dX11_feed_55 rfl
theorem oX11_feed_56 : OKI 180 56 (.aload_n 0, 57, [0], 0, 0, []) := And.intro dX11_feed_56 (And.intro rfl (rfl))
theorem oX11_feed_57 : OKI 180 57 (.dup, 58, [], 0, 0, []) := And.intro dX11_feed_57 rfl
theorem oX11_feed_58 : OKI 180 58 (.getfield 89, 61, [12, 26, 0], 0, 0, []) := And.intro dX11_feed_58 (And.intro rfl (⟨(RX11, TX11, 69), "SpotTimersModel", rfl, by decide, tm_5 _ (List.mem_of_getElem? (i := 232) rfl) rfl, Or.inl rfl, Or.inr (Or.inr (And.intro rfl (Or.inl rfl)))⟩))
theorem oX11_feed_61 : OKI 180 61 (.iconst 1, 62, [], 1, 0, []) := And.intro dX11_feed_61 (And.intro rfl (by decide +kernel))
theorem oX11_feed_62 : OKI 180 62 (.iadd, 63, [], 0, 0, []) := And.intro dX11_feed_62 rfl
theorem oX11_feed_63 : OKI 180 63 (.putfield 89, 66, [12, 26, 0], 0, 0, []) := And.intro dX11_feed_63 (And.intro rfl (⟨(RX11, TX11, 69), "SpotTimersModel", rfl, by decide, tm_5 _ (List.mem_of_getElem? (i := 232) rfl) rfl, Or.inl rfl, Or.inl rfl, rfl⟩))
theorem oX11_feed_66 : OKI 180 66 (.iinc 3 (-1), 69, [3], (-1), 0, []) := And.intro dX11_feed_66 (And.intro rfl (And.intro rfl (And.intro (by decide +kernel) (by decide))))
theorem oX11_feed_69 : OKI 180 69 (.goto (-37), 72, [32], 0, 0, []) := And.intro dX11_feed_69 (And.intro rfl (by decide))
theorem oX11_feed_72 : OKI 180 72 (.aload_n 0, 73, [0], 0, 0, []) := And.intro dX11_feed_72 (And.intro rfl (rfl))
theorem oX11_feed_73 : OKI 180 73 (.getfield 89, 76, [12, 26, 0], 0, 0, []) := And.intro dX11_feed_73 (And.intro rfl (⟨(RX11, TX11, 69), "SpotTimersModel", rfl, by decide, tm_5 _ (List.mem_of_getElem? (i := 232) rfl) rfl, Or.inl rfl, Or.inr (Or.inr (And.intro rfl (Or.inl rfl)))⟩))
theorem oX11_feed_76 : OKI 180 76 (.ireturn, 77, [0], 0, 0, []) := And.intro dX11_feed_76 (Or.inl (And.intro rfl rfl))
def pfX11_feed (pc : Nat) : Option XE := (bif Nat.blt pc 37 then (bif Nat.blt pc 18 then (bif Nat.blt pc 7 then (bif Nat.blt pc 2 then (bif Nat.blt pc 1 then (bif Nat.beq pc 0 then some (.aload_n 0, 1, [0], 0, 0, []) else none) else (bif Nat.beq pc 1 then some (.iload_n 2, 2, [2], 0, 0, []) else none)) else (bif Nat.blt pc 3 then (bif Nat.beq pc 2 then some (.iconst 0, 3, [], 0, 0, []) else none) else (bif Nat.blt pc 4 then (bif Nat.beq pc 3 then some (.iconst 4, 4, [], 4, 0, []) else none) else (bif Nat.beq pc 4 then some (.invokevirtual 222, 7, [141, 4, 13, 0, 0, 1], 0, 0, []) else none)))) else (bif Nat.blt pc 13 then (bif Nat.blt pc 10 then (bif Nat.beq pc 7 then some (.ifCond .ne 6, 10, [13], 0, 0, []) else none) else (bif Nat.blt pc 12 then (bif Nat.beq pc 10 then some (.bipush (-2), 12, [], (-2), 0, []) else none) else (bif Nat.beq pc 12 then some (.ireturn, 13, [0], 0, 0, []) else none))) else (bif Nat.blt pc 14 then (bif Nat.beq pc 13 then some (.aload_n 0, 14, [0], 0, 0, []) else none) else (bif Nat.blt pc 17 then (bif Nat.beq pc 14 then some (.getfield 89, 17, [12, 26, 0], 0, 0, []) else none) else (bif Nat.beq pc 17 then some (.iload_n 2, 18, [2], 0, 0, []) else none))))) else (bif Nat.blt pc 29 then (bif Nat.blt pc 25 then (bif Nat.blt pc 19 then (bif Nat.beq pc 18 then some (.iadd, 19, [], 0, 0, []) else none) else (bif Nat.blt pc 22 then (bif Nat.beq pc 19 then some (.sipush 140, 22, [], 140, 0, []) else none) else (bif Nat.beq pc 22 then some (.if_icmp .le 6, 25, [28], 0, 0, []) else none))) else (bif Nat.blt pc 27 then (bif Nat.beq pc 25 then some (.bipush (-4), 27, [], (-4), 0, []) else none) else (bif Nat.blt pc 28 then (bif Nat.beq pc 27 then some (.ireturn, 28, [0], 0, 0, []) else none) else (bif Nat.beq pc 28 then some (.iload_n 2, 29, [2], 0, 0, []) else none)))) else (bif Nat.blt pc 32 then (bif Nat.blt pc 30 then (bif Nat.beq pc 29 then some (.iconst 1, 30, [], 1, 0, []) else none) else (bif Nat.blt pc 31 then (bif Nat.beq pc 30 then some (.isub, 31, [], 0, 0, []) else none) else (bif Nat.beq pc 31 then some (.istore_n 3, 32, [3], 0, 0, []) else none))) else (bif Nat.blt pc 33 then (bif Nat.beq pc 32 then some (.iload_n 3, 33, [3], 0, 0, []) else none) else (bif Nat.blt pc 36 then (bif Nat.beq pc 33 then some (.ifCond .lt 39, 36, [72], 0, 0, []) else none) else (bif Nat.beq pc 36 then some (.aload_n 0, 37, [0], 0, 0, []) else none)))))) else (bif Nat.blt pc 55 then (bif Nat.blt pc 48 then (bif Nat.blt pc 43 then (bif Nat.blt pc 40 then (bif Nat.beq pc 37 then some (.getfield 98, 40, [12, 29, 2, 136, 0], 0, 0, []) else none) else (bif Nat.beq pc 40 then some (.sipush 1680, 43, [], 1680, 0, []) else none)) else (bif Nat.blt pc 44 then (bif Nat.beq pc 43 then some (.aload_n 0, 44, [0], 0, 0, []) else none) else (bif Nat.blt pc 47 then (bif Nat.beq pc 44 then some (.getfield 89, 47, [12, 26, 0], 0, 0, []) else none) else (bif Nat.beq pc 47 then some (.iadd, 48, [], 0, 0, []) else none)))) else (bif Nat.blt pc 52 then (bif Nat.blt pc 49 then (bif Nat.beq pc 48 then some (.iload_n 1, 49, [1], 0, 0, []) else none) else (bif Nat.blt pc 51 then (bif Nat.beq pc 49 then some (.bipush 8, 51, [], 8, 0, []) else none) else (bif Nat.beq pc 51 then some (.iload_n 3, 52, [3], 0, 0, []) else none))) else (bif Nat.blt pc 53 then (bif Nat.beq pc 52 then some (.imul, 53, [], 0, 0, []) else none) else (bif Nat.blt pc 54 then (bif Nat.beq pc 53 then some (.ishr, 54, [], 0, 0, []) else none) else (bif Nat.beq pc 54 then some (.i2b, 55, [], 0, 0, []) else none))))) else (bif Nat.blt pc 63 then (bif Nat.blt pc 58 then (bif Nat.blt pc 56 then (bif Nat.beq pc 55 then some (.iastore, 56, [], 0, 0, []) else none) else (bif Nat.blt pc 57 then (bif Nat.beq pc 56 then some (.aload_n 0, 57, [0], 0, 0, []) else none) else (bif Nat.beq pc 57 then some (.dup, 58, [], 0, 0, []) else none))) else (bif Nat.blt pc 61 then (bif Nat.beq pc 58 then some (.getfield 89, 61, [12, 26, 0], 0, 0, []) else none) else (bif Nat.blt pc 62 then (bif Nat.beq pc 61 then some (.iconst 1, 62, [], 1, 0, []) else none) else (bif Nat.beq pc 62 then some (.iadd, 63, [], 0, 0, []) else none)))) else (bif Nat.blt pc 72 then (bif Nat.blt pc 66 then (bif Nat.beq pc 63 then some (.putfield 89, 66, [12, 26, 0], 0, 0, []) else none) else (bif Nat.blt pc 69 then (bif Nat.beq pc 66 then some (.iinc 3 (-1), 69, [3], (-1), 0, []) else none) else (bif Nat.beq pc 69 then some (.goto (-37), 72, [32], 0, 0, []) else none))) else (bif Nat.blt pc 73 then (bif Nat.beq pc 72 then some (.aload_n 0, 73, [0], 0, 0, []) else none) else (bif Nat.blt pc 76 then (bif Nat.beq pc 73 then some (.getfield 89, 76, [12, 26, 0], 0, 0, []) else none) else (bif Nat.beq pc 76 then some (.ireturn, 77, [0], 0, 0, []) else none)))))))
theorem okX11_feed : ∀ pc Y, pfX11_feed pc = some Y → OKI m_X11_feed pc Y := fun pc Y => ((bt_node (bt_node (bt_node (bt_node (bt_node (bt_leaf (P := OKI m_X11_feed) oX11_feed_0) (bt_leaf (P := OKI m_X11_feed) oX11_feed_1)) (bt_node (bt_leaf (P := OKI m_X11_feed) oX11_feed_2) (bt_node (bt_leaf (P := OKI m_X11_feed) oX11_feed_3) (bt_leaf (P := OKI m_X11_feed) oX11_feed_4)))) (bt_node (bt_node (bt_leaf (P := OKI m_X11_feed) oX11_feed_7) (bt_node (bt_leaf (P := OKI m_X11_feed) oX11_feed_10) (bt_leaf (P := OKI m_X11_feed) oX11_feed_12))) (bt_node (bt_leaf (P := OKI m_X11_feed) oX11_feed_13) (bt_node (bt_leaf (P := OKI m_X11_feed) oX11_feed_14) (bt_leaf (P := OKI m_X11_feed) oX11_feed_17))))) (bt_node (bt_node (bt_node (bt_leaf (P := OKI m_X11_feed) oX11_feed_18) (bt_node (bt_leaf (P := OKI m_X11_feed) oX11_feed_19) (bt_leaf (P := OKI m_X11_feed) oX11_feed_22))) (bt_node (bt_leaf (P := OKI m_X11_feed) oX11_feed_25) (bt_node (bt_leaf (P := OKI m_X11_feed) oX11_feed_27) (bt_leaf (P := OKI m_X11_feed) oX11_feed_28)))) (bt_node (bt_node (bt_leaf (P := OKI m_X11_feed) oX11_feed_29) (bt_node (bt_leaf (P := OKI m_X11_feed) oX11_feed_30) (bt_leaf (P := OKI m_X11_feed) oX11_feed_31))) (bt_node (bt_leaf (P := OKI m_X11_feed) oX11_feed_32) (bt_node (bt_leaf (P := OKI m_X11_feed) oX11_feed_33) (bt_leaf (P := OKI m_X11_feed) oX11_feed_36)))))) (bt_node (bt_node (bt_node (bt_node (bt_leaf (P := OKI m_X11_feed) oX11_feed_37) (bt_leaf (P := OKI m_X11_feed) oX11_feed_40)) (bt_node (bt_leaf (P := OKI m_X11_feed) oX11_feed_43) (bt_node (bt_leaf (P := OKI m_X11_feed) oX11_feed_44) (bt_leaf (P := OKI m_X11_feed) oX11_feed_47)))) (bt_node (bt_node (bt_leaf (P := OKI m_X11_feed) oX11_feed_48) (bt_node (bt_leaf (P := OKI m_X11_feed) oX11_feed_49) (bt_leaf (P := OKI m_X11_feed) oX11_feed_51))) (bt_node (bt_leaf (P := OKI m_X11_feed) oX11_feed_52) (bt_node (bt_leaf (P := OKI m_X11_feed) oX11_feed_53) (bt_leaf (P := OKI m_X11_feed) oX11_feed_54))))) (bt_node (bt_node (bt_node (bt_leaf (P := OKI m_X11_feed) oX11_feed_55) (bt_node (bt_leaf (P := OKI m_X11_feed) oX11_feed_56) (bt_leaf (P := OKI m_X11_feed) oX11_feed_57))) (bt_node (bt_leaf (P := OKI m_X11_feed) oX11_feed_58) (bt_node (bt_leaf (P := OKI m_X11_feed) oX11_feed_61) (bt_leaf (P := OKI m_X11_feed) oX11_feed_62)))) (bt_node (bt_node (bt_leaf (P := OKI m_X11_feed) oX11_feed_63) (bt_node (bt_leaf (P := OKI m_X11_feed) oX11_feed_66) (bt_leaf (P := OKI m_X11_feed) oX11_feed_69))) (bt_node (bt_leaf (P := OKI m_X11_feed) oX11_feed_72) (bt_node (bt_leaf (P := OKI m_X11_feed) oX11_feed_73) (bt_leaf (P := OKI m_X11_feed) oX11_feed_76))))))) : pfX11_feed pc = some Y → OKI m_X11_feed pc Y)
def stpX11_feed (pc : Nat) : Option (List Bool) := (bif Nat.beq pc 32 then some [true, true, false, true] else none)
def bX11_feed_0 (d rc rs : Nat) (a1 : Int32) (a2 : Int32) (σ : XH) (Q : XV → XH → Prop) : Prop :=
  ((1 ≤ d ∧ Ec (d - 1) 0 0 m_X11_in [vR (some (12, 0)), vI a2, vI 0, vI 4] σ (kI fun x2 h1 => ((x2 = 0 → Q (vI (-2)) h1) ∧ (¬ x2 = 0 → (((140 < ((hi h1 12 0 26) + a2) → Q (vI (-4)) h1) ∧ (¬ 140 < ((hi h1 12 0 26) + a2) → Ex d rc rs m_X11_feed 32 [vR (some (12, 0)), vI a1, vU, vI (a2 - 1)] [] h1 Q))))))))
theorem sX11_feed_0 {d rc rs : Nat} {a1 : Int32} {a2 : Int32} {σ : XH} {Q : XV → XH → Prop} (h : bX11_feed_0 d rc rs a1 a2 σ Q) : Ex d rc rs m_X11_feed 0 [vR (some (12, 0)), vI a1, vI a2, vU] [] σ Q :=
  xtree_sound (stop := stpX11_feed) okX11_feed 18 _ _ _ _ _ _ h
def bX11_feed_32 (d rc rs : Nat) (l1 : Int32) (l3 : Int32) (σ : XH) (Q : XV → XH → Prop) : Prop :=
  ((l3 < 0 → (Q (vI (hi σ 12 0 26)) σ)) ∧ (¬ l3 < 0 → ((hr σ 12 0 29 = some (136, 0) ∧ (((vp_in (1680 + (hi σ 12 0 26)) (hn σ 136 0) ∧ (∀ h1, h1 = wI σ 136 0 (1680 + (hi σ 12 0 26)).toNatClampNeg ((l1 >>> ((8 * l3) &&& 31)).toInt8.toInt32) → (((∀ h2, h2 = wI h1 12 0 26 ((hi h1 12 0 26) + 1) → Ex d rc rs m_X11_feed 32 [vR (some (12, 0)), vI l1, vU, vI (l3 + (-1))] [] h2 Q)))))))))))
theorem sX11_feed_32 {d rc rs : Nat} {l1 : Int32} {l3 : Int32} {σ : XH} {Q : XV → XH → Prop} (h : bX11_feed_32 d rc rs l1 l3 σ Q) : Ex d rc rs m_X11_feed 32 [vR (some (12, 0)), vI l1, vU, vI l3] [] σ Q :=
  xtree_sound (stop := stpX11_feed) okX11_feed 25 _ _ _ _ _ _ h
/-! SpotTimersModel.clean()V -/
theorem dX11_clean_0 : decode cX11_clean 0 = .ok (.aload_n 0, 1) := by decide +kernel
theorem dX11_clean_1 : decode cX11_clean 1 = .ok (.bipush 30, 2) := by decide +kernel
theorem dX11_clean_3 : decode cX11_clean 3 = .ok (.putfield 104, 3) := by decide +kernel
theorem dX11_clean_6 : decode cX11_clean 6 = .ok (.aload_n 0, 1) := by decide +kernel
theorem dX11_clean_7 : decode cX11_clean 7 = .ok (.iconst 1, 1) := by decide +kernel
theorem dX11_clean_8 : decode cX11_clean 8 = .ok (.putfield 107, 3) := by decide +kernel
theorem dX11_clean_11 : decode cX11_clean 11 = .ok (.aload_n 0, 1) := by decide +kernel
theorem dX11_clean_12 : decode cX11_clean 12 = .ok (.sipush 9999, 3) := by decide +kernel
theorem dX11_clean_15 : decode cX11_clean 15 = .ok (.putfield 110, 3) := by decide +kernel
theorem dX11_clean_18 : decode cX11_clean 18 = .ok (.aload_n 0, 1) := by decide +kernel
theorem dX11_clean_19 : decode cX11_clean 19 = .ok (.iconst 0, 1) := by decide +kernel
theorem dX11_clean_20 : decode cX11_clean 20 = .ok (.putfield 113, 3) := by decide +kernel
theorem dX11_clean_23 : decode cX11_clean 23 = .ok (.aload_n 0, 1) := by decide +kernel
theorem dX11_clean_24 : decode cX11_clean 24 = .ok (.iconst 0, 1) := by decide +kernel
theorem dX11_clean_25 : decode cX11_clean 25 = .ok (.putfield 116, 3) := by decide +kernel
theorem dX11_clean_28 : decode cX11_clean 28 = .ok (.aload_n 0, 1) := by decide +kernel
theorem dX11_clean_29 : decode cX11_clean 29 = .ok (.iconst 0, 1) := by decide +kernel
theorem dX11_clean_30 : decode cX11_clean 30 = .ok (.putfield 120, 3) := by decide +kernel
theorem dX11_clean_33 : decode cX11_clean 33 = .ok (.aload_n 0, 1) := by decide +kernel
theorem dX11_clean_34 : decode cX11_clean 34 = .ok (.iconst 0, 1) := by decide +kernel
theorem dX11_clean_35 : decode cX11_clean 35 = .ok (.putfield 123, 3) := by decide +kernel
theorem dX11_clean_38 : decode cX11_clean 38 = .ok (.iconst 0, 1) := by decide +kernel
theorem dX11_clean_39 : decode cX11_clean 39 = .ok (.istore_n 1, 1) := by decide +kernel
theorem dX11_clean_40 : decode cX11_clean 40 = .ok (.iload_n 1, 1) := by decide +kernel
theorem dX11_clean_41 : decode cX11_clean 41 = .ok (.bipush 6, 2) := by decide +kernel
theorem dX11_clean_43 : decode cX11_clean 43 = .ok (.if_icmp .ge 16, 3) := by decide +kernel
theorem dX11_clean_46 : decode cX11_clean 46 = .ok (.aload_n 0, 1) := by decide +kernel
theorem dX11_clean_47 : decode cX11_clean 47 = .ok (.getfield 126, 3) := by decide +kernel
theorem dX11_clean_50 : decode cX11_clean 50 = .ok (.iload_n 1, 1) := by decide +kernel
theorem dX11_clean_51 : decode cX11_clean 51 = .ok (.iconst 1, 1) := by decide +kernel
theorem dX11_clean_52 : decode cX11_clean 52 = .ok (.iastore, 1) := by decide +kernel
theorem dX11_clean_53 : decode cX11_clean 53 = .ok (.iinc 1 1, 3) := by decide +kernel
theorem dX11_clean_56 : decode cX11_clean 56 = .ok (.goto (-16), 3) := by decide +kernel
theorem dX11_clean_59 : decode cX11_clean 59 = .ok (.return_, 1) := by decide +kernel
theorem oX11_clean_0 : OKI 181 0 (.aload_n 0, 1, [0], 0, 0, []) := And.intro dX11_clean_0 (And.intro rfl (rfl))
theorem oX11_clean_1 : OKI 181 1 (.bipush 30, 3, [], 30, 0, []) := And.intro dX11_clean_1 (And.intro rfl (by decide +kernel))
theorem oX11_clean_3 : OKI 181 3 (.putfield 104, 6, [12, 31, 0], 0, 0, []) := And.intro dX11_clean_3 (And.intro rfl (⟨(RX11, TX11, 69), "SpotTimersModel", rfl, by decide, tm_5 _ (List.mem_of_getElem? (i := 237) rfl) rfl, Or.inl rfl, Or.inl rfl, rfl⟩))
theorem oX11_clean_6 : OKI 181 6 (.aload_n 0, 7, [0], 0, 0, []) := And.intro dX11_clean_6 (And.intro rfl (rfl))
theorem oX11_clean_7 : OKI 181 7 (.iconst 1, 8, [], 1, 0, []) := And.intro dX11_clean_7 (And.intro rfl (by decide +kernel))
theorem oX11_clean_8 : OKI 181 8 (.putfield 107, 11, [12, 32, 0], 0, 0, []) := And.intro dX11_clean_8 (And.intro rfl (⟨(RX11, TX11, 69), "SpotTimersModel", rfl, by decide, tm_5 _ (List.mem_of_getElem? (i := 238) rfl) rfl, Or.inl rfl, Or.inl rfl, rfl⟩))
theorem oX11_clean_11 : OKI 181 11 (.aload_n 0, 12, [0], 0, 0, []) := And.intro dX11_clean_11 (And.intro rfl (rfl))
theorem oX11_clean_12 : OKI 181 12 (.sipush 9999, 15, [], 9999, 0, []) := And.intro dX11_clean_12 (And.intro rfl (by decide +kernel))
theorem oX11_clean_15 : OKI 181 15 (.putfield 110, 18, [12, 33, 0], 0, 0, []) := And.intro dX11_clean_15 (And.intro rfl (⟨(RX11, TX11, 69), "SpotTimersModel", rfl, by decide, tm_5 _ (List.mem_of_getElem? (i := 239) rfl) rfl, Or.inl rfl, Or.inl rfl, rfl⟩))
theorem oX11_clean_18 : OKI 181 18 (.aload_n 0, 19, [0], 0, 0, []) := And.intro dX11_clean_18 (And.intro rfl (rfl))
theorem oX11_clean_19 : OKI 181 19 (.iconst 0, 20, [], 0, 0, []) := And.intro dX11_clean_19 (And.intro rfl (by decide +kernel))
theorem oX11_clean_20 : OKI 181 20 (.putfield 113, 23, [12, 34, 0], 0, 0, []) := And.intro dX11_clean_20 (And.intro rfl (⟨(RX11, TX11, 69), "SpotTimersModel", rfl, by decide, tm_6 _ (List.mem_of_getElem? (i := 0) rfl) rfl, Or.inl rfl, Or.inl rfl, rfl⟩))
theorem oX11_clean_23 : OKI 181 23 (.aload_n 0, 24, [0], 0, 0, []) := And.intro dX11_clean_23 (And.intro rfl (rfl))
theorem oX11_clean_24 : OKI 181 24 (.iconst 0, 25, [], 0, 0, []) := And.intro dX11_clean_24 (And.intro rfl (by decide +kernel))
theorem oX11_clean_25 : OKI 181 25 (.putfield 116, 28, [12, 35, 3], 0, 0, []) := And.intro dX11_clean_25 (And.intro rfl (⟨(RX11, TX11, 69), "SpotTimersModel", rfl, by decide, tm_6 _ (List.mem_of_getElem? (i := 1) rfl) rfl, Or.inl rfl, Or.inl rfl, rfl⟩))
theorem oX11_clean_28 : OKI 181 28 (.aload_n 0, 29, [0], 0, 0, []) := And.intro dX11_clean_28 (And.intro rfl (rfl))
theorem oX11_clean_29 : OKI 181 29 (.iconst 0, 30, [], 0, 0, []) := And.intro dX11_clean_29 (And.intro rfl (by decide +kernel))
theorem oX11_clean_30 : OKI 181 30 (.putfield 120, 33, [12, 36, 3], 0, 0, []) := And.intro dX11_clean_30 (And.intro rfl (⟨(RX11, TX11, 69), "SpotTimersModel", rfl, by decide, tm_6 _ (List.mem_of_getElem? (i := 2) rfl) rfl, Or.inl rfl, Or.inl rfl, rfl⟩))
theorem oX11_clean_33 : OKI 181 33 (.aload_n 0, 34, [0], 0, 0, []) := And.intro dX11_clean_33 (And.intro rfl (rfl))
theorem oX11_clean_34 : OKI 181 34 (.iconst 0, 35, [], 0, 0, []) := And.intro dX11_clean_34 (And.intro rfl (by decide +kernel))
theorem oX11_clean_35 : OKI 181 35 (.putfield 123, 38, [12, 37, 3], 0, 0, []) := And.intro dX11_clean_35 (And.intro rfl (⟨(RX11, TX11, 69), "SpotTimersModel", rfl, by decide, tm_6 _ (List.mem_of_getElem? (i := 3) rfl) rfl, Or.inl rfl, Or.inl rfl, rfl⟩))
theorem oX11_clean_38 : OKI 181 38 (.iconst 0, 39, [], 0, 0, []) := And.intro dX11_clean_38 (And.intro rfl (by decide +kernel))
theorem oX11_clean_39 : OKI 181 39 (.istore_n 1, 40, [1], 0, 0, []) := And.intro dX11_clean_39 (And.intro rfl (And.intro rfl (by decide)))
theorem oX11_clean_40 : OKI 181 40 (.iload_n 1, 41, [1], 0, 0, []) := And.intro dX11_clean_40 (And.intro rfl (rfl))
theorem oX11_clean_41 : OKI 181 41 (.bipush 6, 43, [], 6, 0, []) := And.intro dX11_clean_41 (And.intro rfl (by decide +kernel))
theorem oX11_clean_43 : OKI 181 43 (.if_icmp .ge 16, 46, [59], 0, 0, []) := And.intro dX11_clean_43 (And.intro rfl (by decide))
theorem oX11_clean_46 : OKI 181 46 (.aload_n 0, 47, [0], 0, 0, []) := And.intro dX11_clean_46 (And.intro rfl (rfl))
theorem oX11_clean_47 : OKI 181 47 (.getfield 126, 50, [12, 38, 2, 138, 0], 0, 0, []) := And.intro dX11_clean_47 (And.intro rfl (⟨(RX11, TX11, 69), "SpotTimersModel", rfl, by decide, tm_6 _ (List.mem_of_getElem? (i := 4) rfl) rfl, Or.inl rfl, rfl, rfl⟩))
theorem oX11_clean_50 : OKI 181 50 (.iload_n 1, 51, [1], 0, 0, []) := And.intro dX11_clean_50 (And.intro rfl (rfl))
theorem oX11_clean_51 : OKI 181 51 (.iconst 1, 52, [], 1, 0, []) := And.intro dX11_clean_51 (And.intro rfl (by decide +kernel))
theorem oX11_clean_52 : OKI 181 52 (.iastore, 53, [], 0, 0, []) := And.intro dX11_clean_52 rfl
theorem oX11_clean_53 : OKI 181 53 (.iinc 1 1, 56, [1], 1, 0, []) := And.intro dX11_clean_53 (And.intro rfl (And.intro rfl (And.intro (by decide +kernel) (by decide))))
theorem oX11_clean_56 : OKI 181 56 (.goto (-16), 59, [40], 0, 0, []) := And.intro dX11_clean_56 (And.intro rfl (by decide))
theorem oX11_clean_59 : OKI 181 59 (.return_, 60, [], 0, 0, []) := And.intro dX11_clean_59 rfl
def pfX11_clean (pc : Nat) : Option XE := (bif Nat.blt pc 30 then (bif Nat.blt pc 15 then (bif Nat.blt pc 7 then (bif Nat.blt pc 3 then (bif Nat.blt pc 1 then (bif Nat.beq pc 0 then some (.aload_n 0, 1, [0], 0, 0, []) else none) else (bif Nat.beq pc 1 then some (.bipush 30, 3, [], 30, 0, []) else none)) else (bif Nat.blt pc 6 then (bif Nat.beq pc 3 then some (.putfield 104, 6, [12, 31, 0], 0, 0, []) else none) else (bif Nat.beq pc 6 then some (.aload_n 0, 7, [0], 0, 0, []) else none))) else (bif Nat.blt pc 11 then (bif Nat.blt pc 8 then (bif Nat.beq pc 7 then some (.iconst 1, 8, [], 1, 0, []) else none) else (bif Nat.beq pc 8 then some (.putfield 107, 11, [12, 32, 0], 0, 0, []) else none)) else (bif Nat.blt pc 12 then (bif Nat.beq pc 11 then some (.aload_n 0, 12, [0], 0, 0, []) else none) else (bif Nat.beq pc 12 then some (.sipush 9999, 15, [], 9999, 0, []) else none)))) else (bif Nat.blt pc 23 then (bif Nat.blt pc 19 then (bif Nat.blt pc 18 then (bif Nat.beq pc 15 then some (.putfield 110, 18, [12, 33, 0], 0, 0, []) else none) else (bif Nat.beq pc 18 then some (.aload_n 0, 19, [0], 0, 0, []) else none)) else (bif Nat.blt pc 20 then (bif Nat.beq pc 19 then some (.iconst 0, 20, [], 0, 0, []) else none) else (bif Nat.beq pc 20 then some (.putfield 113, 23, [12, 34, 0], 0, 0, []) else none))) else (bif Nat.blt pc 25 then (bif Nat.blt pc 24 then (bif Nat.beq pc 23 then some (.aload_n 0, 24, [0], 0, 0, []) else none) else (bif Nat.beq pc 24 then some (.iconst 0, 25, [], 0, 0, []) else none)) else (bif Nat.blt pc 28 then (bif Nat.beq pc 25 then some (.putfield 116, 28, [12, 35, 3], 0, 0, []) else none) else (bif Nat.blt pc 29 then (bif Nat.beq pc 28 then some (.aload_n 0, 29, [0], 0, 0, []) else none) else (bif Nat.beq pc 29 then some (.iconst 0, 30, [], 0, 0, []) else none)))))) else (bif Nat.blt pc 43 then (bif Nat.blt pc 38 then (bif Nat.blt pc 34 then (bif Nat.blt pc 33 then (bif Nat.beq pc 30 then some (.putfield 120, 33, [12, 36, 3], 0, 0, []) else none) else (bif Nat.beq pc 33 then some (.aload_n 0, 34, [0], 0, 0, []) else none)) else (bif Nat.blt pc 35 then (bif Nat.beq pc 34 then some (.iconst 0, 35, [], 0, 0, []) else none) else (bif Nat.beq pc 35 then some (.putfield 123, 38, [12, 37, 3], 0, 0, []) else none))) else (bif Nat.blt pc 40 then (bif Nat.blt pc 39 then (bif Nat.beq pc 38 then some (.iconst 0, 39, [], 0, 0, []) else none) else (bif Nat.beq pc 39 then some (.istore_n 1, 40, [1], 0, 0, []) else none)) else (bif Nat.blt pc 41 then (bif Nat.beq pc 40 then some (.iload_n 1, 41, [1], 0, 0, []) else none) else (bif Nat.beq pc 41 then some (.bipush 6, 43, [], 6, 0, []) else none)))) else (bif Nat.blt pc 51 then (bif Nat.blt pc 47 then (bif Nat.blt pc 46 then (bif Nat.beq pc 43 then some (.if_icmp .ge 16, 46, [59], 0, 0, []) else none) else (bif Nat.beq pc 46 then some (.aload_n 0, 47, [0], 0, 0, []) else none)) else (bif Nat.blt pc 50 then (bif Nat.beq pc 47 then some (.getfield 126, 50, [12, 38, 2, 138, 0], 0, 0, []) else none) else (bif Nat.beq pc 50 then some (.iload_n 1, 51, [1], 0, 0, []) else none))) else (bif Nat.blt pc 53 then (bif Nat.blt pc 52 then (bif Nat.beq pc 51 then some (.iconst 1, 52, [], 1, 0, []) else none) else (bif Nat.beq pc 52 then some (.iastore, 53, [], 0, 0, []) else none)) else (bif Nat.blt pc 56 then (bif Nat.beq pc 53 then some (.iinc 1 1, 56, [1], 1, 0, []) else none) else (bif Nat.blt pc 59 then (bif Nat.beq pc 56 then some (.goto (-16), 59, [40], 0, 0, []) else none) else (bif Nat.beq pc 59 then some (.return_, 60, [], 0, 0, []) else none)))))))
theorem okX11_clean : ∀ pc Y, pfX11_clean pc = some Y → OKI m_X11_clean pc Y := fun pc Y => ((bt_node (bt_node (bt_node (bt_node (bt_node (bt_leaf (P := OKI m_X11_clean) oX11_clean_0) (bt_leaf (P := OKI m_X11_clean) oX11_clean_1)) (bt_node (bt_leaf (P := OKI m_X11_clean) oX11_clean_3) (bt_leaf (P := OKI m_X11_clean) oX11_clean_6))) (bt_node (bt_node (bt_leaf (P := OKI m_X11_clean) oX11_clean_7) (bt_leaf (P := OKI m_X11_clean) oX11_clean_8)) (bt_node (bt_leaf (P := OKI m_X11_clean) oX11_clean_11) (bt_leaf (P := OKI m_X11_clean) oX11_clean_12)))) (bt_node (bt_node (bt_node (bt_leaf (P := OKI m_X11_clean) oX11_clean_15) (bt_leaf (P := OKI m_X11_clean) oX11_clean_18)) (bt_node (bt_leaf (P := OKI m_X11_clean) oX11_clean_19) (bt_leaf (P := OKI m_X11_clean) oX11_clean_20))) (bt_node (bt_node (bt_leaf (P := OKI m_X11_clean) oX11_clean_23) (bt_leaf (P := OKI m_X11_clean) oX11_clean_24)) (bt_node (bt_leaf (P := OKI m_X11_clean) oX11_clean_25) (bt_node (bt_leaf (P := OKI m_X11_clean) oX11_clean_28) (bt_leaf (P := OKI m_X11_clean) oX11_clean_29)))))) (bt_node (bt_node (bt_node (bt_node (bt_leaf (P := OKI m_X11_clean) oX11_clean_30) (bt_leaf (P := OKI m_X11_clean) oX11_clean_33)) (bt_node (bt_leaf (P := OKI m_X11_clean) oX11_clean_34) (bt_leaf (P := OKI m_X11_clean) oX11_clean_35))) (bt_node (bt_node (bt_leaf (P := OKI m_X11_clean) oX11_clean_38) (bt_leaf (P := OKI m_X11_clean) oX11_clean_39)) (bt_node (bt_leaf (P := OKI m_X11_clean) oX11_clean_40) (bt_leaf (P := OKI m_X11_clean) oX11_clean_41)))) (bt_node (bt_node (bt_node (bt_leaf (P := OKI m_X11_clean) oX11_clean_43) (bt_leaf (P := OKI m_X11_clean) oX11_clean_46)) (bt_node (bt_leaf (P := OKI m_X11_clean) oX11_clean_47) (bt_leaf (P := OKI m_X11_clean) oX11_clean_50))) (bt_node (bt_node (bt_leaf (P := OKI m_X11_clean) oX11_clean_51) (bt_leaf (P := OKI m_X11_clean) oX11_clean_52)) (bt_node (bt_leaf (P := OKI m_X11_clean) oX11_clean_53) (bt_node (bt_leaf (P := OKI m_X11_clean) oX11_clean_56) (bt_leaf (P := OKI m_X11_clean) oX11_clean_59))))))) : pfX11_clean pc = some Y → OKI m_X11_clean pc Y)
def stpX11_clean (pc : Nat) : Option (List Bool) := (bif Nat.beq pc 40 then some [true, true] else none)
def bX11_clean_0 (d rc rs : Nat)  (σ : XH) (Q : XV → XH → Prop) : Prop :=
  ((∀ h1, h1 = wI σ 12 0 31 30 → ((∀ h2, h2 = wI h1 12 0 32 1 → ((∀ h3, h3 = wI h2 12 0 33 9999 → ((∀ h4, h4 = wI h3 12 0 34 0 → ((((0 : Int32) = 0 ∨ (0 : Int32) = 1) ∧ (∀ h5, h5 = wI h4 12 0 35 0 → ((((0 : Int32) = 0 ∨ (0 : Int32) = 1) ∧ (∀ h6, h6 = wI h5 12 0 36 0 → ((((0 : Int32) = 0 ∨ (0 : Int32) = 1) ∧ (∀ h7, h7 = wI h6 12 0 37 0 → Ex d rc rs m_X11_clean 40 [vR (some (12, 0)), vI 0] [] h7 Q)))))))))))))))))
theorem sX11_clean_0 {d rc rs : Nat}  {σ : XH} {Q : XV → XH → Prop} (h : bX11_clean_0 d rc rs  σ Q) : Ex d rc rs m_X11_clean 0 [vR (some (12, 0)), vU] [] σ Q :=
  xtree_sound (stop := stpX11_clean) okX11_clean 25 _ _ _ _ _ _ h
def bX11_clean_40 (d rc rs : Nat) (l1 : Int32) (σ : XH) (Q : XV → XH → Prop) : Prop :=
  ((l1 < 6 → ((hr σ 12 0 38 = some (138, 0) ∧ ((vp_in l1 (hn σ 138 0) ∧ (∀ h1, h1 = wI σ 138 0 l1.toNatClampNeg 1 → Ex d rc rs m_X11_clean 40 [vR (some (12, 0)), vI (l1 + 1)] [] h1 Q)))))) ∧ (¬ l1 < 6 → Q vU σ))
theorem sX11_clean_40 {d rc rs : Nat} {l1 : Int32} {σ : XH} {Q : XV → XH → Prop} (h : bX11_clean_40 d rc rs l1 σ Q) : Ex d rc rs m_X11_clean 40 [vR (some (12, 0)), vI l1] [] σ Q :=
  xtree_sound (stop := stpX11_clean) okX11_clean 12 _ _ _ _ _ _ h
/-! SpotTimersModel.next()I -/
theorem dX11_next_0 : decode cX11_next 0 = .ok (.aload_n 0, 1) := by decide +kernel
theorem dX11_next_1 : decode cX11_next 1 = .ok (.getfield 138, 3) := by decide +kernel
theorem dX11_next_4 : decode cX11_next 4 = .ok (.aload_n 0, 1) := by decide +kernel
theorem dX11_next_5 : decode cX11_next 5 = .ok (.getfield 135, 3) := by decide +kernel
theorem dX11_next_8 : decode cX11_next 8 = .ok (.if_icmp .ge 20, 3) := by decide +kernel
theorem dX11_next_11 : decode cX11_next 11 = .ok (.aload_n 0, 1) := by decide +kernel
theorem dX11_next_12 : decode cX11_next 12 = .ok (.getfield 98, 3) := by decide +kernel
theorem dX11_next_15 : decode cX11_next 15 = .ok (.aload_n 0, 1) := by decide +kernel
theorem dX11_next_16 : decode cX11_next 16 = .ok (.getfield 132, 3) := by decide +kernel
theorem dX11_next_19 : decode cX11_next 19 = .ok (.aload_n 0, 1) := by decide +kernel
theorem dX11_next_20 : decode cX11_next 20 = .ok (.getfield 138, 3) := by decide +kernel
theorem dX11_next_23 : decode cX11_next 23 = .ok (.iadd, 1) := by decide +kernel
theorem dX11_next_24 : decode cX11_next 24 = .ok (.iaload, 1) := by decide +kernel
theorem dX11_next_25 : decode cX11_next 25 = .ok (.goto 4, 3) := by decide +kernel
theorem dX11_next_28 : decode cX11_next 28 = .ok (.iconst (-1), 1) := by decide +kernel
theorem dX11_next_29 : decode cX11_next 29 = .ok (.ireturn, 1) := by decide +kernel
theorem oX11_next_0 : OKI 182 0 (.aload_n 0, 1, [0], 0, 0, []) := And.intro dX11_next_0 (And.intro rfl (rfl))
theorem oX11_next_1 : OKI 182 1 (.getfield 138, 4, [12, 42, 0], 0, 0, []) := And.intro dX11_next_1 (And.intro rfl (⟨(RX11, TX11, 69), "SpotTimersModel", rfl, by decide, tm_6 _ (List.mem_of_getElem? (i := 8) rfl) rfl, Or.inl rfl, Or.inr (Or.inr (And.intro rfl (Or.inl rfl)))⟩))
theorem oX11_next_4 : OKI 182 4 (.aload_n 0, 5, [0], 0, 0, []) := And.intro dX11_next_4 (And.intro rfl (rfl))
theorem oX11_next_5 : OKI 182 5 (.getfield 135, 8, [12, 41, 0], 0, 0, []) := And.intro dX11_next_5 (And.intro rfl (⟨(RX11, TX11, 69), "SpotTimersModel", rfl, by decide, tm_6 _ (List.mem_of_getElem? (i := 7) rfl) rfl, Or.inl rfl, Or.inr (Or.inr (And.intro rfl (Or.inl rfl)))⟩))
theorem oX11_next_8 : OKI 182 8 (.if_icmp .ge 20, 11, [28], 0, 0, []) := And.intro dX11_next_8 (And.intro rfl (by decide))
theorem oX11_next_11 : OKI 182 11 (.aload_n 0, 12, [0], 0, 0, []) := And.intro dX11_next_11 (And.intro rfl (rfl))
theorem oX11_next_12 : OKI 182 12 (.getfield 98, 15, [12, 29, 2, 136, 0], 0, 0, []) := And.intro dX11_next_12 (And.intro rfl (⟨(RX11, TX11, 69), "SpotTimersModel", rfl, by decide, tm_5 _ (List.mem_of_getElem? (i := 235) rfl) rfl, Or.inl rfl, rfl, rfl⟩))
theorem oX11_next_15 : OKI 182 15 (.aload_n 0, 16, [0], 0, 0, []) := And.intro dX11_next_15 (And.intro rfl (rfl))
theorem oX11_next_16 : OKI 182 16 (.getfield 132, 19, [12, 40, 0], 0, 0, []) := And.intro dX11_next_16 (And.intro rfl (⟨(RX11, TX11, 69), "SpotTimersModel", rfl, by decide, tm_6 _ (List.mem_of_getElem? (i := 6) rfl) rfl, Or.inl rfl, Or.inr (Or.inr (And.intro rfl (Or.inl rfl)))⟩))
theorem oX11_next_19 : OKI 182 19 (.aload_n 0, 20, [0], 0, 0, []) := And.intro dX11_next_19 (And.intro rfl (rfl))
theorem oX11_next_20 : OKI 182 20 (.getfield 138, 23, [12, 42, 0], 0, 0, []) := And.intro dX11_next_20 (And.intro rfl (⟨(RX11, TX11, 69), "SpotTimersModel", rfl, by decide, tm_6 _ (List.mem_of_getElem? (i := 8) rfl) rfl, Or.inl rfl, Or.inr (Or.inr (And.intro rfl (Or.inl rfl)))⟩))
theorem oX11_next_23 : OKI 182 23 (.iadd, 24, [], 0, 0, []) := And.intro dX11_next_23 rfl
theorem oX11_next_24 : OKI 182 24 (.iaload, 25, [], 0, 0, []) := And.intro dX11_next_24 rfl
theorem oX11_next_25 : OKI 182 25 (.goto 4, 28, [29], 0, 0, []) := And.intro dX11_next_25 (And.intro rfl (by decide))
theorem oX11_next_28 : OKI 182 28 (.iconst (-1), 29, [], (-1), 0, []) := And.intro dX11_next_28 (And.intro rfl (by decide +kernel))
theorem oX11_next_29 : OKI 182 29 (.ireturn, 30, [0], 0, 0, []) := And.intro dX11_next_29 (Or.inl (And.intro rfl rfl))
def pfX11_next (pc : Nat) : Option XE := (bif Nat.blt pc 16 then (bif Nat.blt pc 8 then (bif Nat.blt pc 4 then (bif Nat.blt pc 1 then (bif Nat.beq pc 0 then some (.aload_n 0, 1, [0], 0, 0, []) else none) else (bif Nat.beq pc 1 then some (.getfield 138, 4, [12, 42, 0], 0, 0, []) else none)) else (bif Nat.blt pc 5 then (bif Nat.beq pc 4 then some (.aload_n 0, 5, [0], 0, 0, []) else none) else (bif Nat.beq pc 5 then some (.getfield 135, 8, [12, 41, 0], 0, 0, []) else none))) else (bif Nat.blt pc 12 then (bif Nat.blt pc 11 then (bif Nat.beq pc 8 then some (.if_icmp .ge 20, 11, [28], 0, 0, []) else none) else (bif Nat.beq pc 11 then some (.aload_n 0, 12, [0], 0, 0, []) else none)) else (bif Nat.blt pc 15 then (bif Nat.beq pc 12 then some (.getfield 98, 15, [12, 29, 2, 136, 0], 0, 0, []) else none) else (bif Nat.beq pc 15 then some (.aload_n 0, 16, [0], 0, 0, []) else none)))) else (bif Nat.blt pc 24 then (bif Nat.blt pc 20 then (bif Nat.blt pc 19 then (bif Nat.beq pc 16 then some (.getfield 132, 19, [12, 40, 0], 0, 0, []) else none) else (bif Nat.beq pc 19 then some (.aload_n 0, 20, [0], 0, 0, []) else none)) else (bif Nat.blt pc 23 then (bif Nat.beq pc 20 then some (.getfield 138, 23, [12, 42, 0], 0, 0, []) else none) else (bif Nat.beq pc 23 then some (.iadd, 24, [], 0, 0, []) else none))) else (bif Nat.blt pc 28 then (bif Nat.blt pc 25 then (bif Nat.beq pc 24 then some (.iaload, 25, [], 0, 0, []) else none) else (bif Nat.beq pc 25 then some (.goto 4, 28, [29], 0, 0, []) else none)) else (bif Nat.blt pc 29 then (bif Nat.beq pc 28 then some (.iconst (-1), 29, [], (-1), 0, []) else none) else (bif Nat.beq pc 29 then some (.ireturn, 30, [0], 0, 0, []) else none)))))
theorem okX11_next : ∀ pc Y, pfX11_next pc = some Y → OKI m_X11_next pc Y := fun pc Y => ((bt_node (bt_node (bt_node (bt_node (bt_leaf (P := OKI m_X11_next) oX11_next_0) (bt_leaf (P := OKI m_X11_next) oX11_next_1)) (bt_node (bt_leaf (P := OKI m_X11_next) oX11_next_4) (bt_leaf (P := OKI m_X11_next) oX11_next_5))) (bt_node (bt_node (bt_leaf (P := OKI m_X11_next) oX11_next_8) (bt_leaf (P := OKI m_X11_next) oX11_next_11)) (bt_node (bt_leaf (P := OKI m_X11_next) oX11_next_12) (bt_leaf (P := OKI m_X11_next) oX11_next_15)))) (bt_node (bt_node (bt_node (bt_leaf (P := OKI m_X11_next) oX11_next_16) (bt_leaf (P := OKI m_X11_next) oX11_next_19)) (bt_node (bt_leaf (P := OKI m_X11_next) oX11_next_20) (bt_leaf (P := OKI m_X11_next) oX11_next_23))) (bt_node (bt_node (bt_leaf (P := OKI m_X11_next) oX11_next_24) (bt_leaf (P := OKI m_X11_next) oX11_next_25)) (bt_node (bt_leaf (P := OKI m_X11_next) oX11_next_28) (bt_leaf (P := OKI m_X11_next) oX11_next_29))))) : pfX11_next pc = some Y → OKI m_X11_next pc Y)
def stpX11_next (pc : Nat) : Option (List Bool) := (bif Nat.beq pc 29 then some [false] else none)
def bX11_next_0 (d rc rs : Nat)  (σ : XH) (Q : XV → XH → Prop) : Prop :=
  (((((hi σ 12 0 42) < (hi σ 12 0 41) → ((hr σ 12 0 29 = some (136, 0) ∧ ((((vp_in ((hi σ 12 0 40) + (hi σ 12 0 42)) (hn σ 136 0) ∧ Ex d rc rs m_X11_next 29 [vU] [vI (hi σ 136 0 ((hi σ 12 0 40) + (hi σ 12 0 42)).toNatClampNeg)] σ Q))))))) ∧ (¬ (hi σ 12 0 42) < (hi σ 12 0 41) → Ex d rc rs m_X11_next 29 [vU] [vI (-1)] σ Q))))
theorem sX11_next_0 {d rc rs : Nat}  {σ : XH} {Q : XV → XH → Prop} (h : bX11_next_0 d rc rs  σ Q) : Ex d rc rs m_X11_next 0 [vR (some (12, 0))] [] σ Q :=
  xtree_sound (stop := stpX11_next) okX11_next 16 _ _ _ _ _ _ h
def bX11_next_29 (d rc rs : Nat) (q0 : Int32) (σ : XH) (Q : XV → XH → Prop) : Prop :=
  Q (vI q0) σ
theorem sX11_next_29 {d rc rs : Nat} {q0 : Int32} {σ : XH} {Q : XV → XH → Prop} (h : bX11_next_29 d rc rs q0 σ Q) : Ex d rc rs m_X11_next 29 [vU] [vI q0] σ Q :=
  xtree_sound (stop := stpX11_next) okX11_next 3 _ _ _ _ _ _ h
/-! SpotTimersModel.isDigit()Z -/
theorem dX11_isDigit_0 : decode cX11_isDigit 0 = .ok (.aload_n 0, 1) := by decide +kernel
theorem dX11_isDigit_1 : decode cX11_isDigit 1 = .ok (.aload_n 0, 1) := by decide +kernel
theorem dX11_isDigit_2 : decode cX11_isDigit 2 = .ok (.invokevirtual 310, 3) := by decide +kernel
theorem dX11_isDigit_5 : decode cX11_isDigit 5 = .ok (.bipush 48, 2) := by decide +kernel
theorem dX11_isDigit_7 : decode cX11_isDigit 7 = .ok (.bipush 57, 2) := by decide +kernel
theorem dX11_isDigit_9 : decode cX11_isDigit 9 = .ok (.invokevirtual 222, 3) := by decide +kernel
theorem dX11_isDigit_12 : decode cX11_isDigit 12 = .ok (.ireturn, 1) := by decide +kernel
theorem oX11_isDigit_0 : OKI 183 0 (.aload_n 0, 1, [0], 0, 0, []) := And.intro dX11_isDigit_0 (And.intro rfl (rfl))
theorem oX11_isDigit_1 : OKI 183 1 (.aload_n 0, 2, [0], 0, 0, []) := And.intro dX11_isDigit_1 (And.intro rfl (rfl))
theorem oX11_isDigit_2 : OKI 183 2 (.invokevirtual 310, 5, [182, 1, 13, 0, 0, 1], 0, 0, []) := And.intro dX11_isDigit_2 (And.intro rfl (And.intro (by decide) (And.intro (by decide) (And.intro mo_X11_next (And.intro (tm_7 _ (List.mem_of_getElem? (i := 124) rfl) rfl) (And.intro (tm_7 _ (List.mem_of_getElem? (i := 126) rfl) rfl) (And.intro (pm_5 _ (List.mem_of_getElem? (i := 2) rfl)) (Or.inl ⟨(RX11, TX11, 69), rfl, rfl⟩))))))))
theorem oX11_isDigit_5 : OKI 183 5 (.bipush 48, 7, [], 48, 0, []) := And.intro dX11_isDigit_5 (And.intro rfl (by decide +kernel))
theorem oX11_isDigit_7 : OKI 183 7 (.bipush 57, 9, [], 57, 0, []) := And.intro dX11_isDigit_7 (And.intro rfl (by decide +kernel))
theorem oX11_isDigit_9 : OKI 183 9 (.invokevirtual 222, 12, [141, 4, 13, 0, 0, 1], 0, 0, []) := And.intro dX11_isDigit_9 (And.intro rfl (And.intro (by decide) (And.intro (by decide) (And.intro mo_X11_in (And.intro (tm_6 _ (List.mem_of_getElem? (i := 179) rfl) rfl) (And.intro (tm_6 _ (List.mem_of_getElem? (i := 181) rfl) rfl) (And.intro (pm_3 _ (List.mem_of_getElem? (i := 8) rfl)) (Or.inl ⟨(RX11, TX11, 69), rfl, rfl⟩))))))))
theorem oX11_isDigit_12 : OKI 183 12 (.ireturn, 13, [3], 0, 0, []) := And.intro dX11_isDigit_12 (Or.inr (Or.inl (And.intro rfl rfl)))
def pfX11_isDigit (pc : Nat) : Option XE := (bif Nat.blt pc 5 then (bif Nat.blt pc 1 then (bif Nat.beq pc 0 then some (.aload_n 0, 1, [0], 0, 0, []) else none) else (bif Nat.blt pc 2 then (bif Nat.beq pc 1 then some (.aload_n 0, 2, [0], 0, 0, []) else none) else (bif Nat.beq pc 2 then some (.invokevirtual 310, 5, [182, 1, 13, 0, 0, 1], 0, 0, []) else none))) else (bif Nat.blt pc 9 then (bif Nat.blt pc 7 then (bif Nat.beq pc 5 then some (.bipush 48, 7, [], 48, 0, []) else none) else (bif Nat.beq pc 7 then some (.bipush 57, 9, [], 57, 0, []) else none)) else (bif Nat.blt pc 12 then (bif Nat.beq pc 9 then some (.invokevirtual 222, 12, [141, 4, 13, 0, 0, 1], 0, 0, []) else none) else (bif Nat.beq pc 12 then some (.ireturn, 13, [3], 0, 0, []) else none))))
theorem okX11_isDigit : ∀ pc Y, pfX11_isDigit pc = some Y → OKI m_X11_isDigit pc Y := fun pc Y => ((bt_node (bt_node (bt_leaf (P := OKI m_X11_isDigit) oX11_isDigit_0) (bt_node (bt_leaf (P := OKI m_X11_isDigit) oX11_isDigit_1) (bt_leaf (P := OKI m_X11_isDigit) oX11_isDigit_2))) (bt_node (bt_node (bt_leaf (P := OKI m_X11_isDigit) oX11_isDigit_5) (bt_leaf (P := OKI m_X11_isDigit) oX11_isDigit_7)) (bt_node (bt_leaf (P := OKI m_X11_isDigit) oX11_isDigit_9) (bt_leaf (P := OKI m_X11_isDigit) oX11_isDigit_12)))) : pfX11_isDigit pc = some Y → OKI m_X11_isDigit pc Y)
def stpX11_isDigit (_ : Nat) : Option (List Bool) := none
def bX11_isDigit_0 (d rc rs : Nat)  (σ : XH) (Q : XV → XH → Prop) : Prop :=
  ((1 ≤ d ∧ Ec (d - 1) 0 0 m_X11_next [vR (some (12, 0))] σ (kI fun x2 h1 => ((1 ≤ d ∧ Ec (d - 1) 0 0 m_X11_in [vR (some (12, 0)), vI x2, vI 48, vI 57] h1 (kI fun x4 h3 => ((x4 = 0 ∨ x4 = 1) ∧ Q (vI x4) h3)))))))
theorem sX11_isDigit_0 {d rc rs : Nat}  {σ : XH} {Q : XV → XH → Prop} (h : bX11_isDigit_0 d rc rs  σ Q) : Ex d rc rs m_X11_isDigit 0 [vR (some (12, 0))] [] σ Q :=
  xtree_sound (stop := stpX11_isDigit) okX11_isDigit 9 _ _ _ _ _ _ h
/-! SpotTimersModel.takes(I)Z -/
theorem dX11_takes_0 : decode cX11_takes 0 = .ok (.aload_n 0, 1) := by decide +kernel
theorem dX11_takes_1 : decode cX11_takes 1 = .ok (.invokevirtual 310, 3) := by decide +kernel
theorem dX11_takes_4 : decode cX11_takes 4 = .ok (.iload_n 1, 1) := by decide +kernel
theorem dX11_takes_5 : decode cX11_takes 5 = .ok (.if_icmp .eq 5, 3) := by decide +kernel
theorem dX11_takes_8 : decode cX11_takes 8 = .ok (.iconst 0, 1) := by decide +kernel
theorem dX11_takes_9 : decode cX11_takes 9 = .ok (.ireturn, 1) := by decide +kernel
theorem dX11_takes_10 : decode cX11_takes 10 = .ok (.aload_n 0, 1) := by decide +kernel
theorem dX11_takes_11 : decode cX11_takes 11 = .ok (.dup, 1) := by decide +kernel
theorem dX11_takes_12 : decode cX11_takes 12 = .ok (.getfield 138, 3) := by decide +kernel
theorem dX11_takes_15 : decode cX11_takes 15 = .ok (.iconst 1, 1) := by decide +kernel
theorem dX11_takes_16 : decode cX11_takes 16 = .ok (.iadd, 1) := by decide +kernel
theorem dX11_takes_17 : decode cX11_takes 17 = .ok (.putfield 138, 3) := by decide +kernel
theorem dX11_takes_20 : decode cX11_takes 20 = .ok (.iconst 1, 1) := by decide +kernel
theorem dX11_takes_21 : decode cX11_takes 21 = .ok (.ireturn, 1) := by decide +kernel
theorem oX11_takes_0 : OKI 184 0 (.aload_n 0, 1, [0], 0, 0, []) := And.intro dX11_takes_0 (And.intro rfl (rfl))
theorem oX11_takes_1 : OKI 184 1 (.invokevirtual 310, 4, [182, 1, 13, 0, 0, 1], 0, 0, []) := And.intro dX11_takes_1 (And.intro rfl (And.intro (by decide) (And.intro (by decide) (And.intro mo_X11_next (And.intro (tm_7 _ (List.mem_of_getElem? (i := 124) rfl) rfl) (And.intro (tm_7 _ (List.mem_of_getElem? (i := 126) rfl) rfl) (And.intro (pm_5 _ (List.mem_of_getElem? (i := 2) rfl)) (Or.inl ⟨(RX11, TX11, 69), rfl, rfl⟩))))))))
theorem oX11_takes_4 : OKI 184 4 (.iload_n 1, 5, [1], 0, 0, []) := And.intro dX11_takes_4 (And.intro rfl (rfl))
theorem oX11_takes_5 : OKI 184 5 (.if_icmp .eq 5, 8, [10], 0, 0, []) := And.intro dX11_takes_5 (And.intro rfl (by decide))
theorem oX11_takes_8 : OKI 184 8 (.iconst 0, 9, [], 0, 0, []) := And.intro dX11_takes_8 (And.intro rfl (by decide +kernel))
theorem oX11_takes_9 : OKI 184 9 (.ireturn, 10, [3], 0, 0, []) := And.intro dX11_takes_9 (Or.inr (Or.inl (And.intro rfl rfl)))
theorem oX11_takes_10 : OKI 184 10 (.aload_n 0, 11, [0], 0, 0, []) := And.intro dX11_takes_10 (And.intro rfl (rfl))
theorem oX11_takes_11 : OKI 184 11 (.dup, 12, [], 0, 0, []) := And.intro dX11_takes_11 rfl
theorem oX11_takes_12 : OKI 184 12 (.getfield 138, 15, [12, 42, 0], 0, 0, []) := And.intro dX11_takes_12 (And.intro rfl (⟨(RX11, TX11, 69), "SpotTimersModel", rfl, by decide, tm_6 _ (List.mem_of_getElem? (i := 8) rfl) rfl, Or.inl rfl, Or.inr (Or.inr (And.intro rfl (Or.inl rfl)))⟩))
theorem oX11_takes_15 : OKI 184 15 (.iconst 1, 16, [], 1, 0, []) := And.intro dX11_takes_15 (And.intro rfl (by decide +kernel))
theorem oX11_takes_16 : OKI 184 16 (.iadd, 17, [], 0, 0, []) := And.intro dX11_takes_16 rfl
theorem oX11_takes_17 : OKI 184 17 (.putfield 138, 20, [12, 42, 0], 0, 0, []) := And.intro dX11_takes_17 (And.intro rfl (⟨(RX11, TX11, 69), "SpotTimersModel", rfl, by decide, tm_6 _ (List.mem_of_getElem? (i := 8) rfl) rfl, Or.inl rfl, Or.inl rfl, rfl⟩))
theorem oX11_takes_20 : OKI 184 20 (.iconst 1, 21, [], 1, 0, []) := And.intro dX11_takes_20 (And.intro rfl (by decide +kernel))
theorem oX11_takes_21 : OKI 184 21 (.ireturn, 22, [3], 0, 0, []) := And.intro dX11_takes_21 (Or.inr (Or.inl (And.intro rfl rfl)))
def pfX11_takes (pc : Nat) : Option XE := (bif Nat.blt pc 11 then (bif Nat.blt pc 5 then (bif Nat.blt pc 1 then (bif Nat.beq pc 0 then some (.aload_n 0, 1, [0], 0, 0, []) else none) else (bif Nat.blt pc 4 then (bif Nat.beq pc 1 then some (.invokevirtual 310, 4, [182, 1, 13, 0, 0, 1], 0, 0, []) else none) else (bif Nat.beq pc 4 then some (.iload_n 1, 5, [1], 0, 0, []) else none))) else (bif Nat.blt pc 9 then (bif Nat.blt pc 8 then (bif Nat.beq pc 5 then some (.if_icmp .eq 5, 8, [10], 0, 0, []) else none) else (bif Nat.beq pc 8 then some (.iconst 0, 9, [], 0, 0, []) else none)) else (bif Nat.blt pc 10 then (bif Nat.beq pc 9 then some (.ireturn, 10, [3], 0, 0, []) else none) else (bif Nat.beq pc 10 then some (.aload_n 0, 11, [0], 0, 0, []) else none)))) else (bif Nat.blt pc 16 then (bif Nat.blt pc 12 then (bif Nat.beq pc 11 then some (.dup, 12, [], 0, 0, []) else none) else (bif Nat.blt pc 15 then (bif Nat.beq pc 12 then some (.getfield 138, 15, [12, 42, 0], 0, 0, []) else none) else (bif Nat.beq pc 15 then some (.iconst 1, 16, [], 1, 0, []) else none))) else (bif Nat.blt pc 20 then (bif Nat.blt pc 17 then (bif Nat.beq pc 16 then some (.iadd, 17, [], 0, 0, []) else none) else (bif Nat.beq pc 17 then some (.putfield 138, 20, [12, 42, 0], 0, 0, []) else none)) else (bif Nat.blt pc 21 then (bif Nat.beq pc 20 then some (.iconst 1, 21, [], 1, 0, []) else none) else (bif Nat.beq pc 21 then some (.ireturn, 22, [3], 0, 0, []) else none)))))
theorem okX11_takes : ∀ pc Y, pfX11_takes pc = some Y → OKI m_X11_takes pc Y := fun pc Y => ((bt_node (bt_node (bt_node (bt_leaf (P := OKI m_X11_takes) oX11_takes_0) (bt_node (bt_leaf (P := OKI m_X11_takes) oX11_takes_1) (bt_leaf (P := OKI m_X11_takes) oX11_takes_4))) (bt_node (bt_node (bt_leaf (P := OKI m_X11_takes) oX11_takes_5) (bt_leaf (P := OKI m_X11_takes) oX11_takes_8)) (bt_node (bt_leaf (P := OKI m_X11_takes) oX11_takes_9) (bt_leaf (P := OKI m_X11_takes) oX11_takes_10)))) (bt_node (bt_node (bt_leaf (P := OKI m_X11_takes) oX11_takes_11) (bt_node (bt_leaf (P := OKI m_X11_takes) oX11_takes_12) (bt_leaf (P := OKI m_X11_takes) oX11_takes_15))) (bt_node (bt_node (bt_leaf (P := OKI m_X11_takes) oX11_takes_16) (bt_leaf (P := OKI m_X11_takes) oX11_takes_17)) (bt_node (bt_leaf (P := OKI m_X11_takes) oX11_takes_20) (bt_leaf (P := OKI m_X11_takes) oX11_takes_21))))) : pfX11_takes pc = some Y → OKI m_X11_takes pc Y)
def stpX11_takes (_ : Nat) : Option (List Bool) := none
def bX11_takes_0 (d rc rs : Nat) (a1 : Int32) (σ : XH) (Q : XV → XH → Prop) : Prop :=
  ((1 ≤ d ∧ Ec (d - 1) 0 0 m_X11_next [vR (some (12, 0))] σ (kI fun x2 h1 => ((x2 = a1 → (((∀ h3, h3 = wI h1 12 0 42 ((hi h1 12 0 42) + 1) → (((1 : Int32) = 0 ∨ (1 : Int32) = 1) ∧ Q (vI 1) h3))))) ∧ (¬ x2 = a1 → (((0 : Int32) = 0 ∨ (0 : Int32) = 1) ∧ Q (vI 0) h1))))))
theorem sX11_takes_0 {d rc rs : Nat} {a1 : Int32} {σ : XH} {Q : XV → XH → Prop} (h : bX11_takes_0 d rc rs a1 σ Q) : Ex d rc rs m_X11_takes 0 [vR (some (12, 0)), vI a1] [] σ Q :=
  xtree_sound (stop := stpX11_takes) okX11_takes 14 _ _ _ _ _ _ h
/-! SpotTimersModel.takesWord(JI)Z -/
theorem dX11_takesWord_0 : decode cX11_takesWord 0 = .ok (.iload_n 3, 1) := by decide +kernel
theorem dX11_takesWord_1 : decode cX11_takesWord 1 = .ok (.iconst 1, 1) := by decide +kernel
theorem dX11_takesWord_2 : decode cX11_takesWord 2 = .ok (.isub, 1) := by decide +kernel
theorem dX11_takesWord_3 : decode cX11_takesWord 3 = .ok (.istore 4, 2) := by decide +kernel
theorem dX11_takesWord_5 : decode cX11_takesWord 5 = .ok (.iload 4, 2) := by decide +kernel
theorem dX11_takesWord_7 : decode cX11_takesWord 7 = .ok (.ifCond .lt 32, 3) := by decide +kernel
theorem dX11_takesWord_10 : decode cX11_takesWord 10 = .ok (.aload_n 0, 1) := by decide +kernel
theorem dX11_takesWord_11 : decode cX11_takesWord 11 = .ok (.bipush 96, 2) := by decide +kernel
theorem dX11_takesWord_13 : decode cX11_takesWord 13 = .ok (.lload_n 1, 1) := by decide +kernel
theorem dX11_takesWord_14 : decode cX11_takesWord 14 = .ok (.iconst 5, 1) := by decide +kernel
theorem dX11_takesWord_15 : decode cX11_takesWord 15 = .ok (.iload 4, 2) := by decide +kernel
theorem dX11_takesWord_17 : decode cX11_takesWord 17 = .ok (.imul, 1) := by decide +kernel
theorem dX11_takesWord_18 : decode cX11_takesWord 18 = .ok (.lshr, 1) := by decide +kernel
theorem dX11_takesWord_19 : decode cX11_takesWord 19 = .ok (.ldc2_w 314, 3) := by decide +kernel
theorem dX11_takesWord_22 : decode cX11_takesWord 22 = .ok (.land, 1) := by decide +kernel
theorem dX11_takesWord_23 : decode cX11_takesWord 23 = .ok (.l2i, 1) := by decide +kernel
theorem dX11_takesWord_24 : decode cX11_takesWord 24 = .ok (.iadd, 1) := by decide +kernel
theorem dX11_takesWord_25 : decode cX11_takesWord 25 = .ok (.invokevirtual 316, 3) := by decide +kernel
theorem dX11_takesWord_28 : decode cX11_takesWord 28 = .ok (.ifCond .ne 5, 3) := by decide +kernel
theorem dX11_takesWord_31 : decode cX11_takesWord 31 = .ok (.iconst 0, 1) := by decide +kernel
theorem dX11_takesWord_32 : decode cX11_takesWord 32 = .ok (.ireturn, 1) := by decide +kernel
theorem dX11_takesWord_33 : decode cX11_takesWord 33 = .ok (.iinc 4 (-1), 3) := by decide +kernel
theorem dX11_takesWord_36 : decode cX11_takesWord 36 = .ok (.goto (-31), 3) := by decide +kernel
theorem dX11_takesWord_39 : decode cX11_takesWord 39 = .ok (.iconst 1, 1) := by decide +kernel
theorem dX11_takesWord_40 : decode cX11_takesWord 40 = .ok (.ireturn, 1) := by decide +kernel
theorem oX11_takesWord_0 : OKI 185 0 (.iload_n 3, 1, [3], 0, 0, []) := And.intro dX11_takesWord_0 (And.intro rfl (rfl))
theorem oX11_takesWord_1 : OKI 185 1 (.iconst 1, 2, [], 1, 0, []) := And.intro dX11_takesWord_1 (And.intro rfl (by decide +kernel))
theorem oX11_takesWord_2 : OKI 185 2 (.isub, 3, [], 0, 0, []) := And.intro dX11_takesWord_2 rfl
theorem oX11_takesWord_3 : OKI 185 3 (.istore 4, 5, [4], 0, 0, []) := And.intro dX11_takesWord_3 (And.intro rfl (And.intro rfl (by decide)))
theorem oX11_takesWord_5 : OKI 185 5 (.iload 4, 7, [4], 0, 0, []) := And.intro dX11_takesWord_5 (And.intro rfl (rfl))
theorem oX11_takesWord_7 : OKI 185 7 (.ifCond .lt 32, 10, [39], 0, 0, []) := And.intro dX11_takesWord_7 (And.intro rfl (by decide))
theorem oX11_takesWord_10 : OKI 185 10 (.aload_n 0, 11, [0], 0, 0, []) := And.intro dX11_takesWord_10 (And.intro rfl (rfl))
theorem oX11_takesWord_11 : OKI 185 11 (.bipush 96, 13, [], 96, 0, []) := And.intro dX11_takesWord_11 (And.intro rfl (by decide +kernel))
theorem oX11_takesWord_13 : OKI 185 13 (.lload_n 1, 14, [1], 0, 0, []) := And.intro dX11_takesWord_13 (And.intro rfl (rfl))
theorem oX11_takesWord_14 : OKI 185 14 (.iconst 5, 15, [], 5, 0, []) := And.intro dX11_takesWord_14 (And.intro rfl (by decide +kernel))
theorem oX11_takesWord_15 : OKI 185 15 (.iload 4, 17, [4], 0, 0, []) := And.intro dX11_takesWord_15 (And.intro rfl (rfl))
theorem oX11_takesWord_17 : OKI 185 17 (.imul, 18, [], 0, 0, []) := And.intro dX11_takesWord_17 rfl
theorem oX11_takesWord_18 : OKI 185 18 (.lshr, 19, [], 0, 0, []) := And.intro dX11_takesWord_18 rfl
theorem oX11_takesWord_19 : OKI 185 19 (.ldc2_w 314, 22, [], 0, 31, []) := And.intro dX11_takesWord_19 (And.intro rfl (tm_7 _ (List.mem_of_getElem? (i := 133) rfl) rfl))
theorem oX11_takesWord_22 : OKI 185 22 (.land, 23, [], 0, 0, []) := And.intro dX11_takesWord_22 rfl
theorem oX11_takesWord_23 : OKI 185 23 (.l2i, 24, [], 0, 0, []) := And.intro dX11_takesWord_23 rfl
theorem oX11_takesWord_24 : OKI 185 24 (.iadd, 25, [], 0, 0, []) := And.intro dX11_takesWord_24 rfl
theorem oX11_takesWord_25 : OKI 185 25 (.invokevirtual 316, 28, [184, 2, 13, 0, 0, 1], 0, 0, []) := And.intro dX11_takesWord_25 (And.intro rfl (And.intro (by decide) (And.intro (by decide) (And.intro mo_X11_takes (And.intro (tm_7 _ (List.mem_of_getElem? (i := 134) rfl) rfl) (And.intro (tm_7 _ (List.mem_of_getElem? (i := 136) rfl) rfl) (And.intro (pm_5 _ (List.mem_of_getElem? (i := 4) rfl)) (Or.inl ⟨(RX11, TX11, 69), rfl, rfl⟩))))))))
theorem oX11_takesWord_28 : OKI 185 28 (.ifCond .ne 5, 31, [33], 0, 0, []) := And.intro dX11_takesWord_28 (And.intro rfl (by decide))
theorem oX11_takesWord_31 : OKI 185 31 (.iconst 0, 32, [], 0, 0, []) := And.intro dX11_takesWord_31 (And.intro rfl (by decide +kernel))
theorem oX11_takesWord_32 : OKI 185 32 (.ireturn, 33, [3], 0, 0, []) := And.intro dX11_takesWord_32 (Or.inr (Or.inl (And.intro rfl rfl)))
theorem oX11_takesWord_33 : OKI 185 33 (.iinc 4 (-1), 36, [4], (-1), 0, []) := And.intro dX11_takesWord_33 (And.intro rfl (And.intro rfl (And.intro (by decide +kernel) (by decide))))
theorem oX11_takesWord_36 : OKI 185 36 (.goto (-31), 39, [5], 0, 0, []) := And.intro dX11_takesWord_36 (And.intro rfl (by decide))
theorem oX11_takesWord_39 : OKI 185 39 (.iconst 1, 40, [], 1, 0, []) := And.intro dX11_takesWord_39 (And.intro rfl (by decide +kernel))
theorem oX11_takesWord_40 : OKI 185 40 (.ireturn, 41, [3], 0, 0, []) := And.intro dX11_takesWord_40 (Or.inr (Or.inl (And.intro rfl rfl)))
def pfX11_takesWord (pc : Nat) : Option XE := (bif Nat.blt pc 18 then (bif Nat.blt pc 10 then (bif Nat.blt pc 3 then (bif Nat.blt pc 1 then (bif Nat.beq pc 0 then some (.iload_n 3, 1, [3], 0, 0, []) else none) else (bif Nat.blt pc 2 then (bif Nat.beq pc 1 then some (.iconst 1, 2, [], 1, 0, []) else none) else (bif Nat.beq pc 2 then some (.isub, 3, [], 0, 0, []) else none))) else (bif Nat.blt pc 5 then (bif Nat.beq pc 3 then some (.istore 4, 5, [4], 0, 0, []) else none) else (bif Nat.blt pc 7 then (bif Nat.beq pc 5 then some (.iload 4, 7, [4], 0, 0, []) else none) else (bif Nat.beq pc 7 then some (.ifCond .lt 32, 10, [39], 0, 0, []) else none)))) else (bif Nat.blt pc 14 then (bif Nat.blt pc 11 then (bif Nat.beq pc 10 then some (.aload_n 0, 11, [0], 0, 0, []) else none) else (bif Nat.blt pc 13 then (bif Nat.beq pc 11 then some (.bipush 96, 13, [], 96, 0, []) else none) else (bif Nat.beq pc 13 then some (.lload_n 1, 14, [1], 0, 0, []) else none))) else (bif Nat.blt pc 15 then (bif Nat.beq pc 14 then some (.iconst 5, 15, [], 5, 0, []) else none) else (bif Nat.blt pc 17 then (bif Nat.beq pc 15 then some (.iload 4, 17, [4], 0, 0, []) else none) else (bif Nat.beq pc 17 then some (.imul, 18, [], 0, 0, []) else none))))) else (bif Nat.blt pc 28 then (bif Nat.blt pc 23 then (bif Nat.blt pc 19 then (bif Nat.beq pc 18 then some (.lshr, 19, [], 0, 0, []) else none) else (bif Nat.blt pc 22 then (bif Nat.beq pc 19 then some (.ldc2_w 314, 22, [], 0, 31, []) else none) else (bif Nat.beq pc 22 then some (.land, 23, [], 0, 0, []) else none))) else (bif Nat.blt pc 24 then (bif Nat.beq pc 23 then some (.l2i, 24, [], 0, 0, []) else none) else (bif Nat.blt pc 25 then (bif Nat.beq pc 24 then some (.iadd, 25, [], 0, 0, []) else none) else (bif Nat.beq pc 25 then some (.invokevirtual 316, 28, [184, 2, 13, 0, 0, 1], 0, 0, []) else none)))) else (bif Nat.blt pc 33 then (bif Nat.blt pc 31 then (bif Nat.beq pc 28 then some (.ifCond .ne 5, 31, [33], 0, 0, []) else none) else (bif Nat.blt pc 32 then (bif Nat.beq pc 31 then some (.iconst 0, 32, [], 0, 0, []) else none) else (bif Nat.beq pc 32 then some (.ireturn, 33, [3], 0, 0, []) else none))) else (bif Nat.blt pc 39 then (bif Nat.blt pc 36 then (bif Nat.beq pc 33 then some (.iinc 4 (-1), 36, [4], (-1), 0, []) else none) else (bif Nat.beq pc 36 then some (.goto (-31), 39, [5], 0, 0, []) else none)) else (bif Nat.blt pc 40 then (bif Nat.beq pc 39 then some (.iconst 1, 40, [], 1, 0, []) else none) else (bif Nat.beq pc 40 then some (.ireturn, 41, [3], 0, 0, []) else none))))))
theorem okX11_takesWord : ∀ pc Y, pfX11_takesWord pc = some Y → OKI m_X11_takesWord pc Y := fun pc Y => ((bt_node (bt_node (bt_node (bt_node (bt_leaf (P := OKI m_X11_takesWord) oX11_takesWord_0) (bt_node (bt_leaf (P := OKI m_X11_takesWord) oX11_takesWord_1) (bt_leaf (P := OKI m_X11_takesWord) oX11_takesWord_2))) (bt_node (bt_leaf (P := OKI m_X11_takesWord) oX11_takesWord_3) (bt_node (bt_leaf (P := OKI m_X11_takesWord) oX11_takesWord_5) (bt_leaf (P := OKI m_X11_takesWord) oX11_takesWord_7)))) (bt_node (bt_node (bt_leaf (P := OKI m_X11_takesWord) oX11_takesWord_10) (bt_node (bt_leaf (P := OKI m_X11_takesWord) oX11_takesWord_11) (bt_leaf (P := OKI m_X11_takesWord) oX11_takesWord_13))) (bt_node (bt_leaf (P := OKI m_X11_takesWord) oX11_takesWord_14) (bt_node (bt_leaf (P := OKI m_X11_takesWord) oX11_takesWord_15) (bt_leaf (P := OKI m_X11_takesWord) oX11_takesWord_17))))) (bt_node (bt_node (bt_node (bt_leaf (P := OKI m_X11_takesWord) oX11_takesWord_18) (bt_node (bt_leaf (P := OKI m_X11_takesWord) oX11_takesWord_19) (bt_leaf (P := OKI m_X11_takesWord) oX11_takesWord_22))) (bt_node (bt_leaf (P := OKI m_X11_takesWord) oX11_takesWord_23) (bt_node (bt_leaf (P := OKI m_X11_takesWord) oX11_takesWord_24) (bt_leaf (P := OKI m_X11_takesWord) oX11_takesWord_25)))) (bt_node (bt_node (bt_leaf (P := OKI m_X11_takesWord) oX11_takesWord_28) (bt_node (bt_leaf (P := OKI m_X11_takesWord) oX11_takesWord_31) (bt_leaf (P := OKI m_X11_takesWord) oX11_takesWord_32))) (bt_node (bt_node (bt_leaf (P := OKI m_X11_takesWord) oX11_takesWord_33) (bt_leaf (P := OKI m_X11_takesWord) oX11_takesWord_36)) (bt_node (bt_leaf (P := OKI m_X11_takesWord) oX11_takesWord_39) (bt_leaf (P := OKI m_X11_takesWord) oX11_takesWord_40)))))) : pfX11_takesWord pc = some Y → OKI m_X11_takesWord pc Y)
def stpX11_takesWord (pc : Nat) : Option (List Bool) := (bif Nat.beq pc 5 then some [true, true, false, false, true] else none)
def bX11_takesWord_0 (d rc rs : Nat) (a1 : Int64) (a2 : Int32) (σ : XH) (Q : XV → XH → Prop) : Prop :=
  Ex d rc rs m_X11_takesWord 5 [vR (some (12, 0)), vL a1, vU, vU, vI (a2 - 1)] [] σ Q
theorem sX11_takesWord_0 {d rc rs : Nat} {a1 : Int64} {a2 : Int32} {σ : XH} {Q : XV → XH → Prop} (h : bX11_takesWord_0 d rc rs a1 a2 σ Q) : Ex d rc rs m_X11_takesWord 0 [vR (some (12, 0)), vL a1, vU, vI a2, vU] [] σ Q :=
  xtree_sound (stop := stpX11_takesWord) okX11_takesWord 6 _ _ _ _ _ _ h
def bX11_takesWord_5 (d rc rs : Nat) (l1 : Int64) (l4 : Int32) (σ : XH) (Q : XV → XH → Prop) : Prop :=
  ((l4 < 0 → (((1 : Int32) = 0 ∨ (1 : Int32) = 1) ∧ Q (vI 1) σ)) ∧ (¬ l4 < 0 → ((1 ≤ d ∧ Ec (d - 1) 0 0 m_X11_takes [vR (some (12, 0)), vI (96 + (((l1 >>> ((5 * l4).toInt64 &&& 63)) &&& 31).toInt32))] σ (kI fun x2 h1 => ((x2 = 0 → (((0 : Int32) = 0 ∨ (0 : Int32) = 1) ∧ Q (vI 0) h1)) ∧ (¬ x2 = 0 → Ex d rc rs m_X11_takesWord 5 [vR (some (12, 0)), vL l1, vU, vU, vI (l4 + (-1))] [] h1 Q)))))))
theorem sX11_takesWord_5 {d rc rs : Nat} {l1 : Int64} {l4 : Int32} {σ : XH} {Q : XV → XH → Prop} (h : bX11_takesWord_5 d rc rs l1 l4 σ Q) : Ex d rc rs m_X11_takesWord 5 [vR (some (12, 0)), vL l1, vU, vU, vI l4] [] σ Q :=
  xtree_sound (stop := stpX11_takesWord) okX11_takesWord 19 _ _ _ _ _ _ h
/-! SpotTimersModel.takesNumber(I)Z -/
theorem dX11_takesNumber_0 : decode cX11_takesNumber 0 = .ok (.aload_n 0, 1) := by decide +kernel
theorem dX11_takesNumber_1 : decode cX11_takesNumber 1 = .ok (.invokevirtual 319, 3) := by decide +kernel
theorem dX11_takesNumber_4 : decode cX11_takesNumber 4 = .ok (.ifCond .ne 5, 3) := by decide +kernel
theorem dX11_takesNumber_7 : decode cX11_takesNumber 7 = .ok (.iconst 0, 1) := by decide +kernel
theorem dX11_takesNumber_8 : decode cX11_takesNumber 8 = .ok (.ireturn, 1) := by decide +kernel
theorem dX11_takesNumber_9 : decode cX11_takesNumber 9 = .ok (.aload_n 0, 1) := by decide +kernel
theorem dX11_takesNumber_10 : decode cX11_takesNumber 10 = .ok (.iconst 0, 1) := by decide +kernel
theorem dX11_takesNumber_11 : decode cX11_takesNumber 11 = .ok (.putfield 141, 3) := by decide +kernel
theorem dX11_takesNumber_14 : decode cX11_takesNumber 14 = .ok (.iconst 0, 1) := by decide +kernel
theorem dX11_takesNumber_15 : decode cX11_takesNumber 15 = .ok (.istore_n 2, 1) := by decide +kernel
theorem dX11_takesNumber_16 : decode cX11_takesNumber 16 = .ok (.iload_n 2, 1) := by decide +kernel
theorem dX11_takesNumber_17 : decode cX11_takesNumber 17 = .ok (.iload_n 1, 1) := by decide +kernel
theorem dX11_takesNumber_18 : decode cX11_takesNumber 18 = .ok (.if_icmp .ge 45, 3) := by decide +kernel
theorem dX11_takesNumber_21 : decode cX11_takesNumber 21 = .ok (.aload_n 0, 1) := by decide +kernel
theorem dX11_takesNumber_22 : decode cX11_takesNumber 22 = .ok (.invokevirtual 319, 3) := by decide +kernel
theorem dX11_takesNumber_25 : decode cX11_takesNumber 25 = .ok (.ifCond .eq 38, 3) := by decide +kernel
theorem dX11_takesNumber_28 : decode cX11_takesNumber 28 = .ok (.aload_n 0, 1) := by decide +kernel
theorem dX11_takesNumber_29 : decode cX11_takesNumber 29 = .ok (.bipush 10, 2) := by decide +kernel
theorem dX11_takesNumber_31 : decode cX11_takesNumber 31 = .ok (.aload_n 0, 1) := by decide +kernel
theorem dX11_takesNumber_32 : decode cX11_takesNumber 32 = .ok (.getfield 141, 3) := by decide +kernel
theorem dX11_takesNumber_35 : decode cX11_takesNumber 35 = .ok (.imul, 1) := by decide +kernel
theorem dX11_takesNumber_36 : decode cX11_takesNumber 36 = .ok (.aload_n 0, 1) := by decide +kernel
theorem dX11_takesNumber_37 : decode cX11_takesNumber 37 = .ok (.invokevirtual 310, 3) := by decide +kernel
theorem dX11_takesNumber_40 : decode cX11_takesNumber 40 = .ok (.iadd, 1) := by decide +kernel
theorem dX11_takesNumber_41 : decode cX11_takesNumber 41 = .ok (.bipush 48, 2) := by decide +kernel
theorem dX11_takesNumber_43 : decode cX11_takesNumber 43 = .ok (.isub, 1) := by decide +kernel
theorem dX11_takesNumber_44 : decode cX11_takesNumber 44 = .ok (.putfield 141, 3) := by decide +kernel
theorem dX11_takesNumber_47 : decode cX11_takesNumber 47 = .ok (.aload_n 0, 1) := by decide +kernel
theorem dX11_takesNumber_48 : decode cX11_takesNumber 48 = .ok (.dup, 1) := by decide +kernel
theorem dX11_takesNumber_49 : decode cX11_takesNumber 49 = .ok (.getfield 138, 3) := by decide +kernel
theorem dX11_takesNumber_52 : decode cX11_takesNumber 52 = .ok (.iconst 1, 1) := by decide +kernel
theorem dX11_takesNumber_53 : decode cX11_takesNumber 53 = .ok (.iadd, 1) := by decide +kernel
theorem dX11_takesNumber_54 : decode cX11_takesNumber 54 = .ok (.putfield 138, 3) := by decide +kernel
theorem dX11_takesNumber_57 : decode cX11_takesNumber 57 = .ok (.iinc 2 1, 3) := by decide +kernel
theorem dX11_takesNumber_60 : decode cX11_takesNumber 60 = .ok (.goto (-44), 3) := by decide +kernel
theorem dX11_takesNumber_63 : decode cX11_takesNumber 63 = .ok (.iconst 1, 1) := by decide +kernel
theorem dX11_takesNumber_64 : decode cX11_takesNumber 64 = .ok (.ireturn, 1) := by decide +kernel
theorem oX11_takesNumber_0 : OKI 186 0 (.aload_n 0, 1, [0], 0, 0, []) := And.intro dX11_takesNumber_0 (And.intro rfl (rfl))
theorem oX11_takesNumber_1 : OKI 186 1 (.invokevirtual 319, 4, [183, 1, 13, 0, 0, 1], 0, 0, []) := And.intro dX11_takesNumber_1 (And.intro rfl (And.intro (by decide) (And.intro (by decide) (And.intro mo_X11_isDigit (And.intro (tm_7 _ (List.mem_of_getElem? (i := 153) rfl) rfl) (And.intro (tm_7 _ (List.mem_of_getElem? (i := 155) rfl) rfl) (And.intro (pm_5 _ (List.mem_of_getElem? (i := 8) rfl)) (Or.inl ⟨(RX11, TX11, 69), rfl, rfl⟩))))))))
theorem oX11_takesNumber_4 : OKI 186 4 (.ifCond .ne 5, 7, [9], 0, 0, []) := And.intro dX11_takesNumber_4 (And.intro rfl (by decide))
theorem oX11_takesNumber_7 : OKI 186 7 (.iconst 0, 8, [], 0, 0, []) := And.intro dX11_takesNumber_7 (And.intro rfl (by decide +kernel))
theorem oX11_takesNumber_8 : OKI 186 8 (.ireturn, 9, [3], 0, 0, []) := And.intro dX11_takesNumber_8 (Or.inr (Or.inl (And.intro rfl rfl)))
theorem oX11_takesNumber_9 : OKI 186 9 (.aload_n 0, 10, [0], 0, 0, []) := And.intro dX11_takesNumber_9 (And.intro rfl (rfl))
theorem oX11_takesNumber_10 : OKI 186 10 (.iconst 0, 11, [], 0, 0, []) := And.intro dX11_takesNumber_10 (And.intro rfl (by decide +kernel))
theorem oX11_takesNumber_11 : OKI 186 11 (.putfield 141, 14, [12, 43, 0], 0, 0, []) := And.intro dX11_takesNumber_11 (And.intro rfl (⟨(RX11, TX11, 69), "SpotTimersModel", rfl, by decide, tm_6 _ (List.mem_of_getElem? (i := 9) rfl) rfl, Or.inl rfl, Or.inl rfl, rfl⟩))
theorem oX11_takesNumber_14 : OKI 186 14 (.iconst 0, 15, [], 0, 0, []) := And.intro dX11_takesNumber_14 (And.intro rfl (by decide +kernel))
theorem oX11_takesNumber_15 : OKI 186 15 (.istore_n 2, 16, [2], 0, 0, []) := And.intro dX11_takesNumber_15 (And.intro rfl (And.intro rfl (by decide)))
theorem oX11_takesNumber_16 : OKI 186 16 (.iload_n 2, 17, [2], 0, 0, []) := And.intro dX11_takesNumber_16 (And.intro rfl (rfl))
theorem oX11_takesNumber_17 : OKI 186 17 (.iload_n 1, 18, [1], 0, 0, []) := And.intro dX11_takesNumber_17 (And.intro rfl (rfl))
theorem oX11_takesNumber_18 : OKI 186 18 (.if_icmp .ge 45, 21, [63], 0, 0, []) := And.intro dX11_takesNumber_18 (And.intro rfl (by decide))
theorem oX11_takesNumber_21 : OKI 186 21 (.aload_n 0, 22, [0], 0, 0, []) := And.intro dX11_takesNumber_21 (And.intro rfl (rfl))
theorem oX11_takesNumber_22 : OKI 186 22 (.invokevirtual 319, 25, [183, 1, 13, 0, 0, 1], 0, 0, []) := And.intro dX11_takesNumber_22 (And.intro rfl (And.intro (by decide) (And.intro (by decide) (And.intro mo_X11_isDigit (And.intro (tm_7 _ (List.mem_of_getElem? (i := 153) rfl) rfl) (And.intro (tm_7 _ (List.mem_of_getElem? (i := 155) rfl) rfl) (And.intro (pm_5 _ (List.mem_of_getElem? (i := 8) rfl)) (Or.inl ⟨(RX11, TX11, 69), rfl, rfl⟩))))))))
theorem oX11_takesNumber_25 : OKI 186 25 (.ifCond .eq 38, 28, [63], 0, 0, []) := And.intro dX11_takesNumber_25 (And.intro rfl (by decide))
theorem oX11_takesNumber_28 : OKI 186 28 (.aload_n 0, 29, [0], 0, 0, []) := And.intro dX11_takesNumber_28 (And.intro rfl (rfl))
theorem oX11_takesNumber_29 : OKI 186 29 (.bipush 10, 31, [], 10, 0, []) := And.intro dX11_takesNumber_29 (And.intro rfl (by decide +kernel))
theorem oX11_takesNumber_31 : OKI 186 31 (.aload_n 0, 32, [0], 0, 0, []) := And.intro dX11_takesNumber_31 (And.intro rfl (rfl))
theorem oX11_takesNumber_32 : OKI 186 32 (.getfield 141, 35, [12, 43, 0], 0, 0, []) := And.intro dX11_takesNumber_32 (And.intro rfl (⟨(RX11, TX11, 69), "SpotTimersModel", rfl, by decide, tm_6 _ (List.mem_of_getElem? (i := 9) rfl) rfl, Or.inl rfl, Or.inr (Or.inr (And.intro rfl (Or.inl rfl)))⟩))
theorem oX11_takesNumber_35 : OKI 186 35 (.imul, 36, [], 0, 0, []) := And.intro dX11_takesNumber_35 rfl
theorem oX11_takesNumber_36 : OKI 186 36 (.aload_n 0, 37, [0], 0, 0, []) := And.intro dX11_takesNumber_36 (And.intro rfl (rfl))
theorem oX11_takesNumber_37 : OKI 186 37 (.invokevirtual 310, 40, [182, 1, 13, 0, 0, 1], 0, 0, []) := And.intro dX11_takesNumber_37 (And.intro rfl (And.intro (by decide) (And.intro (by decide) (And.intro mo_X11_next (And.intro (tm_7 _ (List.mem_of_getElem? (i := 124) rfl) rfl) (And.intro (tm_7 _ (List.mem_of_getElem? (i := 126) rfl) rfl) (And.intro (pm_5 _ (List.mem_of_getElem? (i := 2) rfl)) (Or.inl ⟨(RX11, TX11, 69), rfl, rfl⟩))))))))
theorem oX11_takesNumber_40 : OKI 186 40 (.iadd, 41, [], 0, 0, []) := And.intro dX11_takesNumber_40 rfl
theorem oX11_takesNumber_41 : OKI 186 41 (.bipush 48, 43, [], 48, 0, []) := And.intro dX11_takesNumber_41 (And.intro rfl (by decide +kernel))
theorem oX11_takesNumber_43 : OKI 186 43 (.isub, 44, [], 0, 0, []) := And.intro dX11_takesNumber_43 rfl
theorem oX11_takesNumber_44 : OKI 186 44 (.putfield 141, 47, [12, 43, 0], 0, 0, []) := And.intro dX11_takesNumber_44 (And.intro rfl (⟨(RX11, TX11, 69), "SpotTimersModel", rfl, by decide, tm_6 _ (List.mem_of_getElem? (i := 9) rfl) rfl, Or.inl rfl, Or.inl rfl, rfl⟩))
theorem oX11_takesNumber_47 : OKI 186 47 (.aload_n 0, 48, [0], 0, 0, []) := And.intro dX11_takesNumber_47 (And.intro rfl (rfl))
theorem oX11_takesNumber_48 : OKI 186 48 (.dup, 49, [], 0, 0, []) := And.intro dX11_takesNumber_48 rfl
theorem oX11_takesNumber_49 : OKI 186 49 (.getfield 138, 52, [12, 42, 0], 0, 0, []) := And.intro dX11_takesNumber_49 (And.intro rfl (⟨(RX11, TX11, 69), "SpotTimersModel", rfl, by decide, tm_6 _ (List.mem_of_getElem? (i := 8) rfl) rfl, Or.inl rfl, Or.inr (Or.inr (And.intro rfl (Or.inl rfl)))⟩))
theorem oX11_takesNumber_52 : OKI 186 52 (.iconst 1, 53, [], 1, 0, []) := And.intro dX11_takesNumber_52 (And.intro rfl (by decide +kernel))
theorem oX11_takesNumber_53 : OKI 186 53 (.iadd, 54, [], 0, 0, []) := And.intro dX11_takesNumber_53 rfl
theorem oX11_takesNumber_54 : OKI 186 54 (.putfield 138, 57, [12, 42, 0], 0, 0, []) := And.intro dX11_takesNumber_54 (And.intro rfl (⟨(RX11, TX11, 69), "SpotTimersModel", rfl, by decide, tm_6 _ (List.mem_of_getElem? (i := 8) rfl) rfl, Or.inl rfl, Or.inl rfl, rfl⟩))
theorem oX11_takesNumber_57 : OKI 186 57 (.iinc 2 1, 60, [2], 1, 0, []) := And.intro dX11_takesNumber_57 (And.intro rfl (And.intro rfl (And.intro (by decide +kernel) (by decide))))
theorem oX11_takesNumber_60 : OKI 186 60 (.goto (-44), 63, [16], 0, 0, []) := And.intro dX11_takesNumber_60 (And.intro rfl (by decide))
theorem oX11_takesNumber_63 : OKI 186 63 (.iconst 1, 64, [], 1, 0, []) := And.intro dX11_takesNumber_63 (And.intro rfl (by decide +kernel))
theorem oX11_takesNumber_64 : OKI 186 64 (.ireturn, 65, [3], 0, 0, []) := And.intro dX11_takesNumber_64 (Or.inr (Or.inl (And.intro rfl rfl)))
def pfX11_takesNumber (pc : Nat) : Option XE := (bif Nat.blt pc 31 then (bif Nat.blt pc 15 then (bif Nat.blt pc 8 then (bif Nat.blt pc 4 then (bif Nat.blt pc 1 then (bif Nat.beq pc 0 then some (.aload_n 0, 1, [0], 0, 0, []) else none) else (bif Nat.beq pc 1 then some (.invokevirtual 319, 4, [183, 1, 13, 0, 0, 1], 0, 0, []) else none)) else (bif Nat.blt pc 7 then (bif Nat.beq pc 4 then some (.ifCond .ne 5, 7, [9], 0, 0, []) else none) else (bif Nat.beq pc 7 then some (.iconst 0, 8, [], 0, 0, []) else none))) else (bif Nat.blt pc 10 then (bif Nat.blt pc 9 then (bif Nat.beq pc 8 then some (.ireturn, 9, [3], 0, 0, []) else none) else (bif Nat.beq pc 9 then some (.aload_n 0, 10, [0], 0, 0, []) else none)) else (bif Nat.blt pc 11 then (bif Nat.beq pc 10 then some (.iconst 0, 11, [], 0, 0, []) else none) else (bif Nat.blt pc 14 then (bif Nat.beq pc 11 then some (.putfield 141, 14, [12, 43, 0], 0, 0, []) else none) else (bif Nat.beq pc 14 then some (.iconst 0, 15, [], 0, 0, []) else none))))) else (bif Nat.blt pc 21 then (bif Nat.blt pc 17 then (bif Nat.blt pc 16 then (bif Nat.beq pc 15 then some (.istore_n 2, 16, [2], 0, 0, []) else none) else (bif Nat.beq pc 16 then some (.iload_n 2, 17, [2], 0, 0, []) else none)) else (bif Nat.blt pc 18 then (bif Nat.beq pc 17 then some (.iload_n 1, 18, [1], 0, 0, []) else none) else (bif Nat.beq pc 18 then some (.if_icmp .ge 45, 21, [63], 0, 0, []) else none))) else (bif Nat.blt pc 25 then (bif Nat.blt pc 22 then (bif Nat.beq pc 21 then some (.aload_n 0, 22, [0], 0, 0, []) else none) else (bif Nat.beq pc 22 then some (.invokevirtual 319, 25, [183, 1, 13, 0, 0, 1], 0, 0, []) else none)) else (bif Nat.blt pc 28 then (bif Nat.beq pc 25 then some (.ifCond .eq 38, 28, [63], 0, 0, []) else none) else (bif Nat.blt pc 29 then (bif Nat.beq pc 28 then some (.aload_n 0, 29, [0], 0, 0, []) else none) else (bif Nat.beq pc 29 then some (.bipush 10, 31, [], 10, 0, []) else none)))))) else (bif Nat.blt pc 47 then (bif Nat.blt pc 37 then (bif Nat.blt pc 35 then (bif Nat.blt pc 32 then (bif Nat.beq pc 31 then some (.aload_n 0, 32, [0], 0, 0, []) else none) else (bif Nat.beq pc 32 then some (.getfield 141, 35, [12, 43, 0], 0, 0, []) else none)) else (bif Nat.blt pc 36 then (bif Nat.beq pc 35 then some (.imul, 36, [], 0, 0, []) else none) else (bif Nat.beq pc 36 then some (.aload_n 0, 37, [0], 0, 0, []) else none))) else (bif Nat.blt pc 41 then (bif Nat.blt pc 40 then (bif Nat.beq pc 37 then some (.invokevirtual 310, 40, [182, 1, 13, 0, 0, 1], 0, 0, []) else none) else (bif Nat.beq pc 40 then some (.iadd, 41, [], 0, 0, []) else none)) else (bif Nat.blt pc 43 then (bif Nat.beq pc 41 then some (.bipush 48, 43, [], 48, 0, []) else none) else (bif Nat.blt pc 44 then (bif Nat.beq pc 43 then some (.isub, 44, [], 0, 0, []) else none) else (bif Nat.beq pc 44 then some (.putfield 141, 47, [12, 43, 0], 0, 0, []) else none))))) else (bif Nat.blt pc 54 then (bif Nat.blt pc 49 then (bif Nat.blt pc 48 then (bif Nat.beq pc 47 then some (.aload_n 0, 48, [0], 0, 0, []) else none) else (bif Nat.beq pc 48 then some (.dup, 49, [], 0, 0, []) else none)) else (bif Nat.blt pc 52 then (bif Nat.beq pc 49 then some (.getfield 138, 52, [12, 42, 0], 0, 0, []) else none) else (bif Nat.blt pc 53 then (bif Nat.beq pc 52 then some (.iconst 1, 53, [], 1, 0, []) else none) else (bif Nat.beq pc 53 then some (.iadd, 54, [], 0, 0, []) else none)))) else (bif Nat.blt pc 60 then (bif Nat.blt pc 57 then (bif Nat.beq pc 54 then some (.putfield 138, 57, [12, 42, 0], 0, 0, []) else none) else (bif Nat.beq pc 57 then some (.iinc 2 1, 60, [2], 1, 0, []) else none)) else (bif Nat.blt pc 63 then (bif Nat.beq pc 60 then some (.goto (-44), 63, [16], 0, 0, []) else none) else (bif Nat.blt pc 64 then (bif Nat.beq pc 63 then some (.iconst 1, 64, [], 1, 0, []) else none) else (bif Nat.beq pc 64 then some (.ireturn, 65, [3], 0, 0, []) else none)))))))
theorem okX11_takesNumber : ∀ pc Y, pfX11_takesNumber pc = some Y → OKI m_X11_takesNumber pc Y := fun pc Y => ((bt_node (bt_node (bt_node (bt_node (bt_node (bt_leaf (P := OKI m_X11_takesNumber) oX11_takesNumber_0) (bt_leaf (P := OKI m_X11_takesNumber) oX11_takesNumber_1)) (bt_node (bt_leaf (P := OKI m_X11_takesNumber) oX11_takesNumber_4) (bt_leaf (P := OKI m_X11_takesNumber) oX11_takesNumber_7))) (bt_node (bt_node (bt_leaf (P := OKI m_X11_takesNumber) oX11_takesNumber_8) (bt_leaf (P := OKI m_X11_takesNumber) oX11_takesNumber_9)) (bt_node (bt_leaf (P := OKI m_X11_takesNumber) oX11_takesNumber_10) (bt_node (bt_leaf (P := OKI m_X11_takesNumber) oX11_takesNumber_11) (bt_leaf (P := OKI m_X11_takesNumber) oX11_takesNumber_14))))) (bt_node (bt_node (bt_node (bt_leaf (P := OKI m_X11_takesNumber) oX11_takesNumber_15) (bt_leaf (P := OKI m_X11_takesNumber) oX11_takesNumber_16)) (bt_node (bt_leaf (P := OKI m_X11_takesNumber) oX11_takesNumber_17) (bt_leaf (P := OKI m_X11_takesNumber) oX11_takesNumber_18))) (bt_node (bt_node (bt_leaf (P := OKI m_X11_takesNumber) oX11_takesNumber_21) (bt_leaf (P := OKI m_X11_takesNumber) oX11_takesNumber_22)) (bt_node (bt_leaf (P := OKI m_X11_takesNumber) oX11_takesNumber_25) (bt_node (bt_leaf (P := OKI m_X11_takesNumber) oX11_takesNumber_28) (bt_leaf (P := OKI m_X11_takesNumber) oX11_takesNumber_29)))))) (bt_node (bt_node (bt_node (bt_node (bt_leaf (P := OKI m_X11_takesNumber) oX11_takesNumber_31) (bt_leaf (P := OKI m_X11_takesNumber) oX11_takesNumber_32)) (bt_node (bt_leaf (P := OKI m_X11_takesNumber) oX11_takesNumber_35) (bt_leaf (P := OKI m_X11_takesNumber) oX11_takesNumber_36))) (bt_node (bt_node (bt_leaf (P := OKI m_X11_takesNumber) oX11_takesNumber_37) (bt_leaf (P := OKI m_X11_takesNumber) oX11_takesNumber_40)) (bt_node (bt_leaf (P := OKI m_X11_takesNumber) oX11_takesNumber_41) (bt_node (bt_leaf (P := OKI m_X11_takesNumber) oX11_takesNumber_43) (bt_leaf (P := OKI m_X11_takesNumber) oX11_takesNumber_44))))) (bt_node (bt_node (bt_node (bt_leaf (P := OKI m_X11_takesNumber) oX11_takesNumber_47) (bt_leaf (P := OKI m_X11_takesNumber) oX11_takesNumber_48)) (bt_node (bt_leaf (P := OKI m_X11_takesNumber) oX11_takesNumber_49) (bt_node (bt_leaf (P := OKI m_X11_takesNumber) oX11_takesNumber_52) (bt_leaf (P := OKI m_X11_takesNumber) oX11_takesNumber_53)))) (bt_node (bt_node (bt_leaf (P := OKI m_X11_takesNumber) oX11_takesNumber_54) (bt_leaf (P := OKI m_X11_takesNumber) oX11_takesNumber_57)) (bt_node (bt_leaf (P := OKI m_X11_takesNumber) oX11_takesNumber_60) (bt_node (bt_leaf (P := OKI m_X11_takesNumber) oX11_takesNumber_63) (bt_leaf (P := OKI m_X11_takesNumber) oX11_takesNumber_64))))))) : pfX11_takesNumber pc = some Y → OKI m_X11_takesNumber pc Y)
def stpX11_takesNumber (pc : Nat) : Option (List Bool) := (bif Nat.blt pc 63 then (bif Nat.beq pc 16 then some [true, true, true] else none) else (bif Nat.beq pc 63 then some [false, false, false] else none))
def bX11_takesNumber_0 (d rc rs : Nat) (a1 : Int32) (σ : XH) (Q : XV → XH → Prop) : Prop :=
  ((1 ≤ d ∧ Ec (d - 1) 0 0 m_X11_isDigit [vR (some (12, 0))] σ (kI fun x2 h1 => ((x2 = 0 → (((0 : Int32) = 0 ∨ (0 : Int32) = 1) ∧ Q (vI 0) h1)) ∧ (¬ x2 = 0 → ((∀ h3, h3 = wI h1 12 0 43 0 → Ex d rc rs m_X11_takesNumber 16 [vR (some (12, 0)), vI a1, vI 0] [] h3 Q)))))))
theorem sX11_takesNumber_0 {d rc rs : Nat} {a1 : Int32} {σ : XH} {Q : XV → XH → Prop} (h : bX11_takesNumber_0 d rc rs a1 σ Q) : Ex d rc rs m_X11_takesNumber 0 [vR (some (12, 0)), vI a1, vU] [] σ Q :=
  xtree_sound (stop := stpX11_takesNumber) okX11_takesNumber 10 _ _ _ _ _ _ h
def bX11_takesNumber_16 (d rc rs : Nat) (l1 : Int32) (l2 : Int32) (σ : XH) (Q : XV → XH → Prop) : Prop :=
  ((l2 < l1 → ((1 ≤ d ∧ Ec (d - 1) 0 0 m_X11_isDigit [vR (some (12, 0))] σ (kI fun x2 h1 => ((x2 = 0 → Ex d rc rs m_X11_takesNumber 63 [vU, vU, vU] [] h1 Q) ∧ (¬ x2 = 0 → (((1 ≤ d ∧ Ec (d - 1) 0 0 m_X11_next [vR (some (12, 0))] h1 (kI fun x4 h3 => ((∀ h5, h5 = wI h3 12 0 43 (((10 * (hi h1 12 0 43)) + x4) - 48) → (((∀ h6, h6 = wI h5 12 0 42 ((hi h5 12 0 42) + 1) → Ex d rc rs m_X11_takesNumber 16 [vR (some (12, 0)), vI l1, vI (l2 + 1)] [] h6 Q))))))))))))))) ∧ (¬ l2 < l1 → Ex d rc rs m_X11_takesNumber 63 [vU, vU, vU] [] σ Q))
theorem sX11_takesNumber_16 {d rc rs : Nat} {l1 : Int32} {l2 : Int32} {σ : XH} {Q : XV → XH → Prop} (h : bX11_takesNumber_16 d rc rs l1 l2 σ Q) : Ex d rc rs m_X11_takesNumber 16 [vR (some (12, 0)), vI l1, vI l2] [] σ Q :=
  xtree_sound (stop := stpX11_takesNumber) okX11_takesNumber 27 _ _ _ _ _ _ h
def bX11_takesNumber_63 (d rc rs : Nat)  (σ : XH) (Q : XV → XH → Prop) : Prop :=
  (((1 : Int32) = 0 ∨ (1 : Int32) = 1) ∧ Q (vI 1) σ)
theorem sX11_takesNumber_63 {d rc rs : Nat}  {σ : XH} {Q : XV → XH → Prop} (h : bX11_takesNumber_63 d rc rs  σ Q) : Ex d rc rs m_X11_takesNumber 63 [vU, vU, vU] [] σ Q :=
  xtree_sound (stop := stpX11_takesNumber) okX11_takesNumber 4 _ _ _ _ _ _ h
/-! SpotTimersModel.push(Z)V -/
theorem dX11_push_0 : decode cX11_push 0 = .ok (.iload_n 1, 1) := by decide +kernel
theorem dX11_push_1 : decode cX11_push 1 = .ok (.istore_n 2, 1) := by decide +kernel
theorem dX11_push_2 : decode cX11_push 2 = .ok (.aload_n 0, 1) := by decide +kernel
theorem dX11_push_3 : decode cX11_push 3 = .ok (.getfield 151, 3) := by decide +kernel
theorem dX11_push_6 : decode cX11_push 6 = .ok (.ifCond .le 52, 3) := by decide +kernel
theorem dX11_push_9 : decode cX11_push 9 = .ok (.aload_n 0, 1) := by decide +kernel
theorem dX11_push_10 : decode cX11_push 10 = .ok (.getfield 144, 3) := by decide +kernel
theorem dX11_push_13 : decode cX11_push 13 = .ok (.aload_n 0, 1) := by decide +kernel
theorem dX11_push_14 : decode cX11_push 14 = .ok (.getfield 151, 3) := by decide +kernel
theorem dX11_push_17 : decode cX11_push 17 = .ok (.iconst 1, 1) := by decide +kernel
theorem dX11_push_18 : decode cX11_push 18 = .ok (.isub, 1) := by decide +kernel
theorem dX11_push_19 : decode cX11_push 19 = .ok (.iaload, 1) := by decide +kernel
theorem dX11_push_20 : decode cX11_push 20 = .ok (.bipush 33, 2) := by decide +kernel
theorem dX11_push_22 : decode cX11_push 22 = .ok (.if_icmp .ne 36, 3) := by decide +kernel
theorem dX11_push_25 : decode cX11_push 25 = .ok (.iload_n 2, 1) := by decide +kernel
theorem dX11_push_26 : decode cX11_push 26 = .ok (.ifCond .ne 7, 3) := by decide +kernel
theorem dX11_push_29 : decode cX11_push 29 = .ok (.iconst 1, 1) := by decide +kernel
theorem dX11_push_30 : decode cX11_push 30 = .ok (.goto 4, 3) := by decide +kernel
theorem dX11_push_33 : decode cX11_push 33 = .ok (.iconst 0, 1) := by decide +kernel
theorem dX11_push_34 : decode cX11_push 34 = .ok (.istore_n 2, 1) := by decide +kernel
theorem dX11_push_35 : decode cX11_push 35 = .ok (.aload_n 0, 1) := by decide +kernel
theorem dX11_push_36 : decode cX11_push 36 = .ok (.dup, 1) := by decide +kernel
theorem dX11_push_37 : decode cX11_push 37 = .ok (.getfield 151, 3) := by decide +kernel
theorem dX11_push_40 : decode cX11_push 40 = .ok (.iconst 1, 1) := by decide +kernel
theorem dX11_push_41 : decode cX11_push 41 = .ok (.isub, 1) := by decide +kernel
theorem dX11_push_42 : decode cX11_push 42 = .ok (.putfield 151, 3) := by decide +kernel
theorem dX11_push_45 : decode cX11_push 45 = .ok (.aload_n 0, 1) := by decide +kernel
theorem dX11_push_46 : decode cX11_push 46 = .ok (.dup, 1) := by decide +kernel
theorem dX11_push_47 : decode cX11_push 47 = .ok (.getfield 157, 3) := by decide +kernel
theorem dX11_push_50 : decode cX11_push 50 = .ok (.iconst 1, 1) := by decide +kernel
theorem dX11_push_51 : decode cX11_push 51 = .ok (.isub, 1) := by decide +kernel
theorem dX11_push_52 : decode cX11_push 52 = .ok (.putfield 157, 3) := by decide +kernel
theorem dX11_push_55 : decode cX11_push 55 = .ok (.goto (-53), 3) := by decide +kernel
theorem dX11_push_58 : decode cX11_push 58 = .ok (.aload_n 0, 1) := by decide +kernel
theorem dX11_push_59 : decode cX11_push 59 = .ok (.getfield 147, 3) := by decide +kernel
theorem dX11_push_62 : decode cX11_push 62 = .ok (.aload_n 0, 1) := by decide +kernel
theorem dX11_push_63 : decode cX11_push 63 = .ok (.getfield 154, 3) := by decide +kernel
theorem dX11_push_66 : decode cX11_push 66 = .ok (.iload_n 2, 1) := by decide +kernel
theorem dX11_push_67 : decode cX11_push 67 = .ok (.bastore, 1) := by decide +kernel
theorem dX11_push_68 : decode cX11_push 68 = .ok (.aload_n 0, 1) := by decide +kernel
theorem dX11_push_69 : decode cX11_push 69 = .ok (.dup, 1) := by decide +kernel
theorem dX11_push_70 : decode cX11_push 70 = .ok (.getfield 154, 3) := by decide +kernel
theorem dX11_push_73 : decode cX11_push 73 = .ok (.iconst 1, 1) := by decide +kernel
theorem dX11_push_74 : decode cX11_push 74 = .ok (.iadd, 1) := by decide +kernel
theorem dX11_push_75 : decode cX11_push 75 = .ok (.putfield 154, 3) := by decide +kernel
theorem dX11_push_78 : decode cX11_push 78 = .ok (.return_, 1) := by decide +kernel
theorem oX11_push_0 : OKI 187 0 (.iload_n 1, 1, [1], 0, 0, []) := And.intro dX11_push_0 (And.intro rfl (rfl))
theorem oX11_push_1 : OKI 187 1 (.istore_n 2, 2, [2], 0, 0, []) := And.intro dX11_push_1 (And.intro rfl (And.intro rfl (by decide)))
theorem oX11_push_2 : OKI 187 2 (.aload_n 0, 3, [0], 0, 0, []) := And.intro dX11_push_2 (And.intro rfl (rfl))
theorem oX11_push_3 : OKI 187 3 (.getfield 151, 6, [12, 46, 0], 0, 0, []) := And.intro dX11_push_3 (And.intro rfl (⟨(RX11, TX11, 69), "SpotTimersModel", rfl, by decide, tm_6 _ (List.mem_of_getElem? (i := 12) rfl) rfl, Or.inl rfl, Or.inr (Or.inr (And.intro rfl (Or.inl rfl)))⟩))
theorem oX11_push_6 : OKI 187 6 (.ifCond .le 52, 9, [58], 0, 0, []) := And.intro dX11_push_6 (And.intro rfl (by decide))
theorem oX11_push_9 : OKI 187 9 (.aload_n 0, 10, [0], 0, 0, []) := And.intro dX11_push_9 (And.intro rfl (rfl))
theorem oX11_push_10 : OKI 187 10 (.getfield 144, 13, [12, 44, 2, 140, 0], 0, 0, []) := And.intro dX11_push_10 (And.intro rfl (⟨(RX11, TX11, 69), "SpotTimersModel", rfl, by decide, tm_6 _ (List.mem_of_getElem? (i := 10) rfl) rfl, Or.inl rfl, rfl, rfl⟩))
theorem oX11_push_13 : OKI 187 13 (.aload_n 0, 14, [0], 0, 0, []) := And.intro dX11_push_13 (And.intro rfl (rfl))
theorem oX11_push_14 : OKI 187 14 (.getfield 151, 17, [12, 46, 0], 0, 0, []) := And.intro dX11_push_14 (And.intro rfl (⟨(RX11, TX11, 69), "SpotTimersModel", rfl, by decide, tm_6 _ (List.mem_of_getElem? (i := 12) rfl) rfl, Or.inl rfl, Or.inr (Or.inr (And.intro rfl (Or.inl rfl)))⟩))
theorem oX11_push_17 : OKI 187 17 (.iconst 1, 18, [], 1, 0, []) := And.intro dX11_push_17 (And.intro rfl (by decide +kernel))
theorem oX11_push_18 : OKI 187 18 (.isub, 19, [], 0, 0, []) := And.intro dX11_push_18 rfl
theorem oX11_push_19 : OKI 187 19 (.iaload, 20, [], 0, 0, []) := And.intro dX11_push_19 rfl
theorem oX11_push_20 : OKI 187 20 (.bipush 33, 22, [], 33, 0, []) := And.intro dX11_push_20 (And.intro rfl (by decide +kernel))
theorem oX11_push_22 : OKI 187 22 (.if_icmp .ne 36, 25, [58], 0, 0, []) := And.intro dX11_push_22 (And.intro rfl (by decide))
theorem oX11_push_25 : OKI 187 25 (.iload_n 2, 26, [2], 0, 0, []) := And.intro dX11_push_25 (And.intro rfl (rfl))
theorem oX11_push_26 : OKI 187 26 (.ifCond .ne 7, 29, [33], 0, 0, []) := And.intro dX11_push_26 (And.intro rfl (by decide))
theorem oX11_push_29 : OKI 187 29 (.iconst 1, 30, [], 1, 0, []) := And.intro dX11_push_29 (And.intro rfl (by decide +kernel))
theorem oX11_push_30 : OKI 187 30 (.goto 4, 33, [34], 0, 0, []) := And.intro dX11_push_30 (And.intro rfl (by decide))
theorem oX11_push_33 : OKI 187 33 (.iconst 0, 34, [], 0, 0, []) := And.intro dX11_push_33 (And.intro rfl (by decide +kernel))
theorem oX11_push_34 : OKI 187 34 (.istore_n 2, 35, [2], 0, 0, []) := And.intro dX11_push_34 (And.intro rfl (And.intro rfl (by decide)))
theorem oX11_push_35 : OKI 187 35 (.aload_n 0, 36, [0], 0, 0, []) := And.intro dX11_push_35 (And.intro rfl (rfl))
theorem oX11_push_36 : OKI 187 36 (.dup, 37, [], 0, 0, []) := And.intro dX11_push_36 rfl
theorem oX11_push_37 : OKI 187 37 (.getfield 151, 40, [12, 46, 0], 0, 0, []) := And.intro dX11_push_37 (And.intro rfl (⟨(RX11, TX11, 69), "SpotTimersModel", rfl, by decide, tm_6 _ (List.mem_of_getElem? (i := 12) rfl) rfl, Or.inl rfl, Or.inr (Or.inr (And.intro rfl (Or.inl rfl)))⟩))
theorem oX11_push_40 : OKI 187 40 (.iconst 1, 41, [], 1, 0, []) := And.intro dX11_push_40 (And.intro rfl (by decide +kernel))
theorem oX11_push_41 : OKI 187 41 (.isub, 42, [], 0, 0, []) := And.intro dX11_push_41 rfl
theorem oX11_push_42 : OKI 187 42 (.putfield 151, 45, [12, 46, 0], 0, 0, []) := And.intro dX11_push_42 (And.intro rfl (⟨(RX11, TX11, 69), "SpotTimersModel", rfl, by decide, tm_6 _ (List.mem_of_getElem? (i := 12) rfl) rfl, Or.inl rfl, Or.inl rfl, rfl⟩))
theorem oX11_push_45 : OKI 187 45 (.aload_n 0, 46, [0], 0, 0, []) := And.intro dX11_push_45 (And.intro rfl (rfl))
theorem oX11_push_46 : OKI 187 46 (.dup, 47, [], 0, 0, []) := And.intro dX11_push_46 rfl
theorem oX11_push_47 : OKI 187 47 (.getfield 157, 50, [12, 48, 0], 0, 0, []) := And.intro dX11_push_47 (And.intro rfl (⟨(RX11, TX11, 69), "SpotTimersModel", rfl, by decide, tm_6 _ (List.mem_of_getElem? (i := 14) rfl) rfl, Or.inl rfl, Or.inr (Or.inr (And.intro rfl (Or.inl rfl)))⟩))
theorem oX11_push_50 : OKI 187 50 (.iconst 1, 51, [], 1, 0, []) := And.intro dX11_push_50 (And.intro rfl (by decide +kernel))
theorem oX11_push_51 : OKI 187 51 (.isub, 52, [], 0, 0, []) := And.intro dX11_push_51 rfl
theorem oX11_push_52 : OKI 187 52 (.putfield 157, 55, [12, 48, 0], 0, 0, []) := And.intro dX11_push_52 (And.intro rfl (⟨(RX11, TX11, 69), "SpotTimersModel", rfl, by decide, tm_6 _ (List.mem_of_getElem? (i := 14) rfl) rfl, Or.inl rfl, Or.inl rfl, rfl⟩))
theorem oX11_push_55 : OKI 187 55 (.goto (-53), 58, [2], 0, 0, []) := And.intro dX11_push_55 (And.intro rfl (by decide))
theorem oX11_push_58 : OKI 187 58 (.aload_n 0, 59, [0], 0, 0, []) := And.intro dX11_push_58 (And.intro rfl (rfl))
theorem oX11_push_59 : OKI 187 59 (.getfield 147, 62, [12, 45, 2, 300, 0], 0, 0, []) := And.intro dX11_push_59 (And.intro rfl (⟨(RX11, TX11, 69), "SpotTimersModel", rfl, by decide, tm_6 _ (List.mem_of_getElem? (i := 11) rfl) rfl, Or.inl rfl, rfl, rfl⟩))
theorem oX11_push_62 : OKI 187 62 (.aload_n 0, 63, [0], 0, 0, []) := And.intro dX11_push_62 (And.intro rfl (rfl))
theorem oX11_push_63 : OKI 187 63 (.getfield 154, 66, [12, 47, 0], 0, 0, []) := And.intro dX11_push_63 (And.intro rfl (⟨(RX11, TX11, 69), "SpotTimersModel", rfl, by decide, tm_6 _ (List.mem_of_getElem? (i := 13) rfl) rfl, Or.inl rfl, Or.inr (Or.inr (And.intro rfl (Or.inl rfl)))⟩))
theorem oX11_push_66 : OKI 187 66 (.iload_n 2, 67, [2], 0, 0, []) := And.intro dX11_push_66 (And.intro rfl (rfl))
theorem oX11_push_67 : OKI 187 67 (.bastore, 68, [], 0, 0, []) := And.intro dX11_push_67 rfl
theorem oX11_push_68 : OKI 187 68 (.aload_n 0, 69, [0], 0, 0, []) := And.intro dX11_push_68 (And.intro rfl (rfl))
theorem oX11_push_69 : OKI 187 69 (.dup, 70, [], 0, 0, []) := And.intro dX11_push_69 rfl
theorem oX11_push_70 : OKI 187 70 (.getfield 154, 73, [12, 47, 0], 0, 0, []) := And.intro dX11_push_70 (And.intro rfl (⟨(RX11, TX11, 69), "SpotTimersModel", rfl, by decide, tm_6 _ (List.mem_of_getElem? (i := 13) rfl) rfl, Or.inl rfl, Or.inr (Or.inr (And.intro rfl (Or.inl rfl)))⟩))
theorem oX11_push_73 : OKI 187 73 (.iconst 1, 74, [], 1, 0, []) := And.intro dX11_push_73 (And.intro rfl (by decide +kernel))
theorem oX11_push_74 : OKI 187 74 (.iadd, 75, [], 0, 0, []) := And.intro dX11_push_74 rfl
theorem oX11_push_75 : OKI 187 75 (.putfield 154, 78, [12, 47, 0], 0, 0, []) := And.intro dX11_push_75 (And.intro rfl (⟨(RX11, TX11, 69), "SpotTimersModel", rfl, by decide, tm_6 _ (List.mem_of_getElem? (i := 13) rfl) rfl, Or.inl rfl, Or.inl rfl, rfl⟩))
theorem oX11_push_78 : OKI 187 78 (.return_, 79, [], 0, 0, []) := And.intro dX11_push_78 rfl
def pfX11_push (pc : Nat) : Option XE := (bif Nat.blt pc 40 then (bif Nat.blt pc 19 then (bif Nat.blt pc 9 then (bif Nat.blt pc 2 then (bif Nat.blt pc 1 then (bif Nat.beq pc 0 then some (.iload_n 1, 1, [1], 0, 0, []) else none) else (bif Nat.beq pc 1 then some (.istore_n 2, 2, [2], 0, 0, []) else none)) else (bif Nat.blt pc 3 then (bif Nat.beq pc 2 then some (.aload_n 0, 3, [0], 0, 0, []) else none) else (bif Nat.blt pc 6 then (bif Nat.beq pc 3 then some (.getfield 151, 6, [12, 46, 0], 0, 0, []) else none) else (bif Nat.beq pc 6 then some (.ifCond .le 52, 9, [58], 0, 0, []) else none)))) else (bif Nat.blt pc 14 then (bif Nat.blt pc 10 then (bif Nat.beq pc 9 then some (.aload_n 0, 10, [0], 0, 0, []) else none) else (bif Nat.blt pc 13 then (bif Nat.beq pc 10 then some (.getfield 144, 13, [12, 44, 2, 140, 0], 0, 0, []) else none) else (bif Nat.beq pc 13 then some (.aload_n 0, 14, [0], 0, 0, []) else none))) else (bif Nat.blt pc 17 then (bif Nat.beq pc 14 then some (.getfield 151, 17, [12, 46, 0], 0, 0, []) else none) else (bif Nat.blt pc 18 then (bif Nat.beq pc 17 then some (.iconst 1, 18, [], 1, 0, []) else none) else (bif Nat.beq pc 18 then some (.isub, 19, [], 0, 0, []) else none))))) else (bif Nat.blt pc 30 then (bif Nat.blt pc 25 then (bif Nat.blt pc 20 then (bif Nat.beq pc 19 then some (.iaload, 20, [], 0, 0, []) else none) else (bif Nat.blt pc 22 then (bif Nat.beq pc 20 then some (.bipush 33, 22, [], 33, 0, []) else none) else (bif Nat.beq pc 22 then some (.if_icmp .ne 36, 25, [58], 0, 0, []) else none))) else (bif Nat.blt pc 26 then (bif Nat.beq pc 25 then some (.iload_n 2, 26, [2], 0, 0, []) else none) else (bif Nat.blt pc 29 then (bif Nat.beq pc 26 then some (.ifCond .ne 7, 29, [33], 0, 0, []) else none) else (bif Nat.beq pc 29 then some (.iconst 1, 30, [], 1, 0, []) else none)))) else (bif Nat.blt pc 35 then (bif Nat.blt pc 33 then (bif Nat.beq pc 30 then some (.goto 4, 33, [34], 0, 0, []) else none) else (bif Nat.blt pc 34 then (bif Nat.beq pc 33 then some (.iconst 0, 34, [], 0, 0, []) else none) else (bif Nat.beq pc 34 then some (.istore_n 2, 35, [2], 0, 0, []) else none))) else (bif Nat.blt pc 36 then (bif Nat.beq pc 35 then some (.aload_n 0, 36, [0], 0, 0, []) else none) else (bif Nat.blt pc 37 then (bif Nat.beq pc 36 then some (.dup, 37, [], 0, 0, []) else none) else (bif Nat.beq pc 37 then some (.getfield 151, 40, [12, 46, 0], 0, 0, []) else none)))))) else (bif Nat.blt pc 59 then (bif Nat.blt pc 47 then (bif Nat.blt pc 42 then (bif Nat.blt pc 41 then (bif Nat.beq pc 40 then some (.iconst 1, 41, [], 1, 0, []) else none) else (bif Nat.beq pc 41 then some (.isub, 42, [], 0, 0, []) else none)) else (bif Nat.blt pc 45 then (bif Nat.beq pc 42 then some (.putfield 151, 45, [12, 46, 0], 0, 0, []) else none) else (bif Nat.blt pc 46 then (bif Nat.beq pc 45 then some (.aload_n 0, 46, [0], 0, 0, []) else none) else (bif Nat.beq pc 46 then some (.dup, 47, [], 0, 0, []) else none)))) else (bif Nat.blt pc 52 then (bif Nat.blt pc 50 then (bif Nat.beq pc 47 then some (.getfield 157, 50, [12, 48, 0], 0, 0, []) else none) else (bif Nat.blt pc 51 then (bif Nat.beq pc 50 then some (.iconst 1, 51, [], 1, 0, []) else none) else (bif Nat.beq pc 51 then some (.isub, 52, [], 0, 0, []) else none))) else (bif Nat.blt pc 55 then (bif Nat.beq pc 52 then some (.putfield 157, 55, [12, 48, 0], 0, 0, []) else none) else (bif Nat.blt pc 58 then (bif Nat.beq pc 55 then some (.goto (-53), 58, [2], 0, 0, []) else none) else (bif Nat.beq pc 58 then some (.aload_n 0, 59, [0], 0, 0, []) else none))))) else (bif Nat.blt pc 69 then (bif Nat.blt pc 66 then (bif Nat.blt pc 62 then (bif Nat.beq pc 59 then some (.getfield 147, 62, [12, 45, 2, 300, 0], 0, 0, []) else none) else (bif Nat.blt pc 63 then (bif Nat.beq pc 62 then some (.aload_n 0, 63, [0], 0, 0, []) else none) else (bif Nat.beq pc 63 then some (.getfield 154, 66, [12, 47, 0], 0, 0, []) else none))) else (bif Nat.blt pc 67 then (bif Nat.beq pc 66 then some (.iload_n 2, 67, [2], 0, 0, []) else none) else (bif Nat.blt pc 68 then (bif Nat.beq pc 67 then some (.bastore, 68, [], 0, 0, []) else none) else (bif Nat.beq pc 68 then some (.aload_n 0, 69, [0], 0, 0, []) else none)))) else (bif Nat.blt pc 74 then (bif Nat.blt pc 70 then (bif Nat.beq pc 69 then some (.dup, 70, [], 0, 0, []) else none) else (bif Nat.blt pc 73 then (bif Nat.beq pc 70 then some (.getfield 154, 73, [12, 47, 0], 0, 0, []) else none) else (bif Nat.beq pc 73 then some (.iconst 1, 74, [], 1, 0, []) else none))) else (bif Nat.blt pc 75 then (bif Nat.beq pc 74 then some (.iadd, 75, [], 0, 0, []) else none) else (bif Nat.blt pc 78 then (bif Nat.beq pc 75 then some (.putfield 154, 78, [12, 47, 0], 0, 0, []) else none) else (bif Nat.beq pc 78 then some (.return_, 79, [], 0, 0, []) else none)))))))
theorem okX11_push : ∀ pc Y, pfX11_push pc = some Y → OKI m_X11_push pc Y := fun pc Y => ((bt_node (bt_node (bt_node (bt_node (bt_node (bt_leaf (P := OKI m_X11_push) oX11_push_0) (bt_leaf (P := OKI m_X11_push) oX11_push_1)) (bt_node (bt_leaf (P := OKI m_X11_push) oX11_push_2) (bt_node (bt_leaf (P := OKI m_X11_push) oX11_push_3) (bt_leaf (P := OKI m_X11_push) oX11_push_6)))) (bt_node (bt_node (bt_leaf (P := OKI m_X11_push) oX11_push_9) (bt_node (bt_leaf (P := OKI m_X11_push) oX11_push_10) (bt_leaf (P := OKI m_X11_push) oX11_push_13))) (bt_node (bt_leaf (P := OKI m_X11_push) oX11_push_14) (bt_node (bt_leaf (P := OKI m_X11_push) oX11_push_17) (bt_leaf (P := OKI m_X11_push) oX11_push_18))))) (bt_node (bt_node (bt_node (bt_leaf (P := OKI m_X11_push) oX11_push_19) (bt_node (bt_leaf (P := OKI m_X11_push) oX11_push_20) (bt_leaf (P := OKI m_X11_push) oX11_push_22))) (bt_node (bt_leaf (P := OKI m_X11_push) oX11_push_25) (bt_node (bt_leaf (P := OKI m_X11_push) oX11_push_26) (bt_leaf (P := OKI m_X11_push) oX11_push_29)))) (bt_node (bt_node (bt_leaf (P := OKI m_X11_push) oX11_push_30) (bt_node (bt_leaf (P := OKI m_X11_push) oX11_push_33) (bt_leaf (P := OKI m_X11_push) oX11_push_34))) (bt_node (bt_leaf (P := OKI m_X11_push) oX11_push_35) (bt_node (bt_leaf (P := OKI m_X11_push) oX11_push_36) (bt_leaf (P := OKI m_X11_push) oX11_push_37)))))) (bt_node (bt_node (bt_node (bt_node (bt_leaf (P := OKI m_X11_push) oX11_push_40) (bt_leaf (P := OKI m_X11_push) oX11_push_41)) (bt_node (bt_leaf (P := OKI m_X11_push) oX11_push_42) (bt_node (bt_leaf (P := OKI m_X11_push) oX11_push_45) (bt_leaf (P := OKI m_X11_push) oX11_push_46)))) (bt_node (bt_node (bt_leaf (P := OKI m_X11_push) oX11_push_47) (bt_node (bt_leaf (P := OKI m_X11_push) oX11_push_50) (bt_leaf (P := OKI m_X11_push) oX11_push_51))) (bt_node (bt_leaf (P := OKI m_X11_push) oX11_push_52) (bt_node (bt_leaf (P := OKI m_X11_push) oX11_push_55) (bt_leaf (P := OKI m_X11_push) oX11_push_58))))) (bt_node (bt_node (bt_node (bt_leaf (P := OKI m_X11_push) oX11_push_59) (bt_node (bt_leaf (P := OKI m_X11_push) oX11_push_62) (bt_leaf (P := OKI m_X11_push) oX11_push_63))) (bt_node (bt_leaf (P := OKI m_X11_push) oX11_push_66) (bt_node (bt_leaf (P := OKI m_X11_push) oX11_push_67) (bt_leaf (P := OKI m_X11_push) oX11_push_68)))) (bt_node (bt_node (bt_leaf (P := OKI m_X11_push) oX11_push_69) (bt_node (bt_leaf (P := OKI m_X11_push) oX11_push_70) (bt_leaf (P := OKI m_X11_push) oX11_push_73))) (bt_node (bt_leaf (P := OKI m_X11_push) oX11_push_74) (bt_node (bt_leaf (P := OKI m_X11_push) oX11_push_75) (bt_leaf (P := OKI m_X11_push) oX11_push_78))))))) : pfX11_push pc = some Y → OKI m_X11_push pc Y)
def stpX11_push (pc : Nat) : Option (List Bool) := (bif Nat.blt pc 34 then (bif Nat.beq pc 2 then some [true, false, true] else none) else (bif Nat.blt pc 58 then (bif Nat.beq pc 34 then some [true, false, false] else none) else (bif Nat.beq pc 58 then some [true, false, true] else none)))
def bX11_push_0 (d rc rs : Nat) (a1 : Int32) (σ : XH) (Q : XV → XH → Prop) : Prop :=
  Ex d rc rs m_X11_push 2 [vR (some (12, 0)), vU, vI a1] [] σ Q
theorem sX11_push_0 {d rc rs : Nat} {a1 : Int32} {σ : XH} {Q : XV → XH → Prop} (h : bX11_push_0 d rc rs a1 σ Q) : Ex d rc rs m_X11_push 0 [vR (some (12, 0)), vI a1, vU] [] σ Q :=
  xtree_sound (stop := stpX11_push) okX11_push 4 _ _ _ _ _ _ h
def bX11_push_2 (d rc rs : Nat) (l2 : Int32) (σ : XH) (Q : XV → XH → Prop) : Prop :=
  (((0 < (hi σ 12 0 46) → ((hr σ 12 0 44 = some (140, 0) ∧ (((vp_in ((hi σ 12 0 46) - 1) (hn σ 140 0) ∧ (((hi σ 140 0 ((hi σ 12 0 46) - 1).toNatClampNeg) = 33 → ((l2 = 0 → Ex d rc rs m_X11_push 34 [vR (some (12, 0)), vU, vU] [vI 1] σ Q) ∧ (¬ l2 = 0 → Ex d rc rs m_X11_push 34 [vR (some (12, 0)), vU, vU] [vI 0] σ Q))) ∧ (¬ (hi σ 140 0 ((hi σ 12 0 46) - 1).toNatClampNeg) = 33 → Ex d rc rs m_X11_push 58 [vR (some (12, 0)), vU, vI l2] [] σ Q)))))))) ∧ (¬ 0 < (hi σ 12 0 46) → Ex d rc rs m_X11_push 58 [vR (some (12, 0)), vU, vI l2] [] σ Q)))
theorem sX11_push_2 {d rc rs : Nat} {l2 : Int32} {σ : XH} {Q : XV → XH → Prop} (h : bX11_push_2 d rc rs l2 σ Q) : Ex d rc rs m_X11_push 2 [vR (some (12, 0)), vU, vI l2] [] σ Q :=
  xtree_sound (stop := stpX11_push) okX11_push 18 _ _ _ _ _ _ h
def bX11_push_34 (d rc rs : Nat) (q0 : Int32) (σ : XH) (Q : XV → XH → Prop) : Prop :=
  (((∀ h1, h1 = wI σ 12 0 46 ((hi σ 12 0 46) - 1) → (((∀ h2, h2 = wI h1 12 0 48 ((hi h1 12 0 48) - 1) → Ex d rc rs m_X11_push 2 [vR (some (12, 0)), vU, vI q0] [] h2 Q))))))
theorem sX11_push_34 {d rc rs : Nat} {q0 : Int32} {σ : XH} {Q : XV → XH → Prop} (h : bX11_push_34 d rc rs q0 σ Q) : Ex d rc rs m_X11_push 34 [vR (some (12, 0)), vU, vU] [vI q0] σ Q :=
  xtree_sound (stop := stpX11_push) okX11_push 16 _ _ _ _ _ _ h
def bX11_push_58 (d rc rs : Nat) (l2 : Int32) (σ : XH) (Q : XV → XH → Prop) : Prop :=
  ((hr σ 12 0 45 = some (300, 0) ∧ (((vp_in (hi σ 12 0 47) (hn σ 300 0) ∧ (∀ h1, h1 = wI σ 300 0 (hi σ 12 0 47).toNatClampNeg (vp_nar .boolean l2) → (((∀ h2, h2 = wI h1 12 0 47 ((hi h1 12 0 47) + 1) → Q vU h2)))))))))
theorem sX11_push_58 {d rc rs : Nat} {l2 : Int32} {σ : XH} {Q : XV → XH → Prop} (h : bX11_push_58 d rc rs l2 σ Q) : Ex d rc rs m_X11_push 58 [vR (some (12, 0)), vU, vI l2] [] σ Q :=
  xtree_sound (stop := stpX11_push) okX11_push 15 _ _ _ _ _ _ h
