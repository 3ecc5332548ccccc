/-! ===== classes: what is known of each ===== -/
theorem ly_Jx4a65c_0 : u_lay RJx4a65c TJx4a65c 0 ∈ lwA := tm_1 _ (List.mem_of_getElem? (i := 57) rfl) rfl
theorem ly_Jx4a65c_1 : u_lay RJx4a65c TJx4a65c 1 ∈ lwA := tm_1 _ (List.mem_of_getElem? (i := 53) rfl) rfl
theorem ly_Jx4a65c_2 : u_lay RJx4a65c TJx4a65c 2 ∈ lwA := tm_1 _ (List.mem_of_getElem? (i := 55) rfl) rfl
set_option maxRecDepth 20000 in
theorem ly_Jx4a65c : ∀ w ∈ u_ws RJx4a65c TJx4a65c 3, w ∈ lwA := by
  show ∀ w ∈ [u_lay RJx4a65c TJx4a65c 0, u_lay RJx4a65c TJx4a65c 1, u_lay RJx4a65c TJx4a65c 2], w ∈ lwA
  exact List.forall_mem_cons.mpr ⟨ly_Jx4a65c_0, List.forall_mem_cons.mpr ⟨ly_Jx4a65c_1, List.forall_mem_cons.mpr ⟨ly_Jx4a65c_2, fun _ h => absurd h List.not_mem_nil⟩⟩⟩
theorem ly_X0_0 : u_lay RX0 TX0 0 ∈ lwA := tm_1 _ (List.mem_of_getElem? (i := 201) rfl) rfl
theorem ly_X0_1 : u_lay RX0 TX0 1 ∈ lwA := tm_1 _ (List.mem_of_getElem? (i := 203) rfl) rfl
theorem ly_X0_2 : u_lay RX0 TX0 2 ∈ lwA := tm_1 _ (List.mem_of_getElem? (i := 205) rfl) rfl
theorem ly_X0_3 : u_lay RX0 TX0 3 ∈ lwA := tm_1 _ (List.mem_of_getElem? (i := 207) rfl) rfl
theorem ly_X0_4 : u_lay RX0 TX0 4 ∈ lwA := tm_1 _ (List.mem_of_getElem? (i := 209) rfl) rfl
set_option maxRecDepth 20000 in
theorem ly_X0 : ∀ w ∈ u_ws RX0 TX0 5, w ∈ lwA := by
  show ∀ w ∈ [u_lay RX0 TX0 0, u_lay RX0 TX0 1, u_lay RX0 TX0 2, u_lay RX0 TX0 3, u_lay RX0 TX0 4], w ∈ lwA
  exact List.forall_mem_cons.mpr ⟨ly_X0_0, List.forall_mem_cons.mpr ⟨ly_X0_1, List.forall_mem_cons.mpr ⟨ly_X0_2, List.forall_mem_cons.mpr ⟨ly_X0_3, List.forall_mem_cons.mpr ⟨ly_X0_4, fun _ h => absurd h List.not_mem_nil⟩⟩⟩⟩⟩
theorem ly_X1_0 : u_lay RX1 TX1 0 ∈ lwA := tm_2 _ (List.mem_of_getElem? (i := 189) rfl) rfl
theorem ly_X1_1 : u_lay RX1 TX1 1 ∈ lwA := tm_2 _ (List.mem_of_getElem? (i := 191) rfl) rfl
theorem ly_X1_2 : u_lay RX1 TX1 2 ∈ lwA := tm_2 _ (List.mem_of_getElem? (i := 193) rfl) rfl
theorem ly_X1_3 : u_lay RX1 TX1 3 ∈ lwA := tm_2 _ (List.mem_of_getElem? (i := 195) rfl) rfl
theorem ly_X1_4 : u_lay RX1 TX1 4 ∈ lwA := tm_2 _ (List.mem_of_getElem? (i := 197) rfl) rfl
theorem ly_X1_5 : u_lay RX1 TX1 5 ∈ lwA := tm_2 _ (List.mem_of_getElem? (i := 199) rfl) rfl
set_option maxRecDepth 20000 in
theorem ly_X1 : ∀ w ∈ u_ws RX1 TX1 6, w ∈ lwA := by
  show ∀ w ∈ [u_lay RX1 TX1 0, u_lay RX1 TX1 1, u_lay RX1 TX1 2, u_lay RX1 TX1 3, u_lay RX1 TX1 4, u_lay RX1 TX1 5], w ∈ lwA
  exact List.forall_mem_cons.mpr ⟨ly_X1_0, List.forall_mem_cons.mpr ⟨ly_X1_1, List.forall_mem_cons.mpr ⟨ly_X1_2, List.forall_mem_cons.mpr ⟨ly_X1_3, List.forall_mem_cons.mpr ⟨ly_X1_4, List.forall_mem_cons.mpr ⟨ly_X1_5, fun _ h => absurd h List.not_mem_nil⟩⟩⟩⟩⟩⟩
theorem ly_X2_0 : u_lay RX2 TX2 0 ∈ lwA := tm_3 _ (List.mem_of_getElem? (i := 202) rfl) rfl
theorem ly_X2_1 : u_lay RX2 TX2 1 ∈ lwA := tm_3 _ (List.mem_of_getElem? (i := 204) rfl) rfl
theorem ly_X2_2 : u_lay RX2 TX2 2 ∈ lwA := tm_3 _ (List.mem_of_getElem? (i := 206) rfl) rfl
theorem ly_X2_3 : u_lay RX2 TX2 3 ∈ lwA := tm_3 _ (List.mem_of_getElem? (i := 208) rfl) rfl
set_option maxRecDepth 20000 in
theorem ly_X2 : ∀ w ∈ u_ws RX2 TX2 4, w ∈ lwA := by
  show ∀ w ∈ [u_lay RX2 TX2 0, u_lay RX2 TX2 1, u_lay RX2 TX2 2, u_lay RX2 TX2 3], w ∈ lwA
  exact List.forall_mem_cons.mpr ⟨ly_X2_0, List.forall_mem_cons.mpr ⟨ly_X2_1, List.forall_mem_cons.mpr ⟨ly_X2_2, List.forall_mem_cons.mpr ⟨ly_X2_3, fun _ h => absurd h List.not_mem_nil⟩⟩⟩⟩
theorem ly_X3_0 : u_lay RX3 TX3 0 ∈ lwA := tm_5 _ (List.mem_of_getElem? (i := 69) rfl) rfl
theorem ly_X3_1 : u_lay RX3 TX3 1 ∈ lwA := tm_5 _ (List.mem_of_getElem? (i := 71) rfl) rfl
set_option maxRecDepth 20000 in
theorem ly_X3 : ∀ w ∈ u_ws RX3 TX3 2, w ∈ lwA := by
  show ∀ w ∈ [u_lay RX3 TX3 0, u_lay RX3 TX3 1], w ∈ lwA
  exact List.forall_mem_cons.mpr ⟨ly_X3_0, List.forall_mem_cons.mpr ⟨ly_X3_1, fun _ h => absurd h List.not_mem_nil⟩⟩
theorem ly_X4_0 : u_lay RX4 TX4 0 ∈ lwA := tm_3 _ (List.mem_of_getElem? (i := 78) rfl) rfl
theorem ly_X4_1 : u_lay RX4 TX4 1 ∈ lwA := tm_3 _ (List.mem_of_getElem? (i := 80) rfl) rfl
theorem ly_X4_2 : u_lay RX4 TX4 2 ∈ lwA := tm_3 _ (List.mem_of_getElem? (i := 82) rfl) rfl
theorem ly_X4_3 : u_lay RX4 TX4 3 ∈ lwA := tm_3 _ (List.mem_of_getElem? (i := 84) rfl) rfl
theorem ly_X4_4 : u_lay RX4 TX4 4 ∈ lwA := tm_3 _ (List.mem_of_getElem? (i := 86) rfl) rfl
theorem ly_X4_5 : u_lay RX4 TX4 5 ∈ lwA := tm_3 _ (List.mem_of_getElem? (i := 88) rfl) rfl
theorem ly_X4_6 : u_lay RX4 TX4 6 ∈ lwA := tm_3 _ (List.mem_of_getElem? (i := 90) rfl) rfl
theorem ly_X4_7 : u_lay RX4 TX4 7 ∈ lwA := tm_3 _ (List.mem_of_getElem? (i := 92) rfl) rfl
theorem ly_X4_8 : u_lay RX4 TX4 8 ∈ lwA := tm_3 _ (List.mem_of_getElem? (i := 94) rfl) rfl
theorem ly_X4_9 : u_lay RX4 TX4 9 ∈ lwA := tm_3 _ (List.mem_of_getElem? (i := 96) rfl) rfl
theorem ly_X4_10 : u_lay RX4 TX4 10 ∈ lwA := tm_3 _ (List.mem_of_getElem? (i := 98) rfl) rfl
set_option maxRecDepth 20000 in
theorem ly_X4 : ∀ w ∈ u_ws RX4 TX4 11, w ∈ lwA := by
  show ∀ w ∈ [u_lay RX4 TX4 0, u_lay RX4 TX4 1, u_lay RX4 TX4 2, u_lay RX4 TX4 3, u_lay RX4 TX4 4, u_lay RX4 TX4 5, u_lay RX4 TX4 6, u_lay RX4 TX4 7, u_lay RX4 TX4 8, u_lay RX4 TX4 9, u_lay RX4 TX4 10], w ∈ lwA
  exact List.forall_mem_cons.mpr ⟨ly_X4_0, List.forall_mem_cons.mpr ⟨ly_X4_1, List.forall_mem_cons.mpr ⟨ly_X4_2, List.forall_mem_cons.mpr ⟨ly_X4_3, List.forall_mem_cons.mpr ⟨ly_X4_4, List.forall_mem_cons.mpr ⟨ly_X4_5, List.forall_mem_cons.mpr ⟨ly_X4_6, List.forall_mem_cons.mpr ⟨ly_X4_7, List.forall_mem_cons.mpr ⟨ly_X4_8, List.forall_mem_cons.mpr ⟨ly_X4_9, List.forall_mem_cons.mpr ⟨ly_X4_10, fun _ h => absurd h List.not_mem_nil⟩⟩⟩⟩⟩⟩⟩⟩⟩⟩⟩
theorem ly_X5_0 : u_lay RX5 TX5 0 ∈ lwA := tm_1 _ (List.mem_of_getElem? (i := 119) rfl) rfl
theorem ly_X5_1 : u_lay RX5 TX5 1 ∈ lwA := tm_1 _ (List.mem_of_getElem? (i := 121) rfl) rfl
theorem ly_X5_2 : u_lay RX5 TX5 2 ∈ lwA := tm_1 _ (List.mem_of_getElem? (i := 123) rfl) rfl
theorem ly_X5_3 : u_lay RX5 TX5 3 ∈ lwA := tm_1 _ (List.mem_of_getElem? (i := 125) rfl) rfl
theorem ly_X5_4 : u_lay RX5 TX5 4 ∈ lwA := tm_1 _ (List.mem_of_getElem? (i := 127) rfl) rfl
theorem ly_X5_5 : u_lay RX5 TX5 5 ∈ lwA := tm_1 _ (List.mem_of_getElem? (i := 129) rfl) rfl
theorem ly_X5_6 : u_lay RX5 TX5 6 ∈ lwA := tm_1 _ (List.mem_of_getElem? (i := 131) rfl) rfl
theorem ly_X5_7 : u_lay RX5 TX5 7 ∈ lwA := tm_1 _ (List.mem_of_getElem? (i := 133) rfl) rfl
theorem ly_X5_8 : u_lay RX5 TX5 8 ∈ lwA := tm_1 _ (List.mem_of_getElem? (i := 135) rfl) rfl
theorem ly_X5_9 : u_lay RX5 TX5 9 ∈ lwA := tm_1 _ (List.mem_of_getElem? (i := 137) rfl) rfl
theorem ly_X5_10 : u_lay RX5 TX5 10 ∈ lwA := tm_1 _ (List.mem_of_getElem? (i := 139) rfl) rfl
theorem ly_X5_11 : u_lay RX5 TX5 11 ∈ lwA := tm_1 _ (List.mem_of_getElem? (i := 141) rfl) rfl
theorem ly_X5_12 : u_lay RX5 TX5 12 ∈ lwA := tm_1 _ (List.mem_of_getElem? (i := 143) rfl) rfl
set_option maxRecDepth 20000 in
theorem ly_X5 : ∀ w ∈ u_ws RX5 TX5 13, w ∈ lwA := by
  show ∀ w ∈ [u_lay RX5 TX5 0, u_lay RX5 TX5 1, u_lay RX5 TX5 2, u_lay RX5 TX5 3, u_lay RX5 TX5 4, u_lay RX5 TX5 5, u_lay RX5 TX5 6, u_lay RX5 TX5 7, u_lay RX5 TX5 8, u_lay RX5 TX5 9, u_lay RX5 TX5 10, u_lay RX5 TX5 11, u_lay RX5 TX5 12], w ∈ lwA
  exact List.forall_mem_cons.mpr ⟨ly_X5_0, List.forall_mem_cons.mpr ⟨ly_X5_1, List.forall_mem_cons.mpr ⟨ly_X5_2, List.forall_mem_cons.mpr ⟨ly_X5_3, List.forall_mem_cons.mpr ⟨ly_X5_4, List.forall_mem_cons.mpr ⟨ly_X5_5, List.forall_mem_cons.mpr ⟨ly_X5_6, List.forall_mem_cons.mpr ⟨ly_X5_7, List.forall_mem_cons.mpr ⟨ly_X5_8, List.forall_mem_cons.mpr ⟨ly_X5_9, List.forall_mem_cons.mpr ⟨ly_X5_10, List.forall_mem_cons.mpr ⟨ly_X5_11, List.forall_mem_cons.mpr ⟨ly_X5_12, fun _ h => absurd h List.not_mem_nil⟩⟩⟩⟩⟩⟩⟩⟩⟩⟩⟩⟩⟩
theorem ly_X6_0 : u_lay RX6 TX6 0 ∈ lwA := tm_1 _ (List.mem_of_getElem? (i := 73) rfl) rfl
theorem ly_X6_1 : u_lay RX6 TX6 1 ∈ lwA := tm_1 _ (List.mem_of_getElem? (i := 75) rfl) rfl
theorem ly_X6_2 : u_lay RX6 TX6 2 ∈ lwA := tm_1 _ (List.mem_of_getElem? (i := 77) rfl) rfl
set_option maxRecDepth 20000 in
theorem ly_X6 : ∀ w ∈ u_ws RX6 TX6 3, w ∈ lwA := by
  show ∀ w ∈ [u_lay RX6 TX6 0, u_lay RX6 TX6 1, u_lay RX6 TX6 2], w ∈ lwA
  exact List.forall_mem_cons.mpr ⟨ly_X6_0, List.forall_mem_cons.mpr ⟨ly_X6_1, List.forall_mem_cons.mpr ⟨ly_X6_2, fun _ h => absurd h List.not_mem_nil⟩⟩⟩
theorem ly_X7_0 : u_lay RX7 TX7 0 ∈ lwA := tm_2 _ (List.mem_of_getElem? (i := 77) rfl) rfl
theorem ly_X7_1 : u_lay RX7 TX7 1 ∈ lwA := tm_2 _ (List.mem_of_getElem? (i := 79) rfl) rfl
theorem ly_X7_2 : u_lay RX7 TX7 2 ∈ lwA := tm_2 _ (List.mem_of_getElem? (i := 81) rfl) rfl
theorem ly_X7_3 : u_lay RX7 TX7 3 ∈ lwA := tm_2 _ (List.mem_of_getElem? (i := 83) rfl) rfl
theorem ly_X7_4 : u_lay RX7 TX7 4 ∈ lwA := tm_2 _ (List.mem_of_getElem? (i := 85) rfl) rfl
set_option maxRecDepth 20000 in
theorem ly_X7 : ∀ w ∈ u_ws RX7 TX7 5, w ∈ lwA := by
  show ∀ w ∈ [u_lay RX7 TX7 0, u_lay RX7 TX7 1, u_lay RX7 TX7 2, u_lay RX7 TX7 3, u_lay RX7 TX7 4], w ∈ lwA
  exact List.forall_mem_cons.mpr ⟨ly_X7_0, List.forall_mem_cons.mpr ⟨ly_X7_1, List.forall_mem_cons.mpr ⟨ly_X7_2, List.forall_mem_cons.mpr ⟨ly_X7_3, List.forall_mem_cons.mpr ⟨ly_X7_4, fun _ h => absurd h List.not_mem_nil⟩⟩⟩⟩⟩
theorem ly_X8_0 : u_lay RX8 TX8 0 ∈ lwA := tm_1 _ (List.mem_of_getElem? (i := 167) rfl) rfl
theorem ly_X8_1 : u_lay RX8 TX8 1 ∈ lwA := tm_1 _ (List.mem_of_getElem? (i := 169) rfl) rfl
theorem ly_X8_2 : u_lay RX8 TX8 2 ∈ lwA := tm_1 _ (List.mem_of_getElem? (i := 171) rfl) rfl
theorem ly_X8_3 : u_lay RX8 TX8 3 ∈ lwA := tm_1 _ (List.mem_of_getElem? (i := 173) rfl) rfl
theorem ly_X8_4 : u_lay RX8 TX8 4 ∈ lwA := tm_1 _ (List.mem_of_getElem? (i := 175) rfl) rfl
theorem ly_X8_5 : u_lay RX8 TX8 5 ∈ lwA := tm_1 _ (List.mem_of_getElem? (i := 177) rfl) rfl
theorem ly_X8_6 : u_lay RX8 TX8 6 ∈ lwA := tm_1 _ (List.mem_of_getElem? (i := 179) rfl) rfl
theorem ly_X8_7 : u_lay RX8 TX8 7 ∈ lwA := tm_1 _ (List.mem_of_getElem? (i := 181) rfl) rfl
theorem ly_X8_8 : u_lay RX8 TX8 8 ∈ lwA := tm_1 _ (List.mem_of_getElem? (i := 183) rfl) rfl
theorem ly_X8_9 : u_lay RX8 TX8 9 ∈ lwA := tm_1 _ (List.mem_of_getElem? (i := 185) rfl) rfl
set_option maxRecDepth 20000 in
theorem ly_X8 : ∀ w ∈ u_ws RX8 TX8 10, w ∈ lwA := by
  show ∀ w ∈ [u_lay RX8 TX8 0, u_lay RX8 TX8 1, u_lay RX8 TX8 2, u_lay RX8 TX8 3, u_lay RX8 TX8 4, u_lay RX8 TX8 5, u_lay RX8 TX8 6, u_lay RX8 TX8 7, u_lay RX8 TX8 8, u_lay RX8 TX8 9], w ∈ lwA
  exact List.forall_mem_cons.mpr ⟨ly_X8_0, List.forall_mem_cons.mpr ⟨ly_X8_1, List.forall_mem_cons.mpr ⟨ly_X8_2, List.forall_mem_cons.mpr ⟨ly_X8_3, List.forall_mem_cons.mpr ⟨ly_X8_4, List.forall_mem_cons.mpr ⟨ly_X8_5, List.forall_mem_cons.mpr ⟨ly_X8_6, List.forall_mem_cons.mpr ⟨ly_X8_7, List.forall_mem_cons.mpr ⟨ly_X8_8, List.forall_mem_cons.mpr ⟨ly_X8_9, fun _ h => absurd h List.not_mem_nil⟩⟩⟩⟩⟩⟩⟩⟩⟩⟩
theorem ly_X9_0 : u_lay RX9 TX9 0 ∈ lwA := tm_1 _ (List.mem_of_getElem? (i := 223) rfl) rfl
theorem ly_X9_1 : u_lay RX9 TX9 1 ∈ lwA := tm_1 _ (List.mem_of_getElem? (i := 225) rfl) rfl
theorem ly_X9_2 : u_lay RX9 TX9 2 ∈ lwA := tm_1 _ (List.mem_of_getElem? (i := 227) rfl) rfl
set_option maxRecDepth 20000 in
theorem ly_X9 : ∀ w ∈ u_ws RX9 TX9 3, w ∈ lwA := by
  show ∀ w ∈ [u_lay RX9 TX9 0, u_lay RX9 TX9 1, u_lay RX9 TX9 2], w ∈ lwA
  exact List.forall_mem_cons.mpr ⟨ly_X9_0, List.forall_mem_cons.mpr ⟨ly_X9_1, List.forall_mem_cons.mpr ⟨ly_X9_2, fun _ h => absurd h List.not_mem_nil⟩⟩⟩
theorem ly_X10_0 : u_lay RX10 TX10 0 ∈ lwA := tm_2 _ (List.mem_of_getElem? (i := 5) rfl) rfl
theorem ly_X10_1 : u_lay RX10 TX10 1 ∈ lwA := tm_2 _ (List.mem_of_getElem? (i := 7) rfl) rfl
theorem ly_X10_2 : u_lay RX10 TX10 2 ∈ lwA := tm_2 _ (List.mem_of_getElem? (i := 9) rfl) rfl
theorem ly_X10_3 : u_lay RX10 TX10 3 ∈ lwA := tm_2 _ (List.mem_of_getElem? (i := 11) rfl) rfl
theorem ly_X10_4 : u_lay RX10 TX10 4 ∈ lwA := tm_2 _ (List.mem_of_getElem? (i := 13) rfl) rfl
theorem ly_X10_5 : u_lay RX10 TX10 5 ∈ lwA := tm_2 _ (List.mem_of_getElem? (i := 15) rfl) rfl
theorem ly_X10_6 : u_lay RX10 TX10 6 ∈ lwA := tm_2 _ (List.mem_of_getElem? (i := 17) rfl) rfl
theorem ly_X10_7 : u_lay RX10 TX10 7 ∈ lwA := tm_2 _ (List.mem_of_getElem? (i := 19) rfl) rfl
theorem ly_X10_8 : u_lay RX10 TX10 8 ∈ lwA := tm_2 _ (List.mem_of_getElem? (i := 21) rfl) rfl
theorem ly_X10_9 : u_lay RX10 TX10 9 ∈ lwA := tm_2 _ (List.mem_of_getElem? (i := 23) rfl) rfl
theorem ly_X10_10 : u_lay RX10 TX10 10 ∈ lwA := tm_2 _ (List.mem_of_getElem? (i := 25) rfl) rfl
theorem ly_X10_11 : u_lay RX10 TX10 11 ∈ lwA := tm_2 _ (List.mem_of_getElem? (i := 27) rfl) rfl
theorem ly_X10_12 : u_lay RX10 TX10 12 ∈ lwA := tm_2 _ (List.mem_of_getElem? (i := 29) rfl) rfl
theorem ly_X10_13 : u_lay RX10 TX10 13 ∈ lwA := tm_2 _ (List.mem_of_getElem? (i := 31) rfl) rfl
theorem ly_X10_14 : u_lay RX10 TX10 14 ∈ lwA := tm_2 _ (List.mem_of_getElem? (i := 33) rfl) rfl
set_option maxRecDepth 20000 in
theorem ly_X10 : ∀ w ∈ u_ws RX10 TX10 15, w ∈ lwA := by
  show ∀ w ∈ [u_lay RX10 TX10 0, u_lay RX10 TX10 1, u_lay RX10 TX10 2, u_lay RX10 TX10 3, u_lay RX10 TX10 4, u_lay RX10 TX10 5, u_lay RX10 TX10 6, u_lay RX10 TX10 7, u_lay RX10 TX10 8, u_lay RX10 TX10 9, u_lay RX10 TX10 10, u_lay RX10 TX10 11, u_lay RX10 TX10 12, u_lay RX10 TX10 13, u_lay RX10 TX10 14], w ∈ lwA
  exact List.forall_mem_cons.mpr ⟨ly_X10_0, List.forall_mem_cons.mpr ⟨ly_X10_1, List.forall_mem_cons.mpr ⟨ly_X10_2, List.forall_mem_cons.mpr ⟨ly_X10_3, List.forall_mem_cons.mpr ⟨ly_X10_4, List.forall_mem_cons.mpr ⟨ly_X10_5, List.forall_mem_cons.mpr ⟨ly_X10_6, List.forall_mem_cons.mpr ⟨ly_X10_7, List.forall_mem_cons.mpr ⟨ly_X10_8, List.forall_mem_cons.mpr ⟨ly_X10_9, List.forall_mem_cons.mpr ⟨ly_X10_10, List.forall_mem_cons.mpr ⟨ly_X10_11, List.forall_mem_cons.mpr ⟨ly_X10_12, List.forall_mem_cons.mpr ⟨ly_X10_13, List.forall_mem_cons.mpr ⟨ly_X10_14, fun _ h => absurd h List.not_mem_nil⟩⟩⟩⟩⟩⟩⟩⟩⟩⟩⟩⟩⟩⟩⟩
theorem ly_X11_0 : u_lay RX11 TX11 0 ∈ lwA := tm_6 _ (List.mem_of_getElem? (i := 35) rfl) rfl
theorem ly_X11_1 : u_lay RX11 TX11 1 ∈ lwA := tm_6 _ (List.mem_of_getElem? (i := 37) rfl) rfl
theorem ly_X11_2 : u_lay RX11 TX11 2 ∈ lwA := tm_6 _ (List.mem_of_getElem? (i := 39) rfl) rfl
theorem ly_X11_3 : u_lay RX11 TX11 3 ∈ lwA := tm_6 _ (List.mem_of_getElem? (i := 41) rfl) rfl
theorem ly_X11_4 : u_lay RX11 TX11 4 ∈ lwA := tm_6 _ (List.mem_of_getElem? (i := 43) rfl) rfl
theorem ly_X11_5 : u_lay RX11 TX11 5 ∈ lwA := tm_6 _ (List.mem_of_getElem? (i := 45) rfl) rfl
theorem ly_X11_6 : u_lay RX11 TX11 6 ∈ lwA := tm_6 _ (List.mem_of_getElem? (i := 47) rfl) rfl
theorem ly_X11_7 : u_lay RX11 TX11 7 ∈ lwA := tm_6 _ (List.mem_of_getElem? (i := 49) rfl) rfl
theorem ly_X11_8 : u_lay RX11 TX11 8 ∈ lwA := tm_6 _ (List.mem_of_getElem? (i := 51) rfl) rfl
theorem ly_X11_9 : u_lay RX11 TX11 9 ∈ lwA := tm_6 _ (List.mem_of_getElem? (i := 53) rfl) rfl
theorem ly_X11_10 : u_lay RX11 TX11 10 ∈ lwA := tm_6 _ (List.mem_of_getElem? (i := 55) rfl) rfl
theorem ly_X11_11 : u_lay RX11 TX11 11 ∈ lwA := tm_6 _ (List.mem_of_getElem? (i := 57) rfl) rfl
theorem ly_X11_12 : u_lay RX11 TX11 12 ∈ lwA := tm_6 _ (List.mem_of_getElem? (i := 59) rfl) rfl
theorem ly_X11_13 : u_lay RX11 TX11 13 ∈ lwA := tm_6 _ (List.mem_of_getElem? (i := 61) rfl) rfl
theorem ly_X11_14 : u_lay RX11 TX11 14 ∈ lwA := tm_6 _ (List.mem_of_getElem? (i := 63) rfl) rfl
theorem ly_X11_15 : u_lay RX11 TX11 15 ∈ lwA := tm_6 _ (List.mem_of_getElem? (i := 65) rfl) rfl
theorem ly_X11_16 : u_lay RX11 TX11 16 ∈ lwA := tm_6 _ (List.mem_of_getElem? (i := 67) rfl) rfl
theorem ly_X11_17 : u_lay RX11 TX11 17 ∈ lwA := tm_6 _ (List.mem_of_getElem? (i := 69) rfl) rfl
theorem ly_X11_18 : u_lay RX11 TX11 18 ∈ lwA := tm_6 _ (List.mem_of_getElem? (i := 71) rfl) rfl
theorem ly_X11_19 : u_lay RX11 TX11 19 ∈ lwA := tm_6 _ (List.mem_of_getElem? (i := 73) rfl) rfl
theorem ly_X11_20 : u_lay RX11 TX11 20 ∈ lwA := tm_6 _ (List.mem_of_getElem? (i := 75) rfl) rfl
theorem ly_X11_21 : u_lay RX11 TX11 21 ∈ lwA := tm_6 _ (List.mem_of_getElem? (i := 77) rfl) rfl
theorem ly_X11_22 : u_lay RX11 TX11 22 ∈ lwA := tm_6 _ (List.mem_of_getElem? (i := 79) rfl) rfl
theorem ly_X11_23 : u_lay RX11 TX11 23 ∈ lwA := tm_6 _ (List.mem_of_getElem? (i := 81) rfl) rfl
theorem ly_X11_24 : u_lay RX11 TX11 24 ∈ lwA := tm_6 _ (List.mem_of_getElem? (i := 83) rfl) rfl
theorem ly_X11_25 : u_lay RX11 TX11 25 ∈ lwA := tm_6 _ (List.mem_of_getElem? (i := 85) rfl) rfl
theorem ly_X11_26 : u_lay RX11 TX11 26 ∈ lwA := tm_6 _ (List.mem_of_getElem? (i := 87) rfl) rfl
theorem ly_X11_27 : u_lay RX11 TX11 27 ∈ lwA := tm_6 _ (List.mem_of_getElem? (i := 89) rfl) rfl
theorem ly_X11_28 : u_lay RX11 TX11 28 ∈ lwA := tm_6 _ (List.mem_of_getElem? (i := 91) rfl) rfl
theorem ly_X11_29 : u_lay RX11 TX11 29 ∈ lwA := tm_6 _ (List.mem_of_getElem? (i := 93) rfl) rfl
theorem ly_X11_30 : u_lay RX11 TX11 30 ∈ lwA := tm_6 _ (List.mem_of_getElem? (i := 95) rfl) rfl
theorem ly_X11_31 : u_lay RX11 TX11 31 ∈ lwA := tm_6 _ (List.mem_of_getElem? (i := 97) rfl) rfl
theorem ly_X11_32 : u_lay RX11 TX11 32 ∈ lwA := tm_6 _ (List.mem_of_getElem? (i := 99) rfl) rfl
theorem ly_X11_33 : u_lay RX11 TX11 33 ∈ lwA := tm_6 _ (List.mem_of_getElem? (i := 101) rfl) rfl
theorem ly_X11_34 : u_lay RX11 TX11 34 ∈ lwA := tm_6 _ (List.mem_of_getElem? (i := 103) rfl) rfl
theorem ly_X11_35 : u_lay RX11 TX11 35 ∈ lwA := tm_6 _ (List.mem_of_getElem? (i := 105) rfl) rfl
theorem ly_X11_36 : u_lay RX11 TX11 36 ∈ lwA := tm_6 _ (List.mem_of_getElem? (i := 107) rfl) rfl
theorem ly_X11_37 : u_lay RX11 TX11 37 ∈ lwA := tm_6 _ (List.mem_of_getElem? (i := 109) rfl) rfl
theorem ly_X11_38 : u_lay RX11 TX11 38 ∈ lwA := tm_6 _ (List.mem_of_getElem? (i := 111) rfl) rfl
theorem ly_X11_39 : u_lay RX11 TX11 39 ∈ lwA := tm_6 _ (List.mem_of_getElem? (i := 113) rfl) rfl
theorem ly_X11_40 : u_lay RX11 TX11 40 ∈ lwA := tm_6 _ (List.mem_of_getElem? (i := 115) rfl) rfl
theorem ly_X11_41 : u_lay RX11 TX11 41 ∈ lwA := tm_6 _ (List.mem_of_getElem? (i := 117) rfl) rfl
theorem ly_X11_42 : u_lay RX11 TX11 42 ∈ lwA := tm_6 _ (List.mem_of_getElem? (i := 119) rfl) rfl
theorem ly_X11_43 : u_lay RX11 TX11 43 ∈ lwA := tm_6 _ (List.mem_of_getElem? (i := 121) rfl) rfl
theorem ly_X11_44 : u_lay RX11 TX11 44 ∈ lwA := tm_6 _ (List.mem_of_getElem? (i := 123) rfl) rfl
theorem ly_X11_45 : u_lay RX11 TX11 45 ∈ lwA := tm_6 _ (List.mem_of_getElem? (i := 125) rfl) rfl
theorem ly_X11_46 : u_lay RX11 TX11 46 ∈ lwA := tm_6 _ (List.mem_of_getElem? (i := 127) rfl) rfl
theorem ly_X11_47 : u_lay RX11 TX11 47 ∈ lwA := tm_6 _ (List.mem_of_getElem? (i := 129) rfl) rfl
theorem ly_X11_48 : u_lay RX11 TX11 48 ∈ lwA := tm_6 _ (List.mem_of_getElem? (i := 131) rfl) rfl
theorem ly_X11_49 : u_lay RX11 TX11 49 ∈ lwA := tm_6 _ (List.mem_of_getElem? (i := 133) rfl) rfl
theorem ly_X11_50 : u_lay RX11 TX11 50 ∈ lwA := tm_6 _ (List.mem_of_getElem? (i := 135) rfl) rfl
theorem ly_X11_51 : u_lay RX11 TX11 51 ∈ lwA := tm_6 _ (List.mem_of_getElem? (i := 137) rfl) rfl
theorem ly_X11_52 : u_lay RX11 TX11 52 ∈ lwA := tm_6 _ (List.mem_of_getElem? (i := 139) rfl) rfl
theorem ly_X11_53 : u_lay RX11 TX11 53 ∈ lwA := tm_6 _ (List.mem_of_getElem? (i := 141) rfl) rfl
theorem ly_X11_54 : u_lay RX11 TX11 54 ∈ lwA := tm_6 _ (List.mem_of_getElem? (i := 143) rfl) rfl
theorem ly_X11_55 : u_lay RX11 TX11 55 ∈ lwA := tm_6 _ (List.mem_of_getElem? (i := 145) rfl) rfl
theorem ly_X11_56 : u_lay RX11 TX11 56 ∈ lwA := tm_6 _ (List.mem_of_getElem? (i := 147) rfl) rfl
theorem ly_X11_57 : u_lay RX11 TX11 57 ∈ lwA := tm_6 _ (List.mem_of_getElem? (i := 149) rfl) rfl
theorem ly_X11_58 : u_lay RX11 TX11 58 ∈ lwA := tm_6 _ (List.mem_of_getElem? (i := 151) rfl) rfl
theorem ly_X11_59 : u_lay RX11 TX11 59 ∈ lwA := tm_6 _ (List.mem_of_getElem? (i := 153) rfl) rfl
theorem ly_X11_60 : u_lay RX11 TX11 60 ∈ lwA := tm_6 _ (List.mem_of_getElem? (i := 155) rfl) rfl
theorem ly_X11_61 : u_lay RX11 TX11 61 ∈ lwA := tm_6 _ (List.mem_of_getElem? (i := 157) rfl) rfl
theorem ly_X11_62 : u_lay RX11 TX11 62 ∈ lwA := tm_6 _ (List.mem_of_getElem? (i := 159) rfl) rfl
theorem ly_X11_63 : u_lay RX11 TX11 63 ∈ lwA := tm_6 _ (List.mem_of_getElem? (i := 161) rfl) rfl
theorem ly_X11_64 : u_lay RX11 TX11 64 ∈ lwA := tm_6 _ (List.mem_of_getElem? (i := 163) rfl) rfl
theorem ly_X11_65 : u_lay RX11 TX11 65 ∈ lwA := tm_6 _ (List.mem_of_getElem? (i := 165) rfl) rfl
theorem ly_X11_66 : u_lay RX11 TX11 66 ∈ lwA := tm_6 _ (List.mem_of_getElem? (i := 167) rfl) rfl
theorem ly_X11_67 : u_lay RX11 TX11 67 ∈ lwA := tm_6 _ (List.mem_of_getElem? (i := 169) rfl) rfl
theorem ly_X11_68 : u_lay RX11 TX11 68 ∈ lwA := tm_6 _ (List.mem_of_getElem? (i := 171) rfl) rfl
set_option maxRecDepth 20000 in
theorem ly_X11 : ∀ w ∈ u_ws RX11 TX11 69, w ∈ lwA := by
  show ∀ w ∈ [u_lay RX11 TX11 0, u_lay RX11 TX11 1, u_lay RX11 TX11 2, u_lay RX11 TX11 3, u_lay RX11 TX11 4, u_lay RX11 TX11 5, u_lay RX11 TX11 6, u_lay RX11 TX11 7, u_lay RX11 TX11 8, u_lay RX11 TX11 9, u_lay RX11 TX11 10, u_lay RX11 TX11 11, u_lay RX11 TX11 12, u_lay RX11 TX11 13, u_lay RX11 TX11 14, u_lay RX11 TX11 15, u_lay RX11 TX11 16, u_lay RX11 TX11 17, u_lay RX11 TX11 18, u_lay RX11 TX11 19, u_lay RX11 TX11 20, u_lay RX11 TX11 21, u_lay RX11 TX11 22, u_lay RX11 TX11 23, u_lay RX11 TX11 24, u_lay RX11 TX11 25, u_lay RX11 TX11 26, u_lay RX11 TX11 27, u_lay RX11 TX11 28, u_lay RX11 TX11 29, u_lay RX11 TX11 30, u_lay RX11 TX11 31, u_lay RX11 TX11 32, u_lay RX11 TX11 33, u_lay RX11 TX11 34, u_lay RX11 TX11 35, u_lay RX11 TX11 36, u_lay RX11 TX11 37, u_lay RX11 TX11 38, u_lay RX11 TX11 39, u_lay RX11 TX11 40, u_lay RX11 TX11 41, u_lay RX11 TX11 42, u_lay RX11 TX11 43, u_lay RX11 TX11 44, u_lay RX11 TX11 45, u_lay RX11 TX11 46, u_lay RX11 TX11 47, u_lay RX11 TX11 48, u_lay RX11 TX11 49, u_lay RX11 TX11 50, u_lay RX11 TX11 51, u_lay RX11 TX11 52, u_lay RX11 TX11 53, u_lay RX11 TX11 54, u_lay RX11 TX11 55, u_lay RX11 TX11 56, u_lay RX11 TX11 57, u_lay RX11 TX11 58, u_lay RX11 TX11 59, u_lay RX11 TX11 60, u_lay RX11 TX11 61, u_lay RX11 TX11 62, u_lay RX11 TX11 63, u_lay RX11 TX11 64, u_lay RX11 TX11 65, u_lay RX11 TX11 66, u_lay RX11 TX11 67, u_lay RX11 TX11 68], w ∈ lwA
  exact List.forall_mem_cons.mpr ⟨ly_X11_0, List.forall_mem_cons.mpr ⟨ly_X11_1, List.forall_mem_cons.mpr ⟨ly_X11_2, List.forall_mem_cons.mpr ⟨ly_X11_3, List.forall_mem_cons.mpr ⟨ly_X11_4, List.forall_mem_cons.mpr ⟨ly_X11_5, List.forall_mem_cons.mpr ⟨ly_X11_6, List.forall_mem_cons.mpr ⟨ly_X11_7, List.forall_mem_cons.mpr ⟨ly_X11_8, List.forall_mem_cons.mpr ⟨ly_X11_9, List.forall_mem_cons.mpr ⟨ly_X11_10, List.forall_mem_cons.mpr ⟨ly_X11_11, List.forall_mem_cons.mpr ⟨ly_X11_12, List.forall_mem_cons.mpr ⟨ly_X11_13, List.forall_mem_cons.mpr ⟨ly_X11_14, List.forall_mem_cons.mpr ⟨ly_X11_15, List.forall_mem_cons.mpr ⟨ly_X11_16, List.forall_mem_cons.mpr ⟨ly_X11_17, List.forall_mem_cons.mpr ⟨ly_X11_18, List.forall_mem_cons.mpr ⟨ly_X11_19, List.forall_mem_cons.mpr ⟨ly_X11_20, List.forall_mem_cons.mpr ⟨ly_X11_21, List.forall_mem_cons.mpr ⟨ly_X11_22, List.forall_mem_cons.mpr ⟨ly_X11_23, List.forall_mem_cons.mpr ⟨ly_X11_24, List.forall_mem_cons.mpr ⟨ly_X11_25, List.forall_mem_cons.mpr ⟨ly_X11_26, List.forall_mem_cons.mpr ⟨ly_X11_27, List.forall_mem_cons.mpr ⟨ly_X11_28, List.forall_mem_cons.mpr ⟨ly_X11_29, List.forall_mem_cons.mpr ⟨ly_X11_30, List.forall_mem_cons.mpr ⟨ly_X11_31, List.forall_mem_cons.mpr ⟨ly_X11_32, List.forall_mem_cons.mpr ⟨ly_X11_33, List.forall_mem_cons.mpr ⟨ly_X11_34, List.forall_mem_cons.mpr ⟨ly_X11_35, List.forall_mem_cons.mpr ⟨ly_X11_36, List.forall_mem_cons.mpr ⟨ly_X11_37, List.forall_mem_cons.mpr ⟨ly_X11_38, List.forall_mem_cons.mpr ⟨ly_X11_39, List.forall_mem_cons.mpr ⟨ly_X11_40, List.forall_mem_cons.mpr ⟨ly_X11_41, List.forall_mem_cons.mpr ⟨ly_X11_42, List.forall_mem_cons.mpr ⟨ly_X11_43, List.forall_mem_cons.mpr ⟨ly_X11_44, List.forall_mem_cons.mpr ⟨ly_X11_45, List.forall_mem_cons.mpr ⟨ly_X11_46, List.forall_mem_cons.mpr ⟨ly_X11_47, List.forall_mem_cons.mpr ⟨ly_X11_48, List.forall_mem_cons.mpr ⟨ly_X11_49, List.forall_mem_cons.mpr ⟨ly_X11_50, List.forall_mem_cons.mpr ⟨ly_X11_51, List.forall_mem_cons.mpr ⟨ly_X11_52, List.forall_mem_cons.mpr ⟨ly_X11_53, List.forall_mem_cons.mpr ⟨ly_X11_54, List.forall_mem_cons.mpr ⟨ly_X11_55, List.forall_mem_cons.mpr ⟨ly_X11_56, List.forall_mem_cons.mpr ⟨ly_X11_57, List.forall_mem_cons.mpr ⟨ly_X11_58, List.forall_mem_cons.mpr ⟨ly_X11_59, List.forall_mem_cons.mpr ⟨ly_X11_60, List.forall_mem_cons.mpr ⟨ly_X11_61, List.forall_mem_cons.mpr ⟨ly_X11_62, List.forall_mem_cons.mpr ⟨ly_X11_63, List.forall_mem_cons.mpr ⟨ly_X11_64, List.forall_mem_cons.mpr ⟨ly_X11_65, List.forall_mem_cons.mpr ⟨ly_X11_66, List.forall_mem_cons.mpr ⟨ly_X11_67, List.forall_mem_cons.mpr ⟨ly_X11_68, fun _ h => absurd h List.not_mem_nil⟩⟩⟩⟩⟩⟩⟩⟩⟩⟩⟩⟩⟩⟩⟩⟩⟩⟩⟩⟩⟩⟩⟩⟩⟩⟩⟩⟩⟩⟩⟩⟩⟩⟩⟩⟩⟩⟩⟩⟩⟩⟩⟩⟩⟩⟩⟩⟩⟩⟩⟩⟩⟩⟩⟩⟩⟩⟩⟩⟩⟩⟩⟩⟩⟩⟩⟩⟩⟩
def tyK (ty : FieldType) (k : Nat) : Bool := match ty with
  | .int => k == 0
  | .long => k == 1
  | .object _ => k == 2
  | .array _ => k == 2
  | .boolean => k == 3
  | _ => false
/-- a class's fields: their types by sort, their names apart, its words in the tables -/
def clOk (ci : Nat) (r : vw_C) : Prop := ∃ ty0 : Nat → FieldType, (∀ k, k < r.2.2 → parseFieldDescriptor (r.2.1 k).2.2.1 = some (ty0 k)) ∧ (∀ a, a < r.2.2 → ∀ b, b < r.2.2 → a ≠ b → (r.2.1 a).2.1 ≠ (r.2.1 b).2.1) ∧ (∀ w ∈ u_ws r.1 r.2.1 r.2.2, w ∈ lwA) ∧ r.2.2 = fnum ci ∧ ∀ k, k < r.2.2 → tyK (ty0 k) (ftc ci k) = true
theorem clOk_0 : clOk 0 (RJx4a65c, TJx4a65c, 3) := ⟨tyJx4a65c, tyJx4a65c_ok, nmJx4a65c, ly_Jx4a65c, rfl, by decide +kernel⟩
theorem clOk_1 : clOk 1 (RX0, TX0, 5) := ⟨tyX0, tyX0_ok, nmX0, ly_X0, rfl, by decide +kernel⟩
theorem clOk_2 : clOk 2 (RX1, TX1, 6) := ⟨tyX1, tyX1_ok, nmX1, ly_X1, rfl, by decide +kernel⟩
theorem clOk_3 : clOk 3 (RX2, TX2, 4) := ⟨tyX2, tyX2_ok, nmX2, ly_X2, rfl, by decide +kernel⟩
theorem clOk_4 : clOk 4 (RX3, TX3, 2) := ⟨tyX3, tyX3_ok, nmX3, ly_X3, rfl, by decide +kernel⟩
theorem clOk_5 : clOk 5 (RX4, TX4, 11) := ⟨tyX4, tyX4_ok, nmX4, ly_X4, rfl, by decide +kernel⟩
theorem clOk_6 : clOk 6 (RX5, TX5, 13) := ⟨tyX5, tyX5_ok, nmX5, ly_X5, rfl, by decide +kernel⟩
theorem clOk_7 : clOk 7 (RX6, TX6, 3) := ⟨tyX6, tyX6_ok, nmX6, ly_X6, rfl, by decide +kernel⟩
theorem clOk_8 : clOk 8 (RX7, TX7, 5) := ⟨tyX7, tyX7_ok, nmX7, ly_X7, rfl, by decide +kernel⟩
theorem clOk_9 : clOk 9 (RX8, TX8, 10) := ⟨tyX8, tyX8_ok, nmX8, ly_X8, rfl, by decide +kernel⟩
theorem clOk_10 : clOk 10 (RX9, TX9, 3) := ⟨tyX9, tyX9_ok, nmX9, ly_X9, rfl, by decide +kernel⟩
theorem clOk_11 : clOk 11 (RX10, TX10, 15) := ⟨tyX10, tyX10_ok, nmX10, ly_X10, rfl, by decide +kernel⟩
theorem clOk_12 : clOk 12 (RX11, TX11, 69) := ⟨tyX11, tyX11_ok, nmX11, ly_X11, rfl, by decide +kernel⟩
theorem clOk_all {ci : Nat} {r : vw_C} (h : vwCl[ci]? = some r) : clOk ci r := by
  match ci, h with
  | 0, h => cases h; exact clOk_0
  | 1, h => cases h; exact clOk_1
  | 2, h => cases h; exact clOk_2
  | 3, h => cases h; exact clOk_3
  | 4, h => cases h; exact clOk_4
  | 5, h => cases h; exact clOk_5
  | 6, h => cases h; exact clOk_6
  | 7, h => cases h; exact clOk_7
  | 8, h => cases h; exact clOk_8
  | 9, h => cases h; exact clOk_9
  | 10, h => cases h; exact clOk_10
  | 11, h => cases h; exact clOk_11
  | 12, h => cases h; exact clOk_12
  | k + 13, h => simp [vwCl] at h
/-! ===== the heap's cells ===== -/
theorem wsX_at {L : List XO} {ad : XO → Nat} {cy : XO → ClassId} {σ : XH} {o : XO} (h : o ∈ L) : ∃ q0 : Nat, L[q0]? = some o ∧ (wsX L ad cy σ)[q0]? = some (ad o, celX ad cy σ o) := by
  obtain ⟨i, hi⟩ := List.getElem?_of_mem h
  exact ⟨i, hi, by simp [wsX, hi]⟩
theorem wsX_set {L : List XO} {ad : XO → Nat} {cy : XO → ClassId} {σ σ' : XH} {o : XO} {q0 : Nat} (hnd : L.Nodup) (hq : L[q0]? = some o) (h : ∀ o' ∈ L, o' ≠ o → celX ad cy σ' o' = celX ad cy σ o') : (wsX L ad cy σ).set q0 (ad o, celX ad cy σ' o) = wsX L ad cy σ' := by
  refine List.ext_getElem? fun k => ?_
  unfold wsX
  by_cases e : q0 = k
  · subst e
    have hlt : q0 < L.length := (List.getElem?_eq_some_iff.mp hq).1
    simp [List.getElem?_set, hlt, List.getElem?_map, hq]
    have := (List.getElem?_eq_some_iff.mp hq).2
    simp [this]
  · rw [List.getElem?_set_ne e, List.getElem?_map, List.getElem?_map]
    cases hk : L[k]? with
    | none => rfl
    | some o' =>
      have hne : o' ≠ o := fun z => e (by
        subst z
        have h1 := (List.getElem?_eq_some_iff.mp hq)
        have h2 := (List.getElem?_eq_some_iff.mp hk)
        exact (List.getElem_inj hnd).mp (h1.2.trans h2.2.symm))
      have hm : o' ∈ L := List.mem_of_getElem? hk
      simp only [Option.map_some]
      rw [h o' hm hne]
/-- σ' is σ but at o -/
def offO (σ σ' : XH) (o : XO) : Prop := hc σ' = hc σ ∧ hn σ' = hn σ ∧ ∀ s i, (s, i) ≠ o → hi σ' s i = hi σ s i ∧ hl σ' s i = hl σ s i ∧ hr σ' s i = hr σ s i
theorem up3_off {α : Type} (f : Nat → Nat → Nat → α) (s i k : Nat) (x : α) {s' i' : Nat} (h : (s', i') ≠ (s, i)) : up3 f s i k x s' i' = f s' i' := by
  funext k'
  unfold up3
  rw [if_neg]
  rintro ⟨rfl, rfl, -⟩
  exact h rfl
theorem offO_I (σ : XH) (s i k : Nat) (x : Int32) : offO σ (wI σ s i k x) (s, i) := ⟨rfl, rfl, fun _ _ h => ⟨up3_off _ _ _ _ _ h, rfl, rfl⟩⟩
theorem offO_L (σ : XH) (s i k : Nat) (x : Int64) : offO σ (wL σ s i k x) (s, i) := ⟨rfl, rfl, fun _ _ h => ⟨rfl, up3_off _ _ _ _ _ h, rfl⟩⟩
theorem offO_R (σ : XH) (s i k : Nat) (x : Option XO) : offO σ (wR σ s i k x) (s, i) := ⟨rfl, rfl, fun _ _ h => ⟨rfl, rfl, up3_off _ _ _ _ _ h⟩⟩
theorem celX_off {ad : XO → Nat} {cy : XO → ClassId} {σ σ' : XH} {o o' : XO} (h : offO σ σ' o) (hne : o' ≠ o) : celX ad cy σ' o' = celX ad cy σ o' := by
  obtain ⟨-, h2, h3⟩ := h
  obtain ⟨e1, e2, e3⟩ := h3 o'.1 o'.2 hne
  unfold celX flds fvX
  simp only [e1, e2, e3, h2]
theorem XRep.upd {D : va_G} {n0 : Nat} {L : List XO} {ad : XO → Nat} {σ σ' : XH} {U : State} {H1 : Heap} {o : XO} {cy : XO → ClassId} {q0 : Nat}
    (h1 : ∀ o, o ∈ L ↔ o.2 < hc σ o.1) (h2 : L.Nodup) (h3 : ∀ s, 500 ≤ s → hc σ s = 0) (h6 : va_K D vwCl [] U) (h7 : ∀ o ∈ L, 13 ≤ o.1 → ArrOfT U (cy o) (tyA o.1) ∧ va_RA U (cy o) (tyA o.1))
    (h8 : ∀ s i k, s < 500 → hc σ s ≤ i → hi σ s i k = 0 ∧ hl σ s i k = 0 ∧ hr σ s i k = none) (h9 : ∀ s i k r, hr σ s i k = some r → XLive σ r)
    (ho : o.2 < hc σ o.1) (hoff : offO σ σ' o) (hlive : ∀ k r, hr σ' o.1 o.2 k = some r → XLive σ r) (hq : L[q0]? = some o)
    (hP1 : va_P D vwCl ((wsX L ad cy σ).set q0 (ad o, celX ad cy σ' o)) H1) (hD1 : va_D (fun q => n0 ≤ q) ((wsX L ad cy σ).set q0 (ad o, celX ad cy σ' o))) : XRep D n0 L ad σ' U H1 := by
  rw [wsX_set h2 hq (fun o' _ hne => celX_off hoff hne)] at hP1 hD1
  obtain ⟨e1, e2, e3⟩ := id hoff
  refine ⟨cy, by rw [e1]; exact h1, h2, by rw [e1]; exact h3, hP1, hD1, h6, h7, fun s i k hs hle => ?_, fun s i k r hr2 => ?_⟩
  · rw [e1] at hle
    have hne : (s, i) ≠ o := fun z => by
      subst z
      dsimp only at ho
      omega
    obtain ⟨g1, g2, g3⟩ := e3 s i hne
    rw [g1, g2, g3]
    exact h8 s i k hs hle
  · have key : XLive σ r := by
      by_cases z : (s, i) = o
      · subst z
        exact hlive k r hr2
      · rw [(e3 s i z).2.2] at hr2
        exact h9 s i k r hr2
    unfold XLive at key ⊢
    rw [e1]
    exact key
theorem XExt.off {σ0 σ σ' : XH} {L0 L : List XO} {ad0 ad : XO → Nat} {o : XO} (h : XExt σ0 L0 ad0 σ L ad) (hoff : offO σ σ' o) (ho : o.1 < 500) : XExt σ0 L0 ad0 σ' L ad := by
  refine h.trans ⟨fun _ h => ⟨h, rfl⟩, fun _ _ => rfl, fun s hs => ?_, fun s => by rw [hoff.1]; exact Nat.le_refl _⟩
  have hne : ∀ i, (s, i) ≠ o := fun i z => by
    subst z
    dsimp only at ho
    omega
  exact ⟨by rw [hoff.2.1], funext fun i => (hoff.2.2 s i (hne i)).1, funext fun i => (hoff.2.2 s i (hne i)).2.2⟩
theorem XVok.off {σ σ' : XH} {o : XO} (hoff : offO σ σ' o) {v : XV} (h : XVok σ v) : XVok σ' v := fun q e => by
  have k := h q e
  unfold XLive at k ⊢
  rw [hoff.1]
  exact k
theorem XLoc.off {ad : XO → Nat} {σ σ' : XH} {o : XO} (hoff : offO σ σ' o) {lsR : Array Slot} {nL : Nat} {ls : List XV} (h : XLoc ad σ lsR nL ls) : XLoc ad σ' lsR nL ls := ⟨h.1, h.2.1, fun k v hk hv => ⟨(h.2.2 k v hk hv).1, (h.2.2 k v hk hv).2.off hoff⟩⟩
theorem live_dyn {D : va_G} {n0 : Nat} {L : List XO} {ad : XO → Nat} {σ : XH} {U : State} {H : Heap} (_h : XRep D n0 L ad σ U H) {o : XO} (ho : XLive σ o) (h5 : o.1 < 500) : o.2 < hc σ o.1 := by
  rcases ho with z | z
  · exact z
  · omega
def fvV (σ : XH) (s i k : Nat) : XV := if ftc s k = 1 then vL (hl σ s i k) else if ftc s k = 2 then vR (hr σ s i k) else vI (hi σ s i k)
theorem fvV_ok (ad : XO → Nat) (σ : XH) (s i k : Nat) : trv ad (fvV σ s i k) = fvX ad σ s i k := by
  unfold fvV fvX
  split
  · rfl
  · split <;> rfl
theorem flds_at (ad : XO → Nat) (σ : XH) {s i k : Nat} (h : k < fnum s) : (flds ad σ s i)[k]? = some (fvX ad σ s i k) := by
  unfold flds
  rw [List.getElem?_map, List.getElem?_range h]
  rfl
theorem celX_obj {ad : XO → Nat} {cy : XO → ClassId} {σ : XH} {s i : Nat} (h : s < 13) : celX ad cy σ (s, i) = .inr (s, flds ad σ s i) := by
  unfold celX
  rw [if_pos h]
theorem cls_lt {ci : Nat} {r : vw_C} (h : vwCl[ci]? = some r) : ci < 13 := (List.getElem?_eq_some_iff.mp h).1
theorem r_getfield {d rc rs y pc : Nat} {ls st : List XV} {σ : XH} {Q : XV → XH → Prop} {ci i k idx : Nat} {ref : String} {r : vw_C} (hd : decode (mC y) pc = .ok (.getfield idx, 3)) (hcl : vwCl[ci]? = some r) (hk : k < r.2.2) (hw : Cond.fieldLink (mY y).cls idx ref (r.2.1 k).2.1 (r.2.1 k).2.2.1 ∈ lwA) (hs : ref = (r.2.1 k).1 ∨ Cond.sameField ref (r.2.1 k).1 (r.2.1 k).2.1 (r.2.1 k).2.2.1 ∈ lwA)
    (h : Ex d rc rs y (pc + 3) ls (fvV σ ci i k :: st) σ Q) : Ex d rc rs y pc ls (vR (some (ci, i)) :: st) σ Q := by
  intro p l e R s m args below meth c H locs cells slots D n0 σ0 L0 ad0 L ad lsR C hL hst
  have hx := C.1.1
  have hb := C.1.2.1
  obtain ⟨⟨-, -, -, -, hown, -, -, hts⟩, -, hP, -⟩ := id C
  have h13 := cls_lt hcl
  have hlv := live_dyn hP (okh hst (ci, i) rfl) (by show ci < 500; omega)
  obtain ⟨cy, h1, h2, h3, h4, h5, h6, h7, h8, h9⟩ := hP
  obtain ⟨ty0, -, -, kin, kN, -⟩ := clOk_all hcl
  obtain ⟨q0, hq, hw2⟩ := wsX_at (ad := ad) (cy := cy) (σ := σ) ((h1 (ci, i)).mpr hlv)
  rw [celX_obj h13] at hw2
  have hv : XVok σ (fvV σ ci i k) := by
    unfold fvV
    split
    · exact XVok_L _ _
    · split
      · exact XVok_R fun o ho => h9 _ _ _ _ ho
      · exact XVok_I _ _
  refine va_get (D := D) (cl := vwCl) (ws := wsX L ad cy σ) (C := r.1) (T := r.2.1) (N := r.2.2) hx hb hts kin hown h6 h4 q0 hw2 hcl k hk (hts _ hw) (fun x hxx => ?_) (flds_at ad σ (by rw [← kN]; exact hk)) hd ?_
  · rcases hs with hs | hs
    · rw [hs]; exact hxx
    · exact u_same (hts _ hs) x hxx
  · rw [← fvV_ok]
    exact h _ C hL (ok1 hv (okt hst))
/-- a value goes into a field: its sort fits -/
def putV (σ : XH) (s i k : Nat) (v : XV) : XH := match v with
  | Sum.inl x => wI σ s i k x
  | Sum.inr (Sum.inl x) => wL σ s i k x
  | Sum.inr (Sum.inr (Sum.inl r)) => wR σ s i k r
  | Sum.inr (Sum.inr (Sum.inr _)) => σ
def putOk (t : Nat) (v : XV) : Prop := match v with
  | Sum.inl x => t = 0 ∨ t = 3 ∧ (x = 0 ∨ x = 1)
  | Sum.inr (Sum.inl _) => t = 1
  | Sum.inr (Sum.inr (Sum.inl _)) => t = 2
  | Sum.inr (Sum.inr (Sum.inr _)) => False
theorem up3_at {α : Type} (f : Nat → Nat → Nat → α) (s i k : Nat) (x : α) (j : Nat) : up3 f s i k x s i j = if j = k then x else f s i j := by
  unfold up3
  simp
theorem fvX_ne (ad : XO → Nat) (σ : XH) (s i : Nat) (v : XV) {j k : Nat} (h : ¬ j = k) : fvX ad (putV σ s i k v) s i j = fvX ad σ s i j := by
  match v with
  | Sum.inl x => simp only [fvX, putV, hi, hl, hr, wI, up3_at, if_neg h]
  | Sum.inr (Sum.inl x) => simp only [fvX, putV, hi, hl, hr, wL, up3_at, if_neg h]
  | Sum.inr (Sum.inr (Sum.inl r)) => simp only [fvX, putV, hi, hl, hr, wR, up3_at, if_neg h]
  | Sum.inr (Sum.inr (Sum.inr _)) => rfl
theorem flds_set (ad : XO → Nat) (σ : XH) {s i k : Nat} {v : XV} (_h : k < fnum s) (hok : putOk (ftc s k) v) : (flds ad σ s i).set k (trv ad v) = flds ad (putV σ s i k v) s i := by
  refine List.ext_getElem? fun j => ?_
  unfold flds
  by_cases e : k = j
  · subst e
    rw [List.getElem?_set]
    simp only [List.length_map, List.length_range, if_true]
    rw [List.getElem?_map, List.getElem?_range _h, if_pos _h]
    simp only [Option.map_some]
    congr 1
    match v, hok with
    | Sum.inl x, hok =>
      have e0 : ¬ ftc s k = 1 := by rcases hok with q | q <;> omega
      have e2 : ¬ ftc s k = 2 := by rcases hok with q | q <;> omega
      simp only [fvX, if_neg e0, if_neg e2, putV, hi, wI, up3_at, if_true]
      rfl
    | Sum.inr (Sum.inl x), hok =>
      have e0 : ftc s k = 1 := hok
      simp only [fvX, if_pos e0, putV, hl, wL, up3_at, if_true]
      rfl
    | Sum.inr (Sum.inr (Sum.inl r)), hok =>
      have e0 : ftc s k = 2 := hok
      have e1 : ¬ ftc s k = 1 := by omega
      simp only [fvX, if_neg e1, if_pos e0, putV, hr, wR, up3_at, if_true]
      rfl
  · rw [List.getElem?_set_ne e, List.getElem?_map, List.getElem?_map]
    have e' : ¬ j = k := fun z => e z.symm
    cases hj : (List.range (fnum s))[j]? with
    | none => rfl
    | some j2 =>
      have ej : j2 = j := by
        have h1 := (List.getElem?_eq_some_iff.mp hj)
        rw [← h1.2]
        simp
      subst ej
      simp only [Option.map_some]
      rw [fvX_ne ad σ s i v e']

