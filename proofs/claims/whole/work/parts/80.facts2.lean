theorem ci_RX1_3 : x_I0 RX1 3 yX4_init cX4_init 6 5 := ⟨w_484, w_422, w_16, w_423, rfl, by decide +kernel⟩
theorem ci_RX2_3 : x_I0 RX2 3 yX4_init cX4_init 6 5 := ⟨w_469, w_422, w_16, w_423, rfl, by decide +kernel⟩
theorem ci_RX3_3 : x_I0 RX3 3 yX4_init cX4_init 6 5 := ⟨w_421, w_422, w_16, w_423, rfl, by decide +kernel⟩
theorem ci_RX4_3 : x_I0 RX4 3 yX0_init cX0_init 3 2 := ⟨w_424, w_425, w_15, w_426, rfl, by decide +kernel⟩
theorem ci_RX5_3 : x_I0 RX5 3 yX4_init cX4_init 6 5 := ⟨w_500, w_422, w_16, w_423, rfl, by decide +kernel⟩
theorem ci_RX8_3 : x_I0 RX8 3 yX0_init cX0_init 3 2 := ⟨w_531, w_425, w_15, w_426, rfl, by decide +kernel⟩
theorem nw_RX10_15 : x_N RX10 15 0 [.int (nI 0), .null, .int (nI 0)] 3 := ⟨_, _, tyJx4a65c, rfl, ui_0, w_33, w_34, w_4, tyJx4a65c_ok, fun j hj => by rcases (show j = 0 ∨ j = 1 ∨ j = 2 by omega) with rfl | rfl | rfl <;> rfl⟩
theorem ci_RX10_17 : x_I0 RX10 17 yJx4a65c_init_da8c8 cJx4a65c_init_da8c8 1 0 := ⟨w_35, w_36, w_4, w_37, rfl, by decide +kernel⟩
theorem nw_RX10_25 : x_N RX10 25 6 [.int (nI 0), .int (nI 0), .null, .null, .null, .null, .null, .null, .int (nI 0), .long (lN 0)] 10 := ⟨_, _, tyX7, rfl, ui_6, w_59, w_60, w_5, tyX7_ok, fun j hj => by rcases (show j = 0 ∨ j = 1 ∨ j = 2 ∨ j = 3 ∨ j = 4 ∨ j = 5 ∨ j = 6 ∨ j = 7 ∨ j = 8 ∨ j = 9 by omega) with rfl | rfl | rfl | rfl | rfl | rfl | rfl | rfl | rfl | rfl <;> rfl⟩
theorem nw_RX10_9 : x_N RX10 9 8 [.int (nI 0), .int (nI 0), .int (nI 0), .int (nI 0), .int (nI 0), .int (nI 0), .null, .null, .null, .null] 10 := ⟨_, _, tyX9, rfl, ui_8, w_31, w_119, w_7, tyX9_ok, fun j hj => by rcases (show j = 0 ∨ j = 1 ∨ j = 2 ∨ j = 3 ∨ j = 4 ∨ j = 5 ∨ j = 6 ∨ j = 7 ∨ j = 8 ∨ j = 9 by omega) with rfl | rfl | rfl | rfl | rfl | rfl | rfl | rfl | rfl | rfl <;> rfl⟩
theorem ci_RX10_36 : x_I0 RX10 36 yX9_init cX9_init 4 3 := ⟨w_120, w_121, w_7, w_122, rfl, by decide +kernel⟩
theorem nw_RX10_86 : x_N RX10 86 5 [.null, .int (nI 0), .int (nI 0), .int (nI 0), .int (nI 0), .null, .null] 7 := ⟨_, _, tyX6, rfl, ui_5, w_284, w_285, w_9, tyX6_ok, fun j hj => by rcases (show j = 0 ∨ j = 1 ∨ j = 2 ∨ j = 3 ∨ j = 4 ∨ j = 5 ∨ j = 6 by omega) with rfl | rfl | rfl | rfl | rfl | rfl | rfl <;> rfl⟩
theorem ci_RX10_88 : x_I0 RX10 88 yX6_init cX6_init 5 4 := ⟨w_286, w_287, w_9, w_288, rfl, by decide +kernel⟩
theorem nw_RX10_124 : x_N RX10 124 3 [.int (nI 0), .null, .int (nI 0), .null, .int (nI 0)] 5 := ⟨_, _, tyX3, rfl, ui_3, w_416, w_417, w_17, tyX3_ok, fun j hj => by rcases (show j = 0 ∨ j = 1 ∨ j = 2 ∨ j = 3 ∨ j = 4 by omega) with rfl | rfl | rfl | rfl | rfl <;> rfl⟩
theorem ci_RX10_126 : x_I0 RX10 126 yX3_init cX3_init 5 4 := ⟨w_418, w_419, w_17, w_420, rfl, by decide +kernel⟩
theorem nw_RX10_131 : x_N RX10 131 2 [.int (nI 0), .null, .int (nI 0), .null, .int (nI 0), .int (nI 0)] 6 := ⟨_, _, tyX2, rfl, ui_2, w_464, w_465, w_18, tyX2_ok, fun j hj => by rcases (show j = 0 ∨ j = 1 ∨ j = 2 ∨ j = 3 ∨ j = 4 ∨ j = 5 by omega) with rfl | rfl | rfl | rfl | rfl | rfl <;> rfl⟩
theorem ci_RX10_133 : x_I0 RX10 133 yX2_init cX2_init 6 5 := ⟨w_466, w_467, w_18, w_468, rfl, by decide +kernel⟩
theorem nw_RX10_136 : x_N RX10 136 1 [.int (nI 0), .null, .int (nI 0), .null, .int (nI 0)] 5 := ⟨_, _, tyX1, rfl, ui_1, w_479, w_480, w_19, tyX1_ok, fun j hj => by rcases (show j = 0 ∨ j = 1 ∨ j = 2 ∨ j = 3 ∨ j = 4 by omega) with rfl | rfl | rfl | rfl | rfl <;> rfl⟩
theorem ci_RX10_138 : x_I0 RX10 138 yX1_init cX1_init 5 4 := ⟨w_481, w_482, w_19, w_483, rfl, by decide +kernel⟩
theorem nw_RX10_139 : x_N RX10 139 4 [.int (nI 0), .null, .int (nI 0), .null, .int (nI 0), .int (nI 0), .int (nI 0), .int (nI 0)] 8 := ⟨_, _, tyX5, rfl, ui_4, w_495, w_496, w_20, tyX5_ok, fun j hj => by rcases (show j = 0 ∨ j = 1 ∨ j = 2 ∨ j = 3 ∨ j = 4 ∨ j = 5 ∨ j = 6 ∨ j = 7 by omega) with rfl | rfl | rfl | rfl | rfl | rfl | rfl | rfl <;> rfl⟩
theorem ci_RX10_141 : x_I0 RX10 141 yX5_init cX5_init 7 6 := ⟨w_497, w_498, w_20, w_499, rfl, by decide +kernel⟩
theorem nw_RX10_149 : x_N RX10 149 7 [.int (nI 0), .null, .int (nI 0), .int (nI 0), .int (nI 0)] 5 := ⟨_, _, tyX8, rfl, ui_7, w_526, w_527, w_22, tyX8_ok, fun j hj => by rcases (show j = 0 ∨ j = 1 ∨ j = 2 ∨ j = 3 ∨ j = 4 by omega) with rfl | rfl | rfl | rfl | rfl <;> rfl⟩
theorem ci_RX10_151 : x_I0 RX10 151 yX8_init cX8_init 4 3 := ⟨w_528, w_529, w_22, w_530, rfl, by decide +kernel⟩
theorem ci_RJxc12de_1 : x_I0 RJxc12de 1 yJxa1e45_init_da8c8 cJxa1e45_init_da8c8 1 0 := ⟨w_41, w_42, w_2, w_43, rfl, by decide +kernel⟩
theorem ci_RJx4a65c_1 : x_I0 RJx4a65c 1 yJxc12de_init_da8c8 cJxc12de_init_da8c8 1 0 := ⟨w_38, w_39, w_3, w_40, rfl, by decide +kernel⟩
theorem nw_RL_7 : x_N RL 7 9 [.null, .null, .null, .null] 4 := ⟨_, _, tyX10, rfl, ui_9, w_23, w_24, w_1, tyX10_ok, fun j hj => by rcases (show j = 0 ∨ j = 1 ∨ j = 2 ∨ j = 3 by omega) with rfl | rfl | rfl | rfl <;> rfl⟩
theorem ci_RL_9 : x_I0 RL 9 yX10_init cX10_init 1 0 := ⟨w_25, w_26, w_1, w_27, rfl, by decide +kernel⟩
theorem nw_RL_10 : x_N RL 10 10 [.null, .null, .null, .null, .null, .null, .null, .null, .null, .int (nI 0), .null, .null, .null, .null, .null, .null, .null, .int (nI 0), .int (nI 0), .null, .null, .null, .null, .null, .null, .null, .null, .null, .null] 29 := ⟨_, _, tyX11, rfl, ui_10, w_866, w_867, w_6, tyX11_ok, fun j hj => by rcases (show j = 0 ∨ j = 1 ∨ j = 2 ∨ j = 3 ∨ j = 4 ∨ j = 5 ∨ j = 6 ∨ j = 7 ∨ j = 8 ∨ j = 9 ∨ j = 10 ∨ j = 11 ∨ j = 12 ∨ j = 13 ∨ j = 14 ∨ j = 15 ∨ j = 16 ∨ j = 17 ∨ j = 18 ∨ j = 19 ∨ j = 20 ∨ j = 21 ∨ j = 22 ∨ j = 23 ∨ j = 24 ∨ j = 25 ∨ j = 26 ∨ j = 27 ∨ j = 28 by omega) with rfl | rfl | rfl | rfl | rfl | rfl | rfl | rfl | rfl | rfl | rfl | rfl | rfl | rfl | rfl | rfl | rfl | rfl | rfl | rfl | rfl | rfl | rfl | rfl | rfl | rfl | rfl | rfl | rfl <;> rfl⟩
theorem ci_RL_12 : x_I0 RL 12 yX11_init cX11_init 1 0 := ⟨w_868, w_869, w_6, w_870, rfl, by decide +kernel⟩
