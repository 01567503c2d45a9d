theorem p_RX0_7_1 : x_P RX0 7 1 2 true .int := ⟨_, _, _, "IndexDesk$Aid", tyX1, rfl, by decide, ui_1, w_433, Or.inl rfl, tyX1_ok, nmX1, rfl, by decide +kernel, fun _ => rfl⟩
theorem p_RX0_7_2 : x_P RX0 7 2 2 true .int := ⟨_, _, _, "IndexDesk$Aid", tyX2, rfl, by decide, ui_2, w_433, Or.inl rfl, tyX2_ok, nmX2, rfl, by decide +kernel, fun _ => rfl⟩
theorem p_RX0_7_3 : x_P RX0 7 3 2 true .int := ⟨_, _, _, "IndexDesk$Aid", tyX3, rfl, by decide, ui_3, w_433, Or.inl rfl, tyX3_ok, nmX3, rfl, by decide +kernel, fun _ => rfl⟩
theorem p_RX0_7_4 : x_P RX0 7 4 2 true .int := ⟨_, _, _, "IndexDesk$Aid", tyX5, rfl, by decide, ui_4, w_433, Or.inl rfl, tyX5_ok, nmX5, rfl, by decide +kernel, fun _ => rfl⟩
theorem p_RX0_7_7 : x_P RX0 7 7 0 true .int := ⟨_, _, _, "IndexDesk$Aid", tyX8, rfl, by decide, ui_7, w_433, Or.inl rfl, tyX8_ok, nmX8, rfl, by decide +kernel, fun _ => rfl⟩
theorem p_RX0_13_1 : x_P RX0 13 1 3 true (.object "IndexDesk$Table") := ⟨_, _, _, "IndexDesk$Aid", tyX1, rfl, by decide, ui_1, w_435, Or.inl rfl, tyX1_ok, nmX1, rfl, by decide +kernel, fun _ => rfl⟩
theorem p_RX0_13_2 : x_P RX0 13 2 3 true (.object "IndexDesk$Table") := ⟨_, _, _, "IndexDesk$Aid", tyX2, rfl, by decide, ui_2, w_435, Or.inl rfl, tyX2_ok, nmX2, rfl, by decide +kernel, fun _ => rfl⟩
theorem p_RX0_13_3 : x_P RX0 13 3 3 true (.object "IndexDesk$Table") := ⟨_, _, _, "IndexDesk$Aid", tyX3, rfl, by decide, ui_3, w_435, Or.inl rfl, tyX3_ok, nmX3, rfl, by decide +kernel, fun _ => rfl⟩
theorem p_RX0_13_4 : x_P RX0 13 4 3 true (.object "IndexDesk$Table") := ⟨_, _, _, "IndexDesk$Aid", tyX5, rfl, by decide, ui_4, w_435, Or.inl rfl, tyX5_ok, nmX5, rfl, by decide +kernel, fun _ => rfl⟩
theorem p_RX0_13_7 : x_P RX0 13 7 1 true (.object "IndexDesk$Table") := ⟨_, _, _, "IndexDesk$Aid", tyX8, rfl, by decide, ui_7, w_435, Or.inl rfl, tyX8_ok, nmX8, rfl, by decide +kernel, fun _ => rfl⟩
theorem p_RX2_15_2 : x_P RX2 15 2 5 true .int := ⟨_, _, _, "IndexDesk$Covering", tyX2, rfl, by decide, ui_2, w_470, Or.inl rfl, tyX2_ok, nmX2, rfl, by decide +kernel, fun _ => rfl⟩
theorem p_RX4_13_1 : x_P RX4 13 1 0 true .int := ⟨_, _, _, "IndexDesk$Ordered", tyX1, rfl, by decide, ui_1, w_431, Or.inl rfl, tyX1_ok, nmX1, rfl, by decide +kernel, fun _ => rfl⟩
theorem p_RX4_13_2 : x_P RX4 13 2 0 true .int := ⟨_, _, _, "IndexDesk$Ordered", tyX2, rfl, by decide, ui_2, w_431, Or.inl rfl, tyX2_ok, nmX2, rfl, by decide +kernel, fun _ => rfl⟩
theorem p_RX4_13_3 : x_P RX4 13 3 0 true .int := ⟨_, _, _, "IndexDesk$Ordered", tyX3, rfl, by decide, ui_3, w_431, Or.inl rfl, tyX3_ok, nmX3, rfl, by decide +kernel, fun _ => rfl⟩
theorem p_RX4_13_4 : x_P RX4 13 4 0 true .int := ⟨_, _, _, "IndexDesk$Ordered", tyX5, rfl, by decide, ui_4, w_431, Or.inl rfl, tyX5_ok, nmX5, rfl, by decide +kernel, fun _ => rfl⟩
theorem p_RX4_19_1 : x_P RX4 19 1 1 true (.array .int) := ⟨_, _, _, "IndexDesk$Ordered", tyX1, rfl, by decide, ui_1, w_432, Or.inl rfl, tyX1_ok, nmX1, rfl, by decide +kernel, fun _ => rfl⟩
theorem p_RX4_19_2 : x_P RX4 19 2 1 true (.array .int) := ⟨_, _, _, "IndexDesk$Ordered", tyX2, rfl, by decide, ui_2, w_432, Or.inl rfl, tyX2_ok, nmX2, rfl, by decide +kernel, fun _ => rfl⟩
theorem p_RX4_19_3 : x_P RX4 19 3 1 true (.array .int) := ⟨_, _, _, "IndexDesk$Ordered", tyX3, rfl, by decide, ui_3, w_432, Or.inl rfl, tyX3_ok, nmX3, rfl, by decide +kernel, fun _ => rfl⟩
theorem p_RX4_19_4 : x_P RX4 19 4 1 true (.array .int) := ⟨_, _, _, "IndexDesk$Ordered", tyX5, rfl, by decide, ui_4, w_432, Or.inl rfl, tyX5_ok, nmX5, rfl, by decide +kernel, fun _ => rfl⟩
theorem p_RX5_9_4 : x_P RX5 9 4 5 true .int := ⟨_, _, _, "IndexDesk$Part", tyX5, rfl, by decide, ui_4, w_501, Or.inl rfl, tyX5_ok, nmX5, rfl, by decide +kernel, fun _ => rfl⟩
theorem p_RX5_15_4 : x_P RX5 15 4 6 true .int := ⟨_, _, _, "IndexDesk$Part", tyX5, rfl, by decide, ui_4, w_502, Or.inl rfl, tyX5_ok, nmX5, rfl, by decide +kernel, fun _ => rfl⟩
theorem p_RX5_18_4 : x_P RX5 18 4 7 true .int := ⟨_, _, _, "IndexDesk$Part", tyX5, rfl, by decide, ui_4, w_503, Or.inl rfl, tyX5_ok, nmX5, rfl, by decide +kernel, fun _ => rfl⟩
theorem p_RX6_9_5 : x_P RX6 9 5 5 true (.array .int) := ⟨_, _, _, "IndexDesk$Question", tyX6, rfl, by decide, ui_5, w_301, Or.inl rfl, tyX6_ok, nmX6, rfl, by decide +kernel, fun _ => rfl⟩
theorem p_RX6_15_5 : x_P RX6 15 5 6 true (.array .int) := ⟨_, _, _, "IndexDesk$Question", tyX6, rfl, by decide, ui_5, w_302, Or.inl rfl, tyX6_ok, nmX6, rfl, by decide +kernel, fun _ => rfl⟩
theorem p_RX6_18_5 : x_P RX6 18 5 0 true (.object "IndexDesk$Table") := ⟨_, _, _, "IndexDesk$Question", tyX6, rfl, by decide, ui_5, w_290, Or.inl rfl, tyX6_ok, nmX6, rfl, by decide +kernel, fun _ => rfl⟩
theorem p_RX6_22_5 : x_P RX6 22 5 1 true .int := ⟨_, _, _, "IndexDesk$Question", tyX6, rfl, by decide, ui_5, w_293, Or.inl rfl, tyX6_ok, nmX6, rfl, by decide +kernel, fun _ => rfl⟩
theorem p_RX6_26_5 : x_P RX6 26 5 2 true .int := ⟨_, _, _, "IndexDesk$Question", tyX6, rfl, by decide, ui_5, w_295, Or.inl rfl, tyX6_ok, nmX6, rfl, by decide +kernel, fun _ => rfl⟩
theorem p_RX6_29_5 : x_P RX6 29 5 3 true .int := ⟨_, _, _, "IndexDesk$Question", tyX6, rfl, by decide, ui_5, w_297, Or.inl rfl, tyX6_ok, nmX6, rfl, by decide +kernel, fun _ => rfl⟩
theorem p_RX6_36_5 : x_P RX6 36 5 4 false .int := ⟨_, _, _, "IndexDesk$Question", tyX6, rfl, by decide, ui_5, w_299, Or.inl rfl, tyX6_ok, nmX6, rfl, by decide +kernel, fun q => by cases q⟩
theorem p_RX7_9_6 : x_P RX7 9 6 2 true (.array .int) := ⟨_, _, _, "IndexDesk$Scales", tyX7, rfl, by decide, ui_6, w_69, Or.inl rfl, tyX7_ok, nmX7, rfl, by decide +kernel, fun _ => rfl⟩
theorem p_RX7_17_6 : x_P RX7 17 6 3 true (.array (.array .int)) := ⟨_, _, _, "IndexDesk$Scales", tyX7, rfl, by decide, ui_6, w_70, Or.inl rfl, tyX7_ok, nmX7, rfl, by decide +kernel, fun _ => rfl⟩
theorem p_RX7_20_6 : x_P RX7 20 6 4 true (.array .int) := ⟨_, _, _, "IndexDesk$Scales", tyX7, rfl, by decide, ui_6, w_71, Or.inl rfl, tyX7_ok, nmX7, rfl, by decide +kernel, fun _ => rfl⟩
theorem p_RX7_23_6 : x_P RX7 23 6 5 true (.array .int) := ⟨_, _, _, "IndexDesk$Scales", tyX7, rfl, by decide, ui_6, w_72, Or.inl rfl, tyX7_ok, nmX7, rfl, by decide +kernel, fun _ => rfl⟩
theorem p_RX7_26_6 : x_P RX7 26 6 6 true (.array .int) := ⟨_, _, _, "IndexDesk$Scales", tyX7, rfl, by decide, ui_6, w_73, Or.inl rfl, tyX7_ok, nmX7, rfl, by decide +kernel, fun _ => rfl⟩
theorem p_RX7_29_6 : x_P RX7 29 6 7 true (.array (.array .int)) := ⟨_, _, _, "IndexDesk$Scales", tyX7, rfl, by decide, ui_6, w_74, Or.inl rfl, tyX7_ok, nmX7, rfl, by decide +kernel, fun _ => rfl⟩
theorem p_RX7_44_6 : x_P RX7 44 6 0 false .int := ⟨_, _, _, "IndexDesk$Scales", tyX7, rfl, by decide, ui_6, w_67, Or.inl rfl, tyX7_ok, nmX7, rfl, by decide +kernel, fun q => by cases q⟩
theorem p_RX7_48_6 : x_P RX7 48 6 1 false .int := ⟨_, _, _, "IndexDesk$Scales", tyX7, rfl, by decide, ui_6, w_68, Or.inl rfl, tyX7_ok, nmX7, rfl, by decide +kernel, fun q => by cases q⟩
theorem p_RX7_112_6 : x_P RX7 112 6 8 false .int := ⟨_, _, _, "IndexDesk$Scales", tyX7, rfl, by decide, ui_6, w_75, Or.inl rfl, tyX7_ok, nmX7, rfl, by decide +kernel, fun q => by cases q⟩
theorem p_RX7_115_6 : x_P RX7 115 6 9 false .long := ⟨_, _, _, "IndexDesk$Scales", tyX7, rfl, by decide, ui_6, w_76, Or.inl rfl, tyX7_ok, nmX7, rfl, by decide +kernel, fun q => by cases q⟩
theorem p_RX8_9_7 : x_P RX8 9 7 3 true .int := ⟨_, _, _, "IndexDesk$Sums", tyX8, rfl, by decide, ui_7, w_532, Or.inl rfl, tyX8_ok, nmX8, rfl, by decide +kernel, fun _ => rfl⟩
theorem p_RX8_15_7 : x_P RX8 15 7 4 true .int := ⟨_, _, _, "IndexDesk$Sums", tyX8, rfl, by decide, ui_7, w_533, Or.inl rfl, tyX8_ok, nmX8, rfl, by decide +kernel, fun _ => rfl⟩
theorem p_RX9_9_8 : x_P RX9 9 8 6 true (.array .int) := ⟨_, _, _, "IndexDesk$Table", tyX9, rfl, by decide, ui_8, w_143, Or.inl rfl, tyX9_ok, nmX9, rfl, by decide +kernel, fun _ => rfl⟩
theorem p_RX9_15_8 : x_P RX9 15 8 7 true (.array .int) := ⟨_, _, _, "IndexDesk$Table", tyX9, rfl, by decide, ui_8, w_144, Or.inl rfl, tyX9_ok, nmX9, rfl, by decide +kernel, fun _ => rfl⟩
theorem p_RX9_18_8 : x_P RX9 18 8 8 true (.array .int) := ⟨_, _, _, "IndexDesk$Table", tyX9, rfl, by decide, ui_8, w_145, Or.inl rfl, tyX9_ok, nmX9, rfl, by decide +kernel, fun _ => rfl⟩
theorem p_RX9_21_8 : x_P RX9 21 8 9 true (.array .int) := ⟨_, _, _, "IndexDesk$Table", tyX9, rfl, by decide, ui_8, w_146, Or.inl rfl, tyX9_ok, nmX9, rfl, by decide +kernel, fun _ => rfl⟩
theorem p_RX9_24_8 : x_P RX9 24 8 0 true .int := ⟨_, _, _, "IndexDesk$Table", tyX9, rfl, by decide, ui_8, w_124, Or.inl rfl, tyX9_ok, nmX9, rfl, by decide +kernel, fun _ => rfl⟩
theorem p_RX9_28_8 : x_P RX9 28 8 1 true .int := ⟨_, _, _, "IndexDesk$Table", tyX9, rfl, by decide, ui_8, w_126, Or.inl rfl, tyX9_ok, nmX9, rfl, by decide +kernel, fun _ => rfl⟩
theorem p_RX9_31_8 : x_P RX9 31 8 2 true .int := ⟨_, _, _, "IndexDesk$Table", tyX9, rfl, by decide, ui_8, w_127, Or.inl rfl, tyX9_ok, nmX9, rfl, by decide +kernel, fun _ => rfl⟩
theorem p_RX9_46_8 : x_P RX9 46 8 3 false .int := ⟨_, _, _, "IndexDesk$Table", tyX9, rfl, by decide, ui_8, w_133, Or.inl rfl, tyX9_ok, nmX9, rfl, by decide +kernel, fun q => by cases q⟩
theorem p_RX9_63_8 : x_P RX9 63 8 5 false .int := ⟨_, _, _, "IndexDesk$Table", tyX9, rfl, by decide, ui_8, w_142, Or.inl rfl, tyX9_ok, nmX9, rfl, by decide +kernel, fun q => by cases q⟩
theorem p_RX10_11_9 : x_P RX10 11 9 0 true (.array (.object "IndexDesk$Table")) := ⟨_, _, _, "IndexDesk", tyX10, rfl, by decide, ui_9, w_99, Or.inl rfl, tyX10_ok, nmX10, rfl, by decide +kernel, fun _ => rfl⟩
theorem p_RX10_18_9 : x_P RX10 18 9 1 true (.object "java/util/ArrayList") := ⟨_, _, _, "IndexDesk", tyX10, rfl, by decide, ui_9, w_100, Or.inl rfl, tyX10_ok, nmX10, rfl, by decide +kernel, fun _ => rfl⟩
theorem p_RX10_22_9 : x_P RX10 22 9 2 true (.object "java/util/ArrayList") := ⟨_, _, _, "IndexDesk", tyX10, rfl, by decide, ui_9, w_101, Or.inl rfl, tyX10_ok, nmX10, rfl, by decide +kernel, fun _ => rfl⟩
theorem p_RX10_28_9 : x_P RX10 28 9 3 true (.object "IndexDesk$Scales") := ⟨_, _, _, "IndexDesk", tyX10, rfl, by decide, ui_9, w_102, Or.inl rfl, tyX10_ok, nmX10, rfl, by decide +kernel, fun _ => rfl⟩
theorem p_RX10_73_8 : x_P RX10 73 8 4 false .int := ⟨_, _, _, "IndexDesk$Table", tyX9, rfl, by decide, ui_8, w_137, Or.inl rfl, tyX9_ok, nmX9, rfl, by decide +kernel, fun q => by cases q⟩
theorem p_RX10_158_1 : x_P RX10 158 1 4 false .boolean := ⟨_, _, _, "IndexDesk$Aid", tyX1, rfl, by decide, ui_1, w_448, Or.inl rfl, tyX1_ok, nmX1, rfl, by decide +kernel, fun q => by cases q⟩
theorem p_RX10_158_2 : x_P RX10 158 2 4 false .boolean := ⟨_, _, _, "IndexDesk$Aid", tyX2, rfl, by decide, ui_2, w_448, Or.inl rfl, tyX2_ok, nmX2, rfl, by decide +kernel, fun q => by cases q⟩
theorem p_RX10_158_3 : x_P RX10 158 3 4 false .boolean := ⟨_, _, _, "IndexDesk$Aid", tyX3, rfl, by decide, ui_3, w_448, Or.inl rfl, tyX3_ok, nmX3, rfl, by decide +kernel, fun q => by cases q⟩
theorem p_RX10_158_4 : x_P RX10 158 4 4 false .boolean := ⟨_, _, _, "IndexDesk$Aid", tyX5, rfl, by decide, ui_4, w_448, Or.inl rfl, tyX5_ok, nmX5, rfl, by decide +kernel, fun q => by cases q⟩
theorem p_RX10_158_7 : x_P RX10 158 7 2 false .boolean := ⟨_, _, _, "IndexDesk$Aid", tyX8, rfl, by decide, ui_7, w_448, Or.inl rfl, tyX8_ok, nmX8, rfl, by decide +kernel, fun q => by cases q⟩
theorem p_RX11_7_10 : x_P RX11 7 10 0 true (.array .int) := ⟨_, _, _, "IndexDeskModel", tyX11, rfl, by decide, ui_10, w_872, Or.inl rfl, tyX11_ok, nmX11, rfl, by decide +kernel, fun _ => rfl⟩
theorem p_RX11_13_10 : x_P RX11 13 10 1 true (.array .int) := ⟨_, _, _, "IndexDeskModel", tyX11, rfl, by decide, ui_10, w_873, Or.inl rfl, tyX11_ok, nmX11, rfl, by decide +kernel, fun _ => rfl⟩
theorem p_RX11_16_10 : x_P RX11 16 10 2 true (.array .int) := ⟨_, _, _, "IndexDeskModel", tyX11, rfl, by decide, ui_10, w_874, Or.inl rfl, tyX11_ok, nmX11, rfl, by decide +kernel, fun _ => rfl⟩
theorem p_RX11_19_10 : x_P RX11 19 10 3 true (.array .int) := ⟨_, _, _, "IndexDeskModel", tyX11, rfl, by decide, ui_10, w_875, Or.inl rfl, tyX11_ok, nmX11, rfl, by decide +kernel, fun _ => rfl⟩
theorem p_RX11_22_10 : x_P RX11 22 10 4 true (.array .int) := ⟨_, _, _, "IndexDeskModel", tyX11, rfl, by decide, ui_10, w_876, Or.inl rfl, tyX11_ok, nmX11, rfl, by decide +kernel, fun _ => rfl⟩
theorem p_RX11_25_10 : x_P RX11 25 10 5 true (.array .int) := ⟨_, _, _, "IndexDeskModel", tyX11, rfl, by decide, ui_10, w_877, Or.inl rfl, tyX11_ok, nmX11, rfl, by decide +kernel, fun _ => rfl⟩
theorem p_RX11_28_10 : x_P RX11 28 10 6 true (.array .int) := ⟨_, _, _, "IndexDeskModel", tyX11, rfl, by decide, ui_10, w_878, Or.inl rfl, tyX11_ok, nmX11, rfl, by decide +kernel, fun _ => rfl⟩
theorem p_RX11_31_10 : x_P RX11 31 10 7 true (.array .int) := ⟨_, _, _, "IndexDeskModel", tyX11, rfl, by decide, ui_10, w_879, Or.inl rfl, tyX11_ok, nmX11, rfl, by decide +kernel, fun _ => rfl⟩
theorem p_RX11_34_10 : x_P RX11 34 10 8 true (.array .int) := ⟨_, _, _, "IndexDeskModel", tyX11, rfl, by decide, ui_10, w_880, Or.inl rfl, tyX11_ok, nmX11, rfl, by decide +kernel, fun _ => rfl⟩
theorem p_RX11_37_10 : x_P RX11 37 10 10 true (.array .int) := ⟨_, _, _, "IndexDeskModel", tyX11, rfl, by decide, ui_10, w_882, Or.inl rfl, tyX11_ok, nmX11, rfl, by decide +kernel, fun _ => rfl⟩
theorem p_RX11_40_10 : x_P RX11 40 10 11 true (.array .int) := ⟨_, _, _, "IndexDeskModel", tyX11, rfl, by decide, ui_10, w_883, Or.inl rfl, tyX11_ok, nmX11, rfl, by decide +kernel, fun _ => rfl⟩
theorem p_RX11_43_10 : x_P RX11 43 10 12 true (.array .int) := ⟨_, _, _, "IndexDeskModel", tyX11, rfl, by decide, ui_10, w_884, Or.inl rfl, tyX11_ok, nmX11, rfl, by decide +kernel, fun _ => rfl⟩
theorem p_RX11_46_10 : x_P RX11 46 10 13 true (.array .int) := ⟨_, _, _, "IndexDeskModel", tyX11, rfl, by decide, ui_10, w_885, Or.inl rfl, tyX11_ok, nmX11, rfl, by decide +kernel, fun _ => rfl⟩
theorem p_RX11_49_10 : x_P RX11 49 10 14 true (.array .boolean) := ⟨_, _, _, "IndexDeskModel", tyX11, rfl, by decide, ui_10, w_886, Or.inl rfl, tyX11_ok, nmX11, rfl, by decide +kernel, fun _ => rfl⟩
theorem p_RX11_53_10 : x_P RX11 53 10 15 true (.array .int) := ⟨_, _, _, "IndexDeskModel", tyX11, rfl, by decide, ui_10, w_887, Or.inl rfl, tyX11_ok, nmX11, rfl, by decide +kernel, fun _ => rfl⟩
theorem p_RX11_56_10 : x_P RX11 56 10 16 true (.array .int) := ⟨_, _, _, "IndexDeskModel", tyX11, rfl, by decide, ui_10, w_888, Or.inl rfl, tyX11_ok, nmX11, rfl, by decide +kernel, fun _ => rfl⟩
theorem p_RX11_59_10 : x_P RX11 59 10 19 true (.array .int) := ⟨_, _, _, "IndexDeskModel", tyX11, rfl, by decide, ui_10, w_891, Or.inl rfl, tyX11_ok, nmX11, rfl, by decide +kernel, fun _ => rfl⟩
theorem p_RX11_62_10 : x_P RX11 62 10 20 true (.array .int) := ⟨_, _, _, "IndexDeskModel", tyX11, rfl, by decide, ui_10, w_892, Or.inl rfl, tyX11_ok, nmX11, rfl, by decide +kernel, fun _ => rfl⟩
theorem p_RX11_65_10 : x_P RX11 65 10 21 true (.array .int) := ⟨_, _, _, "IndexDeskModel", tyX11, rfl, by decide, ui_10, w_893, Or.inl rfl, tyX11_ok, nmX11, rfl, by decide +kernel, fun _ => rfl⟩
theorem p_RX11_68_10 : x_P RX11 68 10 22 true (.array .int) := ⟨_, _, _, "IndexDeskModel", tyX11, rfl, by decide, ui_10, w_894, Or.inl rfl, tyX11_ok, nmX11, rfl, by decide +kernel, fun _ => rfl⟩
theorem p_RX11_71_10 : x_P RX11 71 10 23 true (.array .int) := ⟨_, _, _, "IndexDeskModel", tyX11, rfl, by decide, ui_10, w_895, Or.inl rfl, tyX11_ok, nmX11, rfl, by decide +kernel, fun _ => rfl⟩
theorem p_RX11_74_10 : x_P RX11 74 10 24 true (.array .int) := ⟨_, _, _, "IndexDeskModel", tyX11, rfl, by decide, ui_10, w_896, Or.inl rfl, tyX11_ok, nmX11, rfl, by decide +kernel, fun _ => rfl⟩
theorem p_RX11_77_10 : x_P RX11 77 10 25 true (.array .int) := ⟨_, _, _, "IndexDeskModel", tyX11, rfl, by decide, ui_10, w_897, Or.inl rfl, tyX11_ok, nmX11, rfl, by decide +kernel, fun _ => rfl⟩
theorem p_RX11_80_10 : x_P RX11 80 10 26 true (.array .int) := ⟨_, _, _, "IndexDeskModel", tyX11, rfl, by decide, ui_10, w_898, Or.inl rfl, tyX11_ok, nmX11, rfl, by decide +kernel, fun _ => rfl⟩
theorem p_RX11_83_10 : x_P RX11 83 10 27 true (.array .int) := ⟨_, _, _, "IndexDeskModel", tyX11, rfl, by decide, ui_10, w_899, Or.inl rfl, tyX11_ok, nmX11, rfl, by decide +kernel, fun _ => rfl⟩
theorem p_RX11_86_10 : x_P RX11 86 10 28 true (.array .int) := ⟨_, _, _, "IndexDeskModel", tyX11, rfl, by decide, ui_10, w_900, Or.inl rfl, tyX11_ok, nmX11, rfl, by decide +kernel, fun _ => rfl⟩
theorem p_RX11_116_10 : x_P RX11 116 10 9 false .int := ⟨_, _, _, "IndexDeskModel", tyX11, rfl, by decide, ui_10, w_881, Or.inl rfl, tyX11_ok, nmX11, rfl, by decide +kernel, fun q => by cases q⟩
theorem p_RX11_123_10 : x_P RX11 123 10 17 false .int := ⟨_, _, _, "IndexDeskModel", tyX11, rfl, by decide, ui_10, w_889, Or.inl rfl, tyX11_ok, nmX11, rfl, by decide +kernel, fun q => by cases q⟩
theorem p_RX11_140_10 : x_P RX11 140 10 18 false .int := ⟨_, _, _, "IndexDeskModel", tyX11, rfl, by decide, ui_10, w_890, Or.inl rfl, tyX11_ok, nmX11, rfl, by decide +kernel, fun q => by cases q⟩
theorem p_RJxc12de_7_0 : x_P RJxc12de 7 0 0 false .int := ⟨_, _, _, "java/util/AbstractList", tyJx4a65c, rfl, by decide, ui_0, w_49, Or.inl rfl, tyJx4a65c_ok, nmJx4a65c, rfl, by decide +kernel, fun q => by cases q⟩
theorem p_RJx4a65c_9_0 : x_P RJx4a65c 9 0 1 false (.array (.object "java/lang/Object")) := ⟨_, _, _, "java/util/ArrayList", tyJx4a65c, rfl, by decide, ui_0, w_47, Or.inl rfl, tyJx4a65c_ok, nmJx4a65c, rfl, by decide +kernel, fun q => by cases q⟩
theorem p_RJx4a65c_48_0 : x_P RJx4a65c 48 0 2 false .int := ⟨_, _, _, "java/util/ArrayList", tyJx4a65c, rfl, by decide, ui_0, w_48, Or.inl rfl, tyJx4a65c_ok, nmJx4a65c, rfl, by decide +kernel, fun q => by cases q⟩
theorem p_RJx4a65c_63_0 : x_P RJx4a65c 63 0 0 false .int := ⟨_, _, _, "java/util/ArrayList", tyJx4a65c, rfl, by decide, ui_0, w_50, Or.inr w_51, tyJx4a65c_ok, nmJx4a65c, rfl, by decide +kernel, fun q => by cases q⟩
