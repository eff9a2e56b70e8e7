theorem cd_0 : am_CD 0 := ⟨rfl, _, tyX0, rfl, tyX0_ok, nmX0, am_inW (List.forall_mem_cons.mpr ⟨tw_166, List.forall_mem_cons.mpr ⟨tw_168, List.forall_mem_cons.mpr ⟨tw_170, List.forall_mem_cons.mpr ⟨tw_172, List.forall_mem_cons.mpr ⟨tw_174, fun _ h => absurd h List.not_mem_nil⟩⟩⟩⟩⟩), by decide +kernel, tw_151, tw_90⟩
theorem cd_1 : am_CD 1 := ⟨rfl, _, tyX1, rfl, tyX1_ok, nmX1, am_inW (List.forall_mem_cons.mpr ⟨tw_262, List.forall_mem_cons.mpr ⟨tw_264, List.forall_mem_cons.mpr ⟨tw_266, List.forall_mem_cons.mpr ⟨tw_268, fun _ h => absurd h List.not_mem_nil⟩⟩⟩⟩), by decide +kernel, tw_136, tw_86⟩
theorem cd_2 : am_CD 2 := ⟨rfl, _, tyX2, rfl, tyX2_ok, nmX2, am_inW (List.forall_mem_cons.mpr ⟨tw_129, List.forall_mem_cons.mpr ⟨tw_131, fun _ h => absurd h List.not_mem_nil⟩⟩), by decide +kernel, tw_114, tw_85⟩
theorem cd_3 : am_CD 3 := ⟨rfl, _, tyX3, rfl, tyX3_ok, nmX3, am_inW (List.forall_mem_cons.mpr ⟨tw_252, List.forall_mem_cons.mpr ⟨tw_254, fun _ h => absurd h List.not_mem_nil⟩⟩), by decide +kernel, tw_242, tw_91⟩
theorem cd_4 : am_CD 4 := ⟨rfl, _, tyX4, rfl, tyX4_ok, nmX4, am_inW (List.forall_mem_cons.mpr ⟨tw_292, List.forall_mem_cons.mpr ⟨tw_294, List.forall_mem_cons.mpr ⟨tw_296, List.forall_mem_cons.mpr ⟨tw_298, List.forall_mem_cons.mpr ⟨tw_300, List.forall_mem_cons.mpr ⟨tw_302, List.forall_mem_cons.mpr ⟨tw_304, List.forall_mem_cons.mpr ⟨tw_306, List.forall_mem_cons.mpr ⟨tw_308, List.forall_mem_cons.mpr ⟨tw_310, List.forall_mem_cons.mpr ⟨tw_312, fun _ h => absurd h List.not_mem_nil⟩⟩⟩⟩⟩⟩⟩⟩⟩⟩⟩), by decide +kernel, tw_272, tw_92⟩
theorem cd_5 : am_CD 5 := ⟨rfl, _, tyX5, rfl, tyX5_ok, nmX5, am_inW (List.forall_mem_cons.mpr ⟨tw_369, List.forall_mem_cons.mpr ⟨tw_371, List.forall_mem_cons.mpr ⟨tw_373, List.forall_mem_cons.mpr ⟨tw_375, List.forall_mem_cons.mpr ⟨tw_377, List.forall_mem_cons.mpr ⟨tw_379, fun _ h => absurd h List.not_mem_nil⟩⟩⟩⟩⟩⟩), by decide +kernel, tw_350, tw_94⟩
theorem cd_6 : am_CD 6 := ⟨rfl, _, tyX6, rfl, tyX6_ok, nmX6, am_inW (List.forall_mem_cons.mpr ⟨tw_213, List.forall_mem_cons.mpr ⟨tw_215, List.forall_mem_cons.mpr ⟨tw_217, List.forall_mem_cons.mpr ⟨tw_219, List.forall_mem_cons.mpr ⟨tw_221, List.forall_mem_cons.mpr ⟨tw_223, List.forall_mem_cons.mpr ⟨tw_225, List.forall_mem_cons.mpr ⟨tw_227, List.forall_mem_cons.mpr ⟨tw_229, List.forall_mem_cons.mpr ⟨tw_231, List.forall_mem_cons.mpr ⟨tw_233, List.forall_mem_cons.mpr ⟨tw_235, List.forall_mem_cons.mpr ⟨tw_237, fun _ h => absurd h List.not_mem_nil⟩⟩⟩⟩⟩⟩⟩⟩⟩⟩⟩⟩⟩), by decide +kernel, tw_142, tw_87⟩
theorem cd_7 : am_CD 7 := ⟨rfl, _, tyX7, rfl, tyX7_ok, nmX7, am_inW (List.forall_mem_cons.mpr ⟨tw_335, List.forall_mem_cons.mpr ⟨tw_337, List.forall_mem_cons.mpr ⟨tw_339, List.forall_mem_cons.mpr ⟨tw_341, List.forall_mem_cons.mpr ⟨tw_343, List.forall_mem_cons.mpr ⟨tw_345, List.forall_mem_cons.mpr ⟨tw_347, fun _ h => absurd h List.not_mem_nil⟩⟩⟩⟩⟩⟩⟩), by decide +kernel, tw_315, tw_93⟩
theorem cd_9 : am_CD 9 := ⟨rfl, _, tyX9, rfl, tyX9_ok, nmX9, am_inW (List.forall_mem_cons.mpr ⟨tw_388, List.forall_mem_cons.mpr ⟨tw_390, List.forall_mem_cons.mpr ⟨tw_392, List.forall_mem_cons.mpr ⟨tw_394, List.forall_mem_cons.mpr ⟨tw_396, fun _ h => absurd h List.not_mem_nil⟩⟩⟩⟩⟩), by decide +kernel, tw_102, tw_84⟩
theorem cd_10 : am_CD 10 := ⟨rfl, _, tyX10, rfl, tyX10_ok, nmX10, am_inW (List.forall_mem_cons.mpr ⟨tw_987, List.forall_mem_cons.mpr ⟨tw_989, List.forall_mem_cons.mpr ⟨tw_991, List.forall_mem_cons.mpr ⟨tw_993, List.forall_mem_cons.mpr ⟨tw_995, List.forall_mem_cons.mpr ⟨tw_997, List.forall_mem_cons.mpr ⟨tw_999, List.forall_mem_cons.mpr ⟨tw_1001, List.forall_mem_cons.mpr ⟨tw_1003, List.forall_mem_cons.mpr ⟨tw_1005, List.forall_mem_cons.mpr ⟨tw_1007, List.forall_mem_cons.mpr ⟨tw_1009, List.forall_mem_cons.mpr ⟨tw_1011, List.forall_mem_cons.mpr ⟨tw_1013, List.forall_mem_cons.mpr ⟨tw_1015, List.forall_mem_cons.mpr ⟨tw_1017, List.forall_mem_cons.mpr ⟨tw_1019, List.forall_mem_cons.mpr ⟨tw_1021, List.forall_mem_cons.mpr ⟨tw_1023, List.forall_mem_cons.mpr ⟨tw_1025, List.forall_mem_cons.mpr ⟨tw_1027, List.forall_mem_cons.mpr ⟨tw_1029, List.forall_mem_cons.mpr ⟨tw_1031, List.forall_mem_cons.mpr ⟨tw_1033, List.forall_mem_cons.mpr ⟨tw_1035, List.forall_mem_cons.mpr ⟨tw_1037, List.forall_mem_cons.mpr ⟨tw_1039, List.forall_mem_cons.mpr ⟨tw_1041, List.forall_mem_cons.mpr ⟨tw_1043, List.forall_mem_cons.mpr ⟨tw_1045, List.forall_mem_cons.mpr ⟨tw_1047, List.forall_mem_cons.mpr ⟨tw_1049, List.forall_mem_cons.mpr ⟨tw_1051, List.forall_mem_cons.mpr ⟨tw_1053, List.forall_mem_cons.mpr ⟨tw_1055, List.forall_mem_cons.mpr ⟨tw_1057, List.forall_mem_cons.mpr ⟨tw_1059, List.forall_mem_cons.mpr ⟨tw_1061, List.forall_mem_cons.mpr ⟨tw_1063, List.forall_mem_cons.mpr ⟨tw_1065, List.forall_mem_cons.mpr ⟨tw_1067, List.forall_mem_cons.mpr ⟨tw_1069, List.forall_mem_cons.mpr ⟨tw_1071, List.forall_mem_cons.mpr ⟨tw_1073, List.forall_mem_cons.mpr ⟨tw_1075, List.forall_mem_cons.mpr ⟨tw_1077, List.forall_mem_cons.mpr ⟨tw_1079, List.forall_mem_cons.mpr ⟨tw_1081, List.forall_mem_cons.mpr ⟨tw_1083, List.forall_mem_cons.mpr ⟨tw_1085, List.forall_mem_cons.mpr ⟨tw_1087, List.forall_mem_cons.mpr ⟨tw_1089, List.forall_mem_cons.mpr ⟨tw_1091, List.forall_mem_cons.mpr ⟨tw_1093, fun _ h => absurd h List.not_mem_nil⟩⟩⟩⟩⟩⟩⟩⟩⟩⟩⟩⟩⟩⟩⟩⟩⟩⟩⟩⟩⟩⟩⟩⟩⟩⟩⟩⟩⟩⟩⟩⟩⟩⟩⟩⟩⟩⟩⟩⟩⟩⟩⟩⟩⟩⟩⟩⟩⟩⟩⟩⟩⟩⟩), by decide +kernel, tw_928, tw_95⟩
theorem fr_0_0 : am_fr 0 0 = false := by decide +kernel
theorem fy_0_0 : am_desc 0 0 = some (.int) := by decide +kernel
theorem fz_0_0 : am_fin 0 0 = false := by decide +kernel
theorem fr_0_1 : am_fr 0 1 = true := by decide +kernel
theorem fy_0_1 : am_desc 0 1 = some (.array (.object "LabelledTables$Token")) := by decide +kernel
theorem fz_0_1 : am_dec 0 1 = "LabelledTables$Code" := by decide +kernel
theorem fr_0_2 : am_fr 0 2 = true := by decide +kernel
theorem fy_0_2 : am_desc 0 2 = some (.array (.int)) := by decide +kernel
theorem fz_0_2 : am_dec 0 2 = "LabelledTables$Code" := by decide +kernel
theorem fr_0_3 : am_fr 0 3 = true := by decide +kernel
theorem fy_0_3 : am_desc 0 3 = some (.array (.int)) := by decide +kernel
theorem fz_0_3 : am_dec 0 3 = "LabelledTables$Code" := by decide +kernel
theorem fr_0_4 : am_fr 0 4 = false := by decide +kernel
theorem fy_0_4 : am_desc 0 4 = some (.int) := by decide +kernel
theorem fz_0_4 : am_fin 0 4 = false := by decide +kernel
theorem fr_1_0 : am_fr 1 0 = true := by decide +kernel
theorem fy_1_0 : am_desc 1 0 = some (.object "LabelledTables$Statement") := by decide +kernel
theorem fz_1_0 : am_dec 1 0 = "LabelledTables$Parser" := by decide +kernel
theorem fr_1_1 : am_fr 1 1 = true := by decide +kernel
theorem fy_1_1 : am_desc 1 1 = some (.object "LabelledTables$Scanner") := by decide +kernel
theorem fz_1_1 : am_dec 1 1 = "LabelledTables$Parser" := by decide +kernel
theorem fr_1_2 : am_fr 1 2 = false := by decide +kernel
theorem fy_1_2 : am_desc 1 2 = some (.int) := by decide +kernel
theorem fz_1_2 : am_fin 1 2 = false := by decide +kernel
theorem fr_1_3 : am_fr 1 3 = false := by decide +kernel
theorem fy_1_3 : am_desc 1 3 = some (.boolean) := by decide +kernel
theorem fz_1_3 : am_fin 1 3 = false := by decide +kernel
theorem fr_2_0 : am_fr 2 0 = true := by decide +kernel
theorem fy_2_0 : am_desc 2 0 = some (.array (.array (.int))) := by decide +kernel
theorem fz_2_0 : am_dec 2 0 = "LabelledTables$Rows" := by decide +kernel
theorem fr_2_1 : am_fr 2 1 = false := by decide +kernel
theorem fy_2_1 : am_desc 2 1 = some (.int) := by decide +kernel
theorem fz_2_1 : am_fin 2 1 = false := by decide +kernel
theorem fr_3_0 : am_fr 3 0 = true := by decide +kernel
theorem fy_3_0 : am_desc 3 0 = some (.array (.object "LabelledTables$Token")) := by decide +kernel
theorem fz_3_0 : am_dec 3 0 = "LabelledTables$Scanner" := by decide +kernel
theorem fr_3_1 : am_fr 3 1 = true := by decide +kernel
theorem fy_3_1 : am_desc 3 1 = some (.array (.int)) := by decide +kernel
theorem fz_3_1 : am_dec 3 1 = "LabelledTables$Scanner" := by decide +kernel
theorem fr_4_0 : am_fr 4 0 = true := by decide +kernel
theorem fy_4_0 : am_desc 4 0 = some (.object "LabelledTables$Rows") := by decide +kernel
theorem fz_4_0 : am_dec 4 0 = "LabelledTables$Selection" := by decide +kernel
theorem fr_4_1 : am_fr 4 1 = true := by decide +kernel
theorem fy_4_1 : am_desc 4 1 = some (.object "LabelledTables$Rows") := by decide +kernel
theorem fz_4_1 : am_dec 4 1 = "LabelledTables$Selection" := by decide +kernel
theorem fr_4_2 : am_fr 4 2 = true := by decide +kernel
theorem fy_4_2 : am_desc 4 2 = some (.object "LabelledTables$Statement") := by decide +kernel
theorem fz_4_2 : am_dec 4 2 = "LabelledTables$Selection" := by decide +kernel
theorem fr_4_3 : am_fr 4 3 = false := by decide +kernel
theorem fy_4_3 : am_desc 4 3 = some (.int) := by decide +kernel
theorem fz_4_3 : am_fin 4 3 = false := by decide +kernel
theorem fr_4_4 : am_fr 4 4 = true := by decide +kernel
theorem fy_4_4 : am_desc 4 4 = some (.array (.int)) := by decide +kernel
theorem fz_4_4 : am_dec 4 4 = "LabelledTables$Selection" := by decide +kernel
theorem fr_4_5 : am_fr 4 5 = true := by decide +kernel
theorem fy_4_5 : am_desc 4 5 = some (.array (.int)) := by decide +kernel
theorem fz_4_5 : am_dec 4 5 = "LabelledTables$Selection" := by decide +kernel
theorem fr_4_6 : am_fr 4 6 = false := by decide +kernel
theorem fy_4_6 : am_desc 4 6 = some (.int) := by decide +kernel
theorem fz_4_6 : am_fin 4 6 = false := by decide +kernel
theorem fr_4_7 : am_fr 4 7 = true := by decide +kernel
theorem fy_4_7 : am_desc 4 7 = some (.array (.int)) := by decide +kernel
theorem fz_4_7 : am_dec 4 7 = "LabelledTables$Selection" := by decide +kernel
theorem fr_4_8 : am_fr 4 8 = true := by decide +kernel
theorem fy_4_8 : am_desc 4 8 = some (.array (.int)) := by decide +kernel
theorem fz_4_8 : am_dec 4 8 = "LabelledTables$Selection" := by decide +kernel
theorem fr_4_9 : am_fr 4 9 = true := by decide +kernel
theorem fy_4_9 : am_desc 4 9 = some (.array (.int)) := by decide +kernel
theorem fz_4_9 : am_dec 4 9 = "LabelledTables$Selection" := by decide +kernel
theorem fr_4_10 : am_fr 4 10 = true := by decide +kernel
theorem fy_4_10 : am_desc 4 10 = some (.array (.int)) := by decide +kernel
theorem fz_4_10 : am_dec 4 10 = "LabelledTables$Selection" := by decide +kernel
theorem fr_5_0 : am_fr 5 0 = true := by decide +kernel
theorem fy_5_0 : am_desc 5 0 = some (.object "LabelledTables$Store") := by decide +kernel
theorem fz_5_0 : am_dec 5 0 = "LabelledTables$Session" := by decide +kernel
theorem fr_5_1 : am_fr 5 1 = true := by decide +kernel
theorem fy_5_1 : am_desc 5 1 = some (.array (.char)) := by decide +kernel
theorem fz_5_1 : am_dec 5 1 = "LabelledTables$Session" := by decide +kernel
theorem fr_5_2 : am_fr 5 2 = false := by decide +kernel
theorem fy_5_2 : am_desc 5 2 = some (.int) := by decide +kernel
theorem fz_5_2 : am_fin 5 2 = false := by decide +kernel
theorem fr_5_3 : am_fr 5 3 = true := by decide +kernel
theorem fy_5_3 : am_desc 5 3 = some (.array (.array (.int))) := by decide +kernel
theorem fz_5_3 : am_dec 5 3 = "LabelledTables$Session" := by decide +kernel
theorem fr_5_4 : am_fr 5 4 = false := by decide +kernel
theorem fy_5_4 : am_desc 5 4 = some (.int) := by decide +kernel
theorem fz_5_4 : am_fin 5 4 = false := by decide +kernel
theorem fr_5_5 : am_fr 5 5 = false := by decide +kernel
theorem fy_5_5 : am_desc 5 5 = some (.int) := by decide +kernel
theorem fz_5_5 : am_fin 5 5 = false := by decide +kernel
theorem fr_6_0 : am_fr 6 0 = true := by decide +kernel
theorem fy_6_0 : am_desc 6 0 = some (.object "LabelledTables$Token") := by decide +kernel
theorem fz_6_0 : am_fin 6 0 = false := by decide +kernel
theorem fr_6_1 : am_fr 6 1 = false := by decide +kernel
theorem fy_6_1 : am_desc 6 1 = some (.boolean) := by decide +kernel
theorem fz_6_1 : am_fin 6 1 = false := by decide +kernel
theorem fr_6_2 : am_fr 6 2 = false := by decide +kernel
theorem fy_6_2 : am_desc 6 2 = some (.boolean) := by decide +kernel
theorem fz_6_2 : am_fin 6 2 = false := by decide +kernel
theorem fr_6_3 : am_fr 6 3 = false := by decide +kernel
theorem fy_6_3 : am_desc 6 3 = some (.int) := by decide +kernel
theorem fz_6_3 : am_fin 6 3 = false := by decide +kernel
theorem fr_6_4 : am_fr 6 4 = false := by decide +kernel
theorem fy_6_4 : am_desc 6 4 = some (.int) := by decide +kernel
theorem fz_6_4 : am_fin 6 4 = false := by decide +kernel
theorem fr_6_5 : am_fr 6 5 = false := by decide +kernel
theorem fy_6_5 : am_desc 6 5 = some (.int) := by decide +kernel
theorem fz_6_5 : am_fin 6 5 = false := by decide +kernel
theorem fr_6_6 : am_fr 6 6 = false := by decide +kernel
theorem fy_6_6 : am_desc 6 6 = some (.int) := by decide +kernel
theorem fz_6_6 : am_fin 6 6 = false := by decide +kernel
theorem fr_6_7 : am_fr 6 7 = true := by decide +kernel
theorem fy_6_7 : am_desc 6 7 = some (.array (.object "LabelledTables$Code")) := by decide +kernel
theorem fz_6_7 : am_dec 6 7 = "LabelledTables$Statement" := by decide +kernel
theorem fr_6_8 : am_fr 6 8 = true := by decide +kernel
theorem fy_6_8 : am_desc 6 8 = some (.object "LabelledTables$Code") := by decide +kernel
theorem fz_6_8 : am_dec 6 8 = "LabelledTables$Statement" := by decide +kernel
theorem fr_6_9 : am_fr 6 9 = true := by decide +kernel
theorem fy_6_9 : am_desc 6 9 = some (.object "LabelledTables$Code") := by decide +kernel
theorem fz_6_9 : am_dec 6 9 = "LabelledTables$Statement" := by decide +kernel
theorem fr_6_10 : am_fr 6 10 = true := by decide +kernel
theorem fy_6_10 : am_desc 6 10 = some (.object "LabelledTables$Code") := by decide +kernel
theorem fz_6_10 : am_dec 6 10 = "LabelledTables$Statement" := by decide +kernel
theorem fr_6_11 : am_fr 6 11 = true := by decide +kernel
theorem fy_6_11 : am_desc 6 11 = some (.array (.boolean)) := by decide +kernel
theorem fz_6_11 : am_dec 6 11 = "LabelledTables$Statement" := by decide +kernel
theorem fr_6_12 : am_fr 6 12 = true := by decide +kernel
theorem fy_6_12 : am_desc 6 12 = some (.array (.array (.int))) := by decide +kernel
theorem fz_6_12 : am_dec 6 12 = "LabelledTables$Statement" := by decide +kernel
theorem fr_7_0 : am_fr 7 0 = false := by decide +kernel
theorem fy_7_0 : am_desc 7 0 = some (.int) := by decide +kernel
theorem fz_7_0 : am_dec 7 0 = "LabelledTables$Store" := by decide +kernel
theorem fr_7_1 : am_fr 7 1 = true := by decide +kernel
theorem fy_7_1 : am_desc 7 1 = some (.array (.object "LabelledTables$Rows")) := by decide +kernel
theorem fz_7_1 : am_dec 7 1 = "LabelledTables$Store" := by decide +kernel
theorem fr_7_2 : am_fr 7 2 = true := by decide +kernel
theorem fy_7_2 : am_desc 7 2 = some (.array (.object "LabelledTables$Rows")) := by decide +kernel
theorem fz_7_2 : am_dec 7 2 = "LabelledTables$Store" := by decide +kernel
theorem fr_7_3 : am_fr 7 3 = false := by decide +kernel
theorem fy_7_3 : am_desc 7 3 = some (.int) := by decide +kernel
theorem fz_7_3 : am_fin 7 3 = false := by decide +kernel
theorem fr_7_4 : am_fr 7 4 = false := by decide +kernel
theorem fy_7_4 : am_desc 7 4 = some (.int) := by decide +kernel
theorem fz_7_4 : am_fin 7 4 = false := by decide +kernel
theorem fr_7_5 : am_fr 7 5 = true := by decide +kernel
theorem fy_7_5 : am_desc 7 5 = some (.object "LabelledTables$Rows") := by decide +kernel
theorem fz_7_5 : am_dec 7 5 = "LabelledTables$Store" := by decide +kernel
theorem fr_7_6 : am_fr 7 6 = true := by decide +kernel
theorem fy_7_6 : am_desc 7 6 = some (.array (.int)) := by decide +kernel
theorem fz_7_6 : am_dec 7 6 = "LabelledTables$Store" := by decide +kernel
theorem fr_8_0 : am_fr 8 0 = true := by decide +kernel
theorem fy_8_0 : am_desc 8 0 = some (.object "java/lang/String") := by decide +kernel
theorem fz_8_0 : am_dec 8 0 = "LabelledTables$Token" := by decide +kernel
theorem fr_8_1 : am_fr 8 1 = false := by decide +kernel
theorem fy_8_1 : am_desc 8 1 = some (.int) := by decide +kernel
theorem fz_8_1 : am_dec 8 1 = "LabelledTables$Token" := by decide +kernel
theorem fr_8_2 : am_fr 8 2 = false := by decide +kernel
theorem fy_8_2 : am_desc 8 2 = some (.int) := by decide +kernel
theorem fz_8_2 : am_dec 8 2 = "java/lang/Enum" := by decide +kernel
theorem fr_9_0 : am_fr 9 0 = true := by decide +kernel
theorem fy_9_0 : am_desc 9 0 = some (.array (.object "LabelledTables$Store")) := by decide +kernel
theorem fz_9_0 : am_dec 9 0 = "LabelledTables" := by decide +kernel
theorem fr_9_1 : am_fr 9 1 = true := by decide +kernel
theorem fy_9_1 : am_desc 9 1 = some (.array (.object "LabelledTables$Session")) := by decide +kernel
theorem fz_9_1 : am_dec 9 1 = "LabelledTables" := by decide +kernel
theorem fr_9_2 : am_fr 9 2 = true := by decide +kernel
theorem fy_9_2 : am_desc 9 2 = some (.object "LabelledTables$Rows") := by decide +kernel
theorem fz_9_2 : am_dec 9 2 = "LabelledTables" := by decide +kernel
theorem fr_9_3 : am_fr 9 3 = true := by decide +kernel
theorem fy_9_3 : am_desc 9 3 = some (.object "LabelledTables$Parser") := by decide +kernel
theorem fz_9_3 : am_dec 9 3 = "LabelledTables" := by decide +kernel
theorem fr_9_4 : am_fr 9 4 = true := by decide +kernel
theorem fy_9_4 : am_desc 9 4 = some (.object "LabelledTables$Selection") := by decide +kernel
theorem fz_9_4 : am_dec 9 4 = "LabelledTables" := by decide +kernel
theorem fr_10_0 : am_fr 10 0 = true := by decide +kernel
theorem fy_10_0 : am_desc 10 0 = some (.array (.int)) := by decide +kernel
theorem fz_10_0 : am_dec 10 0 = "LabelledTablesModel" := by decide +kernel
theorem fr_10_1 : am_fr 10 1 = true := by decide +kernel
theorem fy_10_1 : am_desc 10 1 = some (.array (.int)) := by decide +kernel
theorem fz_10_1 : am_dec 10 1 = "LabelledTablesModel" := by decide +kernel
theorem fr_10_2 : am_fr 10 2 = true := by decide +kernel
theorem fy_10_2 : am_desc 10 2 = some (.array (.int)) := by decide +kernel
theorem fz_10_2 : am_dec 10 2 = "LabelledTablesModel" := by decide +kernel
theorem fr_10_3 : am_fr 10 3 = true := by decide +kernel
theorem fy_10_3 : am_desc 10 3 = some (.array (.int)) := by decide +kernel
theorem fz_10_3 : am_dec 10 3 = "LabelledTablesModel" := by decide +kernel
theorem fr_10_4 : am_fr 10 4 = true := by decide +kernel
theorem fy_10_4 : am_desc 10 4 = some (.array (.int)) := by decide +kernel
theorem fz_10_4 : am_dec 10 4 = "LabelledTablesModel" := by decide +kernel
theorem fr_10_5 : am_fr 10 5 = true := by decide +kernel
theorem fy_10_5 : am_desc 10 5 = some (.array (.int)) := by decide +kernel
theorem fz_10_5 : am_dec 10 5 = "LabelledTablesModel" := by decide +kernel
theorem fr_10_6 : am_fr 10 6 = true := by decide +kernel
theorem fy_10_6 : am_desc 10 6 = some (.array (.int)) := by decide +kernel
theorem fz_10_6 : am_dec 10 6 = "LabelledTablesModel" := by decide +kernel
theorem fr_10_7 : am_fr 10 7 = true := by decide +kernel
theorem fy_10_7 : am_desc 10 7 = some (.array (.char)) := by decide +kernel
theorem fz_10_7 : am_dec 10 7 = "LabelledTablesModel" := by decide +kernel
theorem fr_10_8 : am_fr 10 8 = true := by decide +kernel
theorem fy_10_8 : am_desc 10 8 = some (.array (.int)) := by decide +kernel
theorem fz_10_8 : am_dec 10 8 = "LabelledTablesModel" := by decide +kernel
theorem fr_10_9 : am_fr 10 9 = true := by decide +kernel
theorem fy_10_9 : am_desc 10 9 = some (.array (.int)) := by decide +kernel
theorem fz_10_9 : am_dec 10 9 = "LabelledTablesModel" := by decide +kernel
theorem fr_10_10 : am_fr 10 10 = true := by decide +kernel
theorem fy_10_10 : am_desc 10 10 = some (.array (.int)) := by decide +kernel
theorem fz_10_10 : am_dec 10 10 = "LabelledTablesModel" := by decide +kernel
theorem fr_10_11 : am_fr 10 11 = false := by decide +kernel
theorem fy_10_11 : am_desc 10 11 = some (.int) := by decide +kernel
theorem fz_10_11 : am_fin 10 11 = false := by decide +kernel
theorem fr_10_12 : am_fr 10 12 = false := by decide +kernel
theorem fy_10_12 : am_desc 10 12 = some (.int) := by decide +kernel
theorem fz_10_12 : am_fin 10 12 = false := by decide +kernel
theorem fr_10_13 : am_fr 10 13 = false := by decide +kernel
theorem fy_10_13 : am_desc 10 13 = some (.boolean) := by decide +kernel
theorem fz_10_13 : am_fin 10 13 = false := by decide +kernel
theorem fr_10_14 : am_fr 10 14 = true := by decide +kernel
theorem fy_10_14 : am_desc 10 14 = some (.array (.int)) := by decide +kernel
theorem fz_10_14 : am_dec 10 14 = "LabelledTablesModel" := by decide +kernel
theorem fr_10_15 : am_fr 10 15 = true := by decide +kernel
theorem fy_10_15 : am_desc 10 15 = some (.array (.int)) := by decide +kernel
theorem fz_10_15 : am_dec 10 15 = "LabelledTablesModel" := by decide +kernel
theorem fr_10_16 : am_fr 10 16 = true := by decide +kernel
theorem fy_10_16 : am_desc 10 16 = some (.array (.int)) := by decide +kernel
theorem fz_10_16 : am_dec 10 16 = "LabelledTablesModel" := by decide +kernel
theorem fr_10_17 : am_fr 10 17 = true := by decide +kernel
theorem fy_10_17 : am_desc 10 17 = some (.array (.int)) := by decide +kernel
theorem fz_10_17 : am_dec 10 17 = "LabelledTablesModel" := by decide +kernel
theorem fr_10_18 : am_fr 10 18 = false := by decide +kernel
theorem fy_10_18 : am_desc 10 18 = some (.int) := by decide +kernel
theorem fz_10_18 : am_fin 10 18 = false := by decide +kernel
theorem fr_10_19 : am_fr 10 19 = false := by decide +kernel
theorem fy_10_19 : am_desc 10 19 = some (.int) := by decide +kernel
theorem fz_10_19 : am_fin 10 19 = false := by decide +kernel
theorem fr_10_20 : am_fr 10 20 = false := by decide +kernel
theorem fy_10_20 : am_desc 10 20 = some (.int) := by decide +kernel
theorem fz_10_20 : am_fin 10 20 = false := by decide +kernel
theorem fr_10_21 : am_fr 10 21 = false := by decide +kernel
theorem fy_10_21 : am_desc 10 21 = some (.int) := by decide +kernel
theorem fz_10_21 : am_fin 10 21 = false := by decide +kernel
theorem fr_10_22 : am_fr 10 22 = false := by decide +kernel
theorem fy_10_22 : am_desc 10 22 = some (.int) := by decide +kernel
theorem fz_10_22 : am_fin 10 22 = false := by decide +kernel
theorem fr_10_23 : am_fr 10 23 = false := by decide +kernel
theorem fy_10_23 : am_desc 10 23 = some (.boolean) := by decide +kernel
theorem fz_10_23 : am_fin 10 23 = false := by decide +kernel
theorem fr_10_24 : am_fr 10 24 = false := by decide +kernel
theorem fy_10_24 : am_desc 10 24 = some (.int) := by decide +kernel
theorem fz_10_24 : am_fin 10 24 = false := by decide +kernel
theorem fr_10_25 : am_fr 10 25 = false := by decide +kernel
theorem fy_10_25 : am_desc 10 25 = some (.int) := by decide +kernel
theorem fz_10_25 : am_fin 10 25 = false := by decide +kernel
theorem fr_10_26 : am_fr 10 26 = false := by decide +kernel
theorem fy_10_26 : am_desc 10 26 = some (.int) := by decide +kernel
theorem fz_10_26 : am_fin 10 26 = false := by decide +kernel
theorem fr_10_27 : am_fr 10 27 = false := by decide +kernel
theorem fy_10_27 : am_desc 10 27 = some (.int) := by decide +kernel
theorem fz_10_27 : am_fin 10 27 = false := by decide +kernel
theorem fr_10_28 : am_fr 10 28 = true := by decide +kernel
theorem fy_10_28 : am_desc 10 28 = some (.array (.int)) := by decide +kernel
theorem fz_10_28 : am_dec 10 28 = "LabelledTablesModel" := by decide +kernel
theorem fr_10_29 : am_fr 10 29 = true := by decide +kernel
theorem fy_10_29 : am_desc 10 29 = some (.array (.int)) := by decide +kernel
theorem fz_10_29 : am_dec 10 29 = "LabelledTablesModel" := by decide +kernel
theorem fr_10_30 : am_fr 10 30 = true := by decide +kernel
theorem fy_10_30 : am_desc 10 30 = some (.array (.int)) := by decide +kernel
theorem fz_10_30 : am_dec 10 30 = "LabelledTablesModel" := by decide +kernel
theorem fr_10_31 : am_fr 10 31 = true := by decide +kernel
theorem fy_10_31 : am_desc 10 31 = some (.array (.int)) := by decide +kernel
theorem fz_10_31 : am_dec 10 31 = "LabelledTablesModel" := by decide +kernel
theorem fr_10_32 : am_fr 10 32 = false := by decide +kernel
theorem fy_10_32 : am_desc 10 32 = some (.boolean) := by decide +kernel
theorem fz_10_32 : am_fin 10 32 = false := by decide +kernel
theorem fr_10_33 : am_fr 10 33 = false := by decide +kernel
theorem fy_10_33 : am_desc 10 33 = some (.boolean) := by decide +kernel
theorem fz_10_33 : am_fin 10 33 = false := by decide +kernel
theorem fr_10_34 : am_fr 10 34 = false := by decide +kernel
theorem fy_10_34 : am_desc 10 34 = some (.boolean) := by decide +kernel
theorem fz_10_34 : am_fin 10 34 = false := by decide +kernel
theorem fr_10_35 : am_fr 10 35 = false := by decide +kernel
theorem fy_10_35 : am_desc 10 35 = some (.boolean) := by decide +kernel
theorem fz_10_35 : am_fin 10 35 = false := by decide +kernel
theorem fr_10_36 : am_fr 10 36 = false := by decide +kernel
theorem fy_10_36 : am_desc 10 36 = some (.boolean) := by decide +kernel
theorem fz_10_36 : am_fin 10 36 = false := by decide +kernel
theorem fr_10_37 : am_fr 10 37 = false := by decide +kernel
theorem fy_10_37 : am_desc 10 37 = some (.int) := by decide +kernel
theorem fz_10_37 : am_fin 10 37 = false := by decide +kernel
theorem fr_10_38 : am_fr 10 38 = false := by decide +kernel
theorem fy_10_38 : am_desc 10 38 = some (.int) := by decide +kernel
theorem fz_10_38 : am_fin 10 38 = false := by decide +kernel
theorem fr_10_39 : am_fr 10 39 = false := by decide +kernel
theorem fy_10_39 : am_desc 10 39 = some (.int) := by decide +kernel
theorem fz_10_39 : am_fin 10 39 = false := by decide +kernel
theorem fr_10_40 : am_fr 10 40 = true := by decide +kernel
theorem fy_10_40 : am_desc 10 40 = some (.array (.int)) := by decide +kernel
theorem fz_10_40 : am_dec 10 40 = "LabelledTablesModel" := by decide +kernel
theorem fr_10_41 : am_fr 10 41 = true := by decide +kernel
theorem fy_10_41 : am_desc 10 41 = some (.array (.int)) := by decide +kernel
theorem fz_10_41 : am_dec 10 41 = "LabelledTablesModel" := by decide +kernel
theorem fr_10_42 : am_fr 10 42 = true := by decide +kernel
theorem fy_10_42 : am_desc 10 42 = some (.array (.int)) := by decide +kernel
theorem fz_10_42 : am_dec 10 42 = "LabelledTablesModel" := by decide +kernel
theorem fr_10_43 : am_fr 10 43 = true := by decide +kernel
theorem fy_10_43 : am_desc 10 43 = some (.array (.int)) := by decide +kernel
theorem fz_10_43 : am_dec 10 43 = "LabelledTablesModel" := by decide +kernel
theorem fr_10_44 : am_fr 10 44 = false := by decide +kernel
theorem fy_10_44 : am_desc 10 44 = some (.int) := by decide +kernel
theorem fz_10_44 : am_fin 10 44 = false := by decide +kernel
theorem fr_10_45 : am_fr 10 45 = false := by decide +kernel
theorem fy_10_45 : am_desc 10 45 = some (.int) := by decide +kernel
theorem fz_10_45 : am_fin 10 45 = false := by decide +kernel
theorem fr_10_46 : am_fr 10 46 = true := by decide +kernel
theorem fy_10_46 : am_desc 10 46 = some (.array (.int)) := by decide +kernel
theorem fz_10_46 : am_dec 10 46 = "LabelledTablesModel" := by decide +kernel
theorem fr_10_47 : am_fr 10 47 = true := by decide +kernel
theorem fy_10_47 : am_desc 10 47 = some (.array (.int)) := by decide +kernel
theorem fz_10_47 : am_dec 10 47 = "LabelledTablesModel" := by decide +kernel
theorem fr_10_48 : am_fr 10 48 = true := by decide +kernel
theorem fy_10_48 : am_desc 10 48 = some (.array (.int)) := by decide +kernel
theorem fz_10_48 : am_dec 10 48 = "LabelledTablesModel" := by decide +kernel
theorem fr_10_49 : am_fr 10 49 = true := by decide +kernel
theorem fy_10_49 : am_desc 10 49 = some (.array (.int)) := by decide +kernel
theorem fz_10_49 : am_dec 10 49 = "LabelledTablesModel" := by decide +kernel
theorem fr_10_50 : am_fr 10 50 = true := by decide +kernel
theorem fy_10_50 : am_desc 10 50 = some (.array (.int)) := by decide +kernel
theorem fz_10_50 : am_dec 10 50 = "LabelledTablesModel" := by decide +kernel
theorem fr_10_51 : am_fr 10 51 = true := by decide +kernel
theorem fy_10_51 : am_desc 10 51 = some (.array (.int)) := by decide +kernel
theorem fz_10_51 : am_dec 10 51 = "LabelledTablesModel" := by decide +kernel
theorem fr_10_52 : am_fr 10 52 = true := by decide +kernel
theorem fy_10_52 : am_desc 10 52 = some (.array (.int)) := by decide +kernel
theorem fz_10_52 : am_dec 10 52 = "LabelledTablesModel" := by decide +kernel
theorem fr_10_53 : am_fr 10 53 = true := by decide +kernel
theorem fy_10_53 : am_desc 10 53 = some (.array (.int)) := by decide +kernel
theorem fz_10_53 : am_dec 10 53 = "LabelledTablesModel" := by decide +kernel
theorem fr_11_0 : am_fr 11 0 = true := by decide +kernel
theorem fy_11_0 : am_desc 11 0 = some (.array (.byte)) := by decide +kernel
theorem fz_11_0 : am_dec 11 0 = "java/lang/String" := by decide +kernel
theorem fr_11_1 : am_fr 11 1 = false := by decide +kernel
theorem fy_11_1 : am_desc 11 1 = some (.byte) := by decide +kernel
theorem fz_11_1 : am_dec 11 1 = "java/lang/String" := by decide +kernel
abbrev mX9_init : am_M := (yX9_init, cX9_init, 6, none)
theorem md_X9_init : am_MD mX9_init 4 := ⟨tw_105, tw_84, by decide +kernel, by decide⟩
abbrev mX2_init : am_M := (yX2_init, cX2_init, 2, none)
theorem md_X2_init : am_MD mX2_init 1 := ⟨tw_117, tw_85, by decide +kernel, by decide⟩
abbrev mX1_init : am_M := (yX1_init, cX1_init, 1, none)
theorem md_X1_init : am_MD mX1_init 0 := ⟨tw_139, tw_86, by decide +kernel, by decide⟩
abbrev mX6_init : am_M := (yX6_init, cX6_init, 2, none)
theorem md_X6_init : am_MD mX6_init 0 := ⟨tw_145, tw_87, by decide +kernel, by decide⟩
abbrev mX0_init : am_M := (yX0_init, cX0_init, 1, none)
theorem md_X0_init : am_MD mX0_init 0 := ⟨tw_154, tw_90, by decide +kernel, by decide⟩
abbrev mX3_init : am_M := (yX3_init, cX3_init, 1, none)
theorem md_X3_init : am_MD mX3_init 0 := ⟨tw_245, tw_91, by decide +kernel, by decide⟩
abbrev mX4_init : am_M := (yX4_init, cX4_init, 2, none)
theorem md_X4_init : am_MD mX4_init 1 := ⟨tw_275, tw_92, by decide +kernel, by decide⟩
abbrev mX7_init : am_M := (yX7_init, cX7_init, 3, none)
theorem md_X7_init : am_MD mX7_init 1 := ⟨tw_318, tw_93, by decide +kernel, by decide⟩
abbrev mX5_init : am_M := (yX5_init, cX5_init, 2, none)
theorem md_X5_init : am_MD mX5_init 1 := ⟨tw_353, tw_94, by decide +kernel, by decide⟩
abbrev mX9_write : am_M := (yX9_write, cX9_write, 4, some (.boolean))
theorem md_X9_write : am_MD mX9_write 2 := ⟨tw_402, tw_84, by decide +kernel, by decide⟩
abbrev mX9_isSession : am_M := (yX9_isSession, cX9_isSession, 1, some (.boolean))
theorem md_X9_isSession : am_MD mX9_isSession 1 := ⟨tw_405, tw_84, by decide +kernel, by decide⟩
abbrev mX5_append : am_M := (yX5_append, cX5_append, 6, some (.boolean))
theorem md_X5_append : am_MD mX5_append 1 := ⟨tw_409, tw_94, by decide +kernel, by decide⟩
abbrev mX9_run : am_M := (yX9_run, cX9_run, 4, some (.int))
theorem md_X9_run : am_MD mX9_run 1 := ⟨tw_413, tw_84, by decide +kernel, by decide⟩
abbrev mX1_parse : am_M := (yX1_parse, cX1_parse, 3, some (.boolean))
theorem md_X1_parse : am_MD mX1_parse 2 := ⟨tw_417, tw_86, by decide +kernel, by decide⟩
abbrev mX3_scan : am_M := (yX3_scan, cX3_scan, 6, none)
theorem md_X3_scan : am_MD mX3_scan 2 := ⟨tw_421, tw_91, by decide +kernel, by decide⟩
abbrev mX3_endOf : am_M := (yX3_endOf, cX3_endOf, 5, some (.int))
theorem md_X3_endOf : am_MD mX3_endOf 3 := ⟨tw_424, tw_91, by decide +kernel, by decide⟩
abbrev mX3_kindOf : am_M := (yX3_kindOf, cX3_kindOf, 1, some (.int))
theorem md_X3_kindOf : am_MD mX3_kindOf 1 := ⟨tw_427, tw_91, by decide +kernel, by decide⟩
abbrev mX8_of : am_M := (yX8_of, cX8_of, 4, some (.object "LabelledTables$Token"))
theorem md_X8_of : am_MD mX8_of 3 := ⟨tw_430, tw_89, by decide +kernel, by decide⟩
abbrev mX8_isAt : am_M := (yX8_isAt, cX8_isAt, 5, some (.boolean))
theorem md_X8_isAt : am_MD mX8_isAt 3 := ⟨tw_437, tw_89, by decide +kernel, by decide⟩
abbrev mJ0_length_8abf5 : am_M := (yJ0_length_8abf5, cJ0_length_8abf5, 1, some (.int))
theorem md_J0_length_8abf5 : am_MD mJ0_length_8abf5 0 := ⟨tw_441, tw_96, by decide +kernel, by decide⟩
abbrev mJ0_coder_7d493 : am_M := (yJ0_coder_7d493, cJ0_coder_7d493, 1, some (.byte))
theorem md_J0_coder_7d493 : am_MD mJ0_coder_7d493 0 := ⟨tw_445, tw_96, by decide +kernel, by decide⟩
abbrev mJ0_charAt_5068e : am_M := (yJ0_charAt_5068e, cJ0_charAt_5068e, 2, some (.char))
theorem md_J0_charAt_5068e : am_MD mJ0_charAt_5068e 1 := ⟨tw_451, tw_96, by decide +kernel, by decide⟩
abbrev mJ0_isLatin1_aae02 : am_M := (yJ0_isLatin1_aae02, cJ0_isLatin1_aae02, 1, some (.boolean))
theorem md_J0_isLatin1_aae02 : am_MD mJ0_isLatin1_aae02 0 := ⟨tw_455, tw_96, by decide +kernel, by decide⟩
abbrev mJ1_charAt_3b067 : am_M := (yJ1_charAt_3b067, cJ1_charAt_3b067, 2, some (.char))
theorem md_J1_charAt_3b067 : am_MD mJ1_charAt_3b067 2 := ⟨tw_458, tw_97, by decide +kernel, by decide⟩
abbrev mJ0_checkIndex_df160 : am_M := (yJ0_checkIndex_df160, cJ0_checkIndex_df160, 2, none)
theorem md_J0_checkIndex_df160 : am_MD mJ0_checkIndex_df160 2 := ⟨tw_461, tw_96, by decide +kernel, by decide⟩
abbrev mJ3_checkIndex_8e157 : am_M := (yJ3_checkIndex_8e157, cJ3_checkIndex_8e157, 3, some (.int))
theorem md_J3_checkIndex_8e157 : am_MD mJ3_checkIndex_8e157 3 := ⟨tw_466, tw_98, by decide +kernel, by decide⟩
abbrev mJ2_charAt_3b067 : am_M := (yJ2_charAt_3b067, cJ2_charAt_3b067, 2, some (.char))
theorem md_J2_charAt_3b067 : am_MD mJ2_charAt_3b067 2 := ⟨tw_469, tw_99, by decide +kernel, by decide⟩
abbrev mX3_numberOf : am_M := (yX3_numberOf, cX3_numberOf, 5, some (.int))
theorem md_X3_numberOf : am_MD mX3_numberOf 3 := ⟨tw_493, tw_91, by decide +kernel, by decide⟩
abbrev mX6_clear : am_M := (yX6_clear, cX6_clear, 2, none)
theorem md_X6_clear : am_MD mX6_clear 0 := ⟨tw_498, tw_87, by decide +kernel, by decide⟩
abbrev mX0_clear : am_M := (yX0_clear, cX0_clear, 1, none)
theorem md_X0_clear : am_MD mX0_clear 0 := ⟨tw_502, tw_90, by decide +kernel, by decide⟩
abbrev mX1_next : am_M := (yX1_next, cX1_next, 1, some (.object "LabelledTables$Token"))
theorem md_X1_next : am_MD mX1_next 0 := ⟨tw_506, tw_86, by decide +kernel, by decide⟩
abbrev mX1_take : am_M := (yX1_take, cX1_take, 3, some (.boolean))
theorem md_X1_take : am_MD mX1_take 1 := ⟨tw_512, tw_86, by decide +kernel, by decide⟩
abbrev mX1_readInsert : am_M := (yX1_readInsert, cX1_readInsert, 1, none)
theorem md_X1_readInsert : am_MD mX1_readInsert 0 := ⟨tw_516, tw_86, by decide +kernel, by decide⟩
abbrev mX1_readTable : am_M := (yX1_readTable, cX1_readTable, 1, some (.int))
theorem md_X1_readTable : am_MD mX1_readTable 0 := ⟨tw_520, tw_86, by decide +kernel, by decide⟩
abbrev mX1_need : am_M := (yX1_need, cX1_need, 2, none)
theorem md_X1_need : am_MD mX1_need 1 := ⟨tw_528, tw_86, by decide +kernel, by decide⟩
abbrev mX1_readE : am_M := (yX1_readE, cX1_readE, 5, none)
theorem md_X1_readE : am_MD mX1_readE 2 := ⟨tw_532, tw_86, by decide +kernel, by decide⟩
abbrev mX1_readP : am_M := (yX1_readP, cX1_readP, 4, none)
theorem md_X1_readP : am_MD mX1_readP 2 := ⟨tw_536, tw_86, by decide +kernel, by decide⟩
abbrev mX1_readF : am_M := (yX1_readF, cX1_readF, 3, none)
theorem md_X1_readF : am_MD mX1_readF 2 := ⟨tw_540, tw_86, by decide +kernel, by decide⟩
abbrev mX0_put : am_M := (yX0_put, cX0_put, 3, none)
theorem md_X0_put : am_MD mX0_put 2 := ⟨tw_545, tw_90, by decide +kernel, by decide⟩
abbrev mX0_join : am_M := (yX0_join, cX0_join, 2, none)
theorem md_X0_join : am_MD mX0_join 1 := ⟨tw_549, tw_90, by decide +kernel, by decide⟩
abbrev mX1_mayNest : am_M := (yX1_mayNest, cX1_mayNest, 2, some (.boolean))
theorem md_X1_mayNest : am_MD mX1_mayNest 1 := ⟨tw_555, tw_86, by decide +kernel, by decide⟩
abbrev mX1_readColumn : am_M := (yX1_readColumn, cX1_readColumn, 4, none)
theorem md_X1_readColumn : am_MD mX1_readColumn 1 := ⟨tw_564, tw_86, by decide +kernel, by decide⟩
abbrev mX1_isSign : am_M := (yX1_isSign, cX1_isSign, 1, some (.boolean))
theorem md_X1_isSign : am_MD mX1_isSign 1 := ⟨tw_573, tw_86, by decide +kernel, by decide⟩
abbrev mX1_readUpdate : am_M := (yX1_readUpdate, cX1_readUpdate, 1, none)
theorem md_X1_readUpdate : am_MD mX1_readUpdate 0 := ⟨tw_583, tw_86, by decide +kernel, by decide⟩
abbrev mX1_readWhere : am_M := (yX1_readWhere, cX1_readWhere, 1, none)
theorem md_X1_readWhere : am_MD mX1_readWhere 0 := ⟨tw_593, tw_86, by decide +kernel, by decide⟩
abbrev mX1_readC : am_M := (yX1_readC, cX1_readC, 4, none)
theorem md_X1_readC : am_MD mX1_readC 2 := ⟨tw_599, tw_86, by decide +kernel, by decide⟩
abbrev mX1_readK : am_M := (yX1_readK, cX1_readK, 4, none)
theorem md_X1_readK : am_MD mX1_readK 2 := ⟨tw_603, tw_86, by decide +kernel, by decide⟩
abbrev mX1_readN : am_M := (yX1_readN, cX1_readN, 4, none)
theorem md_X1_readN : am_MD mX1_readN 2 := ⟨tw_607, tw_86, by decide +kernel, by decide⟩
abbrev mX1_readSelected : am_M := (yX1_readSelected, cX1_readSelected, 2, none)
theorem md_X1_readSelected : am_MD mX1_readSelected 0 := ⟨tw_629, tw_86, by decide +kernel, by decide⟩
abbrev mX1_readX : am_M := (yX1_readX, cX1_readX, 2, none)
theorem md_X1_readX : am_MD mX1_readX 1 := ⟨tw_635, tw_86, by decide +kernel, by decide⟩
abbrev mX1_readArrangement : am_M := (yX1_readArrangement, cX1_readArrangement, 1, none)
theorem md_X1_readArrangement : am_MD mX1_readArrangement 0 := ⟨tw_645, tw_86, by decide +kernel, by decide⟩
abbrev mX6_hasWrongNames : am_M := (yX6_hasWrongNames, cX6_hasWrongNames, 3, some (.boolean))
theorem md_X6_hasWrongNames : am_MD mX6_hasWrongNames 0 := ⟨tw_656, tw_87, by decide +kernel, by decide⟩
abbrev mX6_mayHaveColumnOf : am_M := (yX6_mayHaveColumnOf, cX6_mayHaveColumnOf, 2, some (.boolean))
theorem md_X6_mayHaveColumnOf : am_MD mX6_mayHaveColumnOf 1 := ⟨tw_660, tw_87, by decide +kernel, by decide⟩
abbrev mX6_hasTwoTables : am_M := (yX6_hasTwoTables, cX6_hasTwoTables, 1, some (.boolean))
theorem md_X6_hasTwoTables : am_MD mX6_hasTwoTables 0 := ⟨tw_665, tw_87, by decide +kernel, by decide⟩
abbrev mX9_change : am_M := (yX9_change, cX9_change, 4, some (.int))
theorem md_X9_change : am_MD mX9_change 2 := ⟨tw_670, tw_84, by decide +kernel, by decide⟩
abbrev mX9_look : am_M := (yX9_look, cX9_look, 5, none)
theorem md_X9_look : am_MD mX9_look 3 := ⟨tw_674, tw_84, by decide +kernel, by decide⟩
abbrev mX2_addAll : am_M := (yX2_addAll, cX2_addAll, 3, none)
theorem md_X2_addAll : am_MD mX2_addAll 1 := ⟨tw_678, tw_85, by decide +kernel, by decide⟩
abbrev mX2_add : am_M := (yX2_add, cX2_add, 4, some (.boolean))
theorem md_X2_add : am_MD mX2_add 1 := ⟨tw_682, tw_85, by decide +kernel, by decide⟩
abbrev mX9_dominates : am_M := (yX9_dominates, cX9_dominates, 2, some (.boolean))
theorem md_X9_dominates : am_MD mX9_dominates 2 := ⟨tw_688, tw_84, by decide +kernel, by decide⟩
abbrev mX7_change : am_M := (yX7_change, cX7_change, 4, some (.int))
theorem md_X7_change : am_MD mX7_change 2 := ⟨tw_692, tw_93, by decide +kernel, by decide⟩
abbrev mX7_insert : am_M := (yX7_insert, cX7_insert, 4, some (.int))
theorem md_X7_insert : am_MD mX7_insert 2 := ⟨tw_697, tw_93, by decide +kernel, by decide⟩
abbrev mX6_workOut : am_M := (yX6_workOut, cX6_workOut, 2, some (.int))
theorem md_X6_workOut : am_MD mX6_workOut 1 := ⟨tw_701, tw_87, by decide +kernel, by decide⟩
abbrev mX0_workOut : am_M := (yX0_workOut, cX0_workOut, 4, some (.int))
theorem md_X0_workOut : am_MD mX0_workOut 1 := ⟨tw_705, tw_90, by decide +kernel, by decide⟩
abbrev mX0_joined : am_M := (yX0_joined, cX0_joined, 3, some (.int))
theorem md_X0_joined : am_MD mX0_joined 3 := ⟨tw_711, tw_90, by decide +kernel, by decide⟩
abbrev mX2_find : am_M := (yX2_find, cX2_find, 3, some (.int))
theorem md_X2_find : am_MD mX2_find 1 := ⟨tw_722, tw_85, by decide +kernel, by decide⟩
abbrev mX7_delete : am_M := (yX7_delete, cX7_delete, 5, some (.int))
theorem md_X7_delete : am_MD mX7_delete 2 := ⟨tw_728, tw_93, by decide +kernel, by decide⟩
abbrev mX6_point : am_M := (yX6_point, cX6_point, 2, none)
theorem md_X6_point : am_MD mX6_point 1 := ⟨tw_732, tw_87, by decide +kernel, by decide⟩
abbrev mX6_holds : am_M := (yX6_holds, cX6_holds, 1, some (.boolean))
theorem md_X6_holds : am_MD mX6_holds 0 := ⟨tw_736, tw_87, by decide +kernel, by decide⟩
abbrev mX2_remove : am_M := (yX2_remove, cX2_remove, 4, none)
theorem md_X2_remove : am_MD mX2_remove 1 := ⟨tw_740, tw_85, by decide +kernel, by decide⟩
abbrev mX7_update : am_M := (yX7_update, cX7_update, 9, some (.int))
theorem md_X7_update : am_MD mX7_update 3 := ⟨tw_744, tw_93, by decide +kernel, by decide⟩
abbrev mX2_become : am_M := (yX2_become, cX2_become, 2, none)
theorem md_X2_become : am_MD mX2_become 1 := ⟨tw_748, tw_85, by decide +kernel, by decide⟩
abbrev mX7_addChanged : am_M := (yX7_addChanged, cX7_addChanged, 5, some (.boolean))
theorem md_X7_addChanged : am_MD mX7_addChanged 4 := ⟨tw_753, tw_93, by decide +kernel, by decide⟩
abbrev mX7_keep : am_M := (yX7_keep, cX7_keep, 3, some (.int))
theorem md_X7_keep : am_MD mX7_keep 0 := ⟨tw_758, tw_93, by decide +kernel, by decide⟩
abbrev mX7_recordsDue : am_M := (yX7_recordsDue, cX7_recordsDue, 3, some (.int))
theorem md_X7_recordsDue : am_MD mX7_recordsDue 0 := ⟨tw_762, tw_93, by decide +kernel, by decide⟩
abbrev mX2_differences : am_M := (yX2_differences, cX2_differences, 5, some (.int))
theorem md_X2_differences : am_MD mX2_differences 1 := ⟨tw_766, tw_85, by decide +kernel, by decide⟩
abbrev mX7_withMark : am_M := (yX7_withMark, cX7_withMark, 1, some (.int))
theorem md_X7_withMark : am_MD mX7_withMark 1 := ⟨tw_770, tw_93, by decide +kernel, by decide⟩
abbrev mX7_hasRoomFor : am_M := (yX7_hasRoomFor, cX7_hasRoomFor, 2, some (.boolean))
theorem md_X7_hasRoomFor : am_MD mX7_hasRoomFor 1 := ⟨tw_774, tw_93, by decide +kernel, by decide⟩
abbrev mX7_drop : am_M := (yX7_drop, cX7_drop, 2, none)
theorem md_X7_drop : am_MD mX7_drop 0 := ⟨tw_778, tw_93, by decide +kernel, by decide⟩
abbrev mX9_lookForSelection : am_M := (yX9_lookForSelection, cX9_lookForSelection, 2, none)
theorem md_X9_lookForSelection : am_MD mX9_lookForSelection 1 := ⟨tw_782, tw_84, by decide +kernel, by decide⟩
abbrev mX4_select : am_M := (yX4_select, cX4_select, 4, some (.int))
theorem md_X4_select : am_MD mX4_select 1 := ⟨tw_787, tw_92, by decide +kernel, by decide⟩
abbrev mX4_find : am_M := (yX4_find, cX4_find, 4, some (.boolean))
theorem md_X4_find : am_MD mX4_find 0 := ⟨tw_791, tw_92, by decide +kernel, by decide⟩
abbrev mX4_isFound : am_M := (yX4_isFound, cX4_isFound, 3, some (.boolean))
theorem md_X4_isFound : am_MD mX4_isFound 2 := ⟨tw_796, tw_92, by decide +kernel, by decide⟩
abbrev mX4_point : am_M := (yX4_point, cX4_point, 3, none)
theorem md_X4_point : am_MD mX4_point 2 := ⟨tw_800, tw_92, by decide +kernel, by decide⟩
abbrev mX6_pointSecond : am_M := (yX6_pointSecond, cX6_pointSecond, 2, none)
theorem md_X6_pointSecond : am_MD mX6_pointSecond 1 := ⟨tw_805, tw_87, by decide +kernel, by decide⟩
abbrev mX4_isCovered : am_M := (yX4_isCovered, cX4_isCovered, 3, some (.boolean))
theorem md_X4_isCovered : am_MD mX4_isCovered 2 := ⟨tw_809, tw_92, by decide +kernel, by decide⟩
abbrev mX2_covers : am_M := (yX2_covers, cX2_covers, 3, some (.boolean))
theorem md_X2_covers : am_MD mX2_covers 1 := ⟨tw_813, tw_85, by decide +kernel, by decide⟩
abbrev mX4_part : am_M := (yX4_part, cX4_part, 4, none)
theorem md_X4_part : am_MD mX4_part 0 := ⟨tw_819, tw_92, by decide +kernel, by decide⟩
abbrev mX6_isSummary : am_M := (yX6_isSummary, cX6_isSummary, 3, some (.boolean))
theorem md_X6_isSummary : am_MD mX6_isSummary 0 := ⟨tw_823, tw_87, by decide +kernel, by decide⟩
abbrev mX0_isSummary : am_M := (yX0_isSummary, cX0_isSummary, 1, some (.boolean))
theorem md_X0_isSummary : am_MD mX0_isSummary 0 := ⟨tw_827, tw_90, by decide +kernel, by decide⟩
abbrev mX4_pointFound : am_M := (yX4_pointFound, cX4_pointFound, 2, none)
theorem md_X4_pointFound : am_MD mX4_pointFound 1 := ⟨tw_831, tw_92, by decide +kernel, by decide⟩
abbrev mX4_firstWithMarkOf : am_M := (yX4_firstWithMarkOf, cX4_firstWithMarkOf, 3, some (.int))
theorem md_X4_firstWithMarkOf : am_MD mX4_firstWithMarkOf 1 := ⟨tw_836, tw_92, by decide +kernel, by decide⟩
abbrev mX4_sort : am_M := (yX4_sort, cX4_sort, 4, none)
theorem md_X4_sort : am_MD mX4_sort 0 := ⟨tw_840, tw_92, by decide +kernel, by decide⟩
abbrev mX4_valueFor : am_M := (yX4_valueFor, cX4_valueFor, 5, some (.int))
theorem md_X4_valueFor : am_MD mX4_valueFor 2 := ⟨tw_844, tw_92, by decide +kernel, by decide⟩
abbrev mX4_comesBefore : am_M := (yX4_comesBefore, cX4_comesBefore, 3, some (.boolean))
theorem md_X4_comesBefore : am_MD mX4_comesBefore 2 := ⟨tw_848, tw_92, by decide +kernel, by decide⟩
abbrev mX9_begin : am_M := (yX9_begin, cX9_begin, 3, some (.int))
theorem md_X9_begin : am_MD mX9_begin 1 := ⟨tw_852, tw_84, by decide +kernel, by decide⟩
abbrev mX9_commit : am_M := (yX9_commit, cX9_commit, 2, some (.int))
theorem md_X9_commit : am_MD mX9_commit 1 := ⟨tw_856, tw_84, by decide +kernel, by decide⟩
abbrev mX9_busy : am_M := (yX9_busy, cX9_busy, 2, some (.boolean))
theorem md_X9_busy : am_MD mX9_busy 1 := ⟨tw_860, tw_84, by decide +kernel, by decide⟩
abbrev mX9_abort : am_M := (yX9_abort, cX9_abort, 2, some (.int))
theorem md_X9_abort : am_MD mX9_abort 1 := ⟨tw_864, tw_84, by decide +kernel, by decide⟩
abbrev mX9_checkpoint : am_M := (yX9_checkpoint, cX9_checkpoint, 3, some (.int))
theorem md_X9_checkpoint : am_MD mX9_checkpoint 1 := ⟨tw_868, tw_84, by decide +kernel, by decide⟩
abbrev mX7_writeAnew : am_M := (yX7_writeAnew, cX7_writeAnew, 3, some (.int))
theorem md_X7_writeAnew : am_MD mX7_writeAnew 0 := ⟨tw_872, tw_93, by decide +kernel, by decide⟩
abbrev mX9_cut : am_M := (yX9_cut, cX9_cut, 5, some (.int))
theorem md_X9_cut : am_MD mX9_cut 2 := ⟨tw_876, tw_84, by decide +kernel, by decide⟩
abbrev mX9_crash : am_M := (yX9_crash, cX9_crash, 2, none)
theorem md_X9_crash : am_MD mX9_crash 0 := ⟨tw_882, tw_84, by decide +kernel, by decide⟩
abbrev mX5_clear : am_M := (yX5_clear, cX5_clear, 1, none)
theorem md_X5_clear : am_MD mX5_clear 0 := ⟨tw_886, tw_94, by decide +kernel, by decide⟩
abbrev mX9_label : am_M := (yX9_label, cX9_label, 2, some (.int))
theorem md_X9_label : am_MD mX9_label 1 := ⟨tw_891, tw_84, by decide +kernel, by decide⟩
abbrev mX9_log : am_M := (yX9_log, cX9_log, 2, some (.int))
theorem md_X9_log : am_MD mX9_log 1 := ⟨tw_896, tw_84, by decide +kernel, by decide⟩
abbrev mX9_rows : am_M := (yX9_rows, cX9_rows, 3, some (.int))
theorem md_X9_rows : am_MD mX9_rows 2 := ⟨tw_900, tw_84, by decide +kernel, by decide⟩
abbrev mX9_isTable : am_M := (yX9_isTable, cX9_isTable, 1, some (.boolean))
theorem md_X9_isTable : am_MD mX9_isTable 1 := ⟨tw_903, tw_84, by decide +kernel, by decide⟩
abbrev mX9_cell : am_M := (yX9_cell, cX9_cell, 5, some (.int))
theorem md_X9_cell : am_MD mX9_cell 4 := ⟨tw_907, tw_84, by decide +kernel, by decide⟩
abbrev mX9_results : am_M := (yX9_results, cX9_results, 2, some (.int))
theorem md_X9_results : am_MD mX9_results 1 := ⟨tw_911, tw_84, by decide +kernel, by decide⟩
abbrev mX9_value : am_M := (yX9_value, cX9_value, 4, some (.int))
theorem md_X9_value : am_MD mX9_value 3 := ⟨tw_915, tw_84, by decide +kernel, by decide⟩
abbrev mX5_resultAt : am_M := (yX5_resultAt, cX5_resultAt, 3, some (.int))
theorem md_X5_resultAt : am_MD mX5_resultAt 2 := ⟨tw_919, tw_94, by decide +kernel, by decide⟩
abbrev mX9_draft : am_M := (yX9_draft, cX9_draft, 2, some (.int))
theorem md_X9_draft : am_MD mX9_draft 1 := ⟨tw_923, tw_84, by decide +kernel, by decide⟩
abbrev mL_cell : am_M := (yL_cell, cL_cell, 2, some (.int))
theorem md_L_cell : am_MD mL_cell 2 := ⟨tw_926, tw_83, by decide +kernel, by decide⟩
abbrev mX10_init : am_M := (yX10_init, cX10_init, 5, none)
theorem md_X10_init : am_MD mX10_init 4 := ⟨tw_931, tw_95, by decide +kernel, by decide⟩
abbrev mX10_label : am_M := (yX10_label, cX10_label, 2, some (.int))
theorem md_X10_label : am_MD mX10_label 1 := ⟨tw_1099, tw_95, by decide +kernel, by decide⟩
abbrev mX10_isSession : am_M := (yX10_isSession, cX10_isSession, 1, some (.boolean))
theorem md_X10_isSession : am_MD mX10_isSession 1 := ⟨tw_1102, tw_95, by decide +kernel, by decide⟩
abbrev mX10_busy : am_M := (yX10_busy, cX10_busy, 2, some (.boolean))
theorem md_X10_busy : am_MD mX10_busy 1 := ⟨tw_1106, tw_95, by decide +kernel, by decide⟩
abbrev mX10_log : am_M := (yX10_log, cX10_log, 2, some (.int))
theorem md_X10_log : am_MD mX10_log 1 := ⟨tw_1110, tw_95, by decide +kernel, by decide⟩
abbrev mX10_begin : am_M := (yX10_begin, cX10_begin, 3, some (.int))
theorem md_X10_begin : am_MD mX10_begin 1 := ⟨tw_1114, tw_95, by decide +kernel, by decide⟩
abbrev mX10_open : am_M := (yX10_open, cX10_open, 2, none)
theorem md_X10_open : am_MD mX10_open 1 := ⟨tw_1118, tw_95, by decide +kernel, by decide⟩
abbrev mX10_copy : am_M := (yX10_copy, cX10_copy, 8, none)
theorem md_X10_copy : am_MD mX10_copy 3 := ⟨tw_1122, tw_95, by decide +kernel, by decide⟩
abbrev mX10_part : am_M := (yX10_part, cX10_part, 3, some (.int))
theorem md_X10_part : am_MD mX10_part 3 := ⟨tw_1125, tw_95, by decide +kernel, by decide⟩
abbrev mX10_commit : am_M := (yX10_commit, cX10_commit, 4, some (.int))
theorem md_X10_commit : am_MD mX10_commit 1 := ⟨tw_1129, tw_95, by decide +kernel, by decide⟩
abbrev mX10_records : am_M := (yX10_records, cX10_records, 8, some (.int))
theorem md_X10_records : am_MD mX10_records 1 := ⟨tw_1133, tw_95, by decide +kernel, by decide⟩
abbrev mX10_find : am_M := (yX10_find, cX10_find, 4, some (.int))
theorem md_X10_find : am_MD mX10_find 2 := ⟨tw_1137, tw_95, by decide +kernel, by decide⟩
abbrev mX10_abort : am_M := (yX10_abort, cX10_abort, 2, some (.int))
theorem md_X10_abort : am_MD mX10_abort 1 := ⟨tw_1141, tw_95, by decide +kernel, by decide⟩
abbrev mX10_checkpoint : am_M := (yX10_checkpoint, cX10_checkpoint, 4, some (.int))
theorem md_X10_checkpoint : am_MD mX10_checkpoint 1 := ⟨tw_1145, tw_95, by decide +kernel, by decide⟩
abbrev mX10_cut : am_M := (yX10_cut, cX10_cut, 5, some (.int))
theorem md_X10_cut : am_MD mX10_cut 2 := ⟨tw_1149, tw_95, by decide +kernel, by decide⟩
abbrev mX10_crash : am_M := (yX10_crash, cX10_crash, 2, none)
theorem md_X10_crash : am_MD mX10_crash 0 := ⟨tw_1153, tw_95, by decide +kernel, by decide⟩
abbrev mX10_write : am_M := (yX10_write, cX10_write, 7, some (.boolean))
theorem md_X10_write : am_MD mX10_write 2 := ⟨tw_1158, tw_95, by decide +kernel, by decide⟩
abbrev mX10_draft : am_M := (yX10_draft, cX10_draft, 2, some (.int))
theorem md_X10_draft : am_MD mX10_draft 1 := ⟨tw_1163, tw_95, by decide +kernel, by decide⟩
abbrev mX10_run : am_M := (yX10_run, cX10_run, 5, some (.int))
theorem md_X10_run : am_MD mX10_run 1 := ⟨tw_1167, tw_95, by decide +kernel, by decide⟩
abbrev mX10_clear : am_M := (yX10_clear, cX10_clear, 1, none)
theorem md_X10_clear : am_MD mX10_clear 0 := ⟨tw_1171, tw_95, by decide +kernel, by decide⟩
abbrev mX10_split : am_M := (yX10_split, cX10_split, 8, none)
theorem md_X10_split : am_MD mX10_split 1 := ⟨tw_1175, tw_95, by decide +kernel, by decide⟩
abbrev mX10_sign : am_M := (yX10_sign, cX10_sign, 1, some (.boolean))
theorem md_X10_sign : am_MD mX10_sign 1 := ⟨tw_1178, tw_95, by decide +kernel, by decide⟩
abbrev mX10_letter : am_M := (yX10_letter, cX10_letter, 1, some (.boolean))
theorem md_X10_letter : am_MD mX10_letter 1 := ⟨tw_1181, tw_95, by decide +kernel, by decide⟩
abbrev mX10_digit : am_M := (yX10_digit, cX10_digit, 1, some (.boolean))
theorem md_X10_digit : am_MD mX10_digit 1 := ⟨tw_1184, tw_95, by decide +kernel, by decide⟩
abbrev mX10_statement : am_M := (yX10_statement, cX10_statement, 2, none)
theorem md_X10_statement : am_MD mX10_statement 0 := ⟨tw_1188, tw_95, by decide +kernel, by decide⟩
abbrev mX10_word : am_M := (yX10_word, cX10_word, 7, some (.int))
theorem md_X10_word : am_MD mX10_word 6 := ⟨tw_1191, tw_95, by decide +kernel, by decide⟩
abbrev mX10_name : am_M := (yX10_name, cX10_name, 1, none)
theorem md_X10_name : am_MD mX10_name 0 := ⟨tw_1195, tw_95, by decide +kernel, by decide⟩
abbrev mX10_take : am_M := (yX10_take, cX10_take, 4, some (.int))
theorem md_X10_take : am_MD mX10_take 1 := ⟨tw_1199, tw_95, by decide +kernel, by decide⟩
abbrev mX10_term : am_M := (yX10_term, cX10_term, 4, none)
theorem md_X10_term : am_MD mX10_term 2 := ⟨tw_1203, tw_95, by decide +kernel, by decide⟩
abbrev mX10_takeWord : am_M := (yX10_takeWord, cX10_takeWord, 3, some (.boolean))
theorem md_X10_takeWord : am_MD mX10_takeWord 1 := ⟨tw_1207, tw_95, by decide +kernel, by decide⟩
abbrev mX10_takeSign : am_M := (yX10_takeSign, cX10_takeSign, 3, some (.boolean))
theorem md_X10_takeSign : am_MD mX10_takeSign 1 := ⟨tw_1211, tw_95, by decide +kernel, by decide⟩
abbrev mX10_isSign : am_M := (yX10_isSign, cX10_isSign, 2, some (.boolean))
theorem md_X10_isSign : am_MD mX10_isSign 1 := ⟨tw_1215, tw_95, by decide +kernel, by decide⟩
abbrev mX10_expression : am_M := (yX10_expression, cX10_expression, 2, none)
theorem md_X10_expression : am_MD mX10_expression 0 := ⟨tw_1219, tw_95, by decide +kernel, by decide⟩
abbrev mX10_operand : am_M := (yX10_operand, cX10_operand, 2, none)
theorem md_X10_operand : am_MD mX10_operand 0 := ⟨tw_1223, tw_95, by decide +kernel, by decide⟩
abbrev mX10_emit : am_M := (yX10_emit, cX10_emit, 3, none)
theorem md_X10_emit : am_MD mX10_emit 2 := ⟨tw_1227, tw_95, by decide +kernel, by decide⟩
abbrev mX10_col : am_M := (yX10_col, cX10_col, 5, some (.int))
theorem md_X10_col : am_MD mX10_col 0 := ⟨tw_1231, tw_95, by decide +kernel, by decide⟩
abbrev mX10_signs : am_M := (yX10_signs, cX10_signs, 1, none)
theorem md_X10_signs : am_MD mX10_signs 0 := ⟨tw_1235, tw_95, by decide +kernel, by decide⟩
abbrev mX10_last : am_M := (yX10_last, cX10_last, 1, some (.int))
theorem md_X10_last : am_MD mX10_last 0 := ⟨tw_1239, tw_95, by decide +kernel, by decide⟩
abbrev mX10_operator : am_M := (yX10_operator, cX10_operator, 4, some (.boolean))
theorem md_X10_operator : am_MD mX10_operator 0 := ⟨tw_1243, tw_95, by decide +kernel, by decide⟩
abbrev mX10_perhapsWhere : am_M := (yX10_perhapsWhere, cX10_perhapsWhere, 1, none)
theorem md_X10_perhapsWhere : am_MD mX10_perhapsWhere 0 := ⟨tw_1247, tw_95, by decide +kernel, by decide⟩
abbrev mX10_condition : am_M := (yX10_condition, cX10_condition, 2, none)
theorem md_X10_condition : am_MD mX10_condition 0 := ⟨tw_1251, tw_95, by decide +kernel, by decide⟩
abbrev mX10_single : am_M := (yX10_single, cX10_single, 3, some (.boolean))
theorem md_X10_single : am_MD mX10_single 0 := ⟨tw_1255, tw_95, by decide +kernel, by decide⟩
abbrev mX10_keep : am_M := (yX10_keep, cX10_keep, 2, none)
theorem md_X10_keep : am_MD mX10_keep 1 := ⟨tw_1259, tw_95, by decide +kernel, by decide⟩
abbrev mX10_nots : am_M := (yX10_nots, cX10_nots, 1, none)
theorem md_X10_nots : am_MD mX10_nots 0 := ⟨tw_1263, tw_95, by decide +kernel, by decide⟩
abbrev mX10_unhold : am_M := (yX10_unhold, cX10_unhold, 1, none)
theorem md_X10_unhold : am_MD mX10_unhold 0 := ⟨tw_1267, tw_95, by decide +kernel, by decide⟩
abbrev mX10_connect : am_M := (yX10_connect, cX10_connect, 4, some (.int))
theorem md_X10_connect : am_MD mX10_connect 0 := ⟨tw_1271, tw_95, by decide +kernel, by decide⟩
abbrev mX10_selection : am_M := (yX10_selection, cX10_selection, 3, none)
theorem md_X10_selection : am_MD mX10_selection 0 := ⟨tw_1275, tw_95, by decide +kernel, by decide⟩
abbrev mX10_known : am_M := (yX10_known, cX10_known, 4, some (.boolean))
theorem md_X10_known : am_MD mX10_known 0 := ⟨tw_1279, tw_95, by decide +kernel, by decide⟩
abbrev mX10_isSelect : am_M := (yX10_isSelect, cX10_isSelect, 1, some (.boolean))
theorem md_X10_isSelect : am_MD mX10_isSelect 0 := ⟨tw_1283, tw_95, by decide +kernel, by decide⟩
abbrev mX10_select : am_M := (yX10_select, cX10_select, 6, some (.int))
theorem md_X10_select : am_MD mX10_select 1 := ⟨tw_1287, tw_95, by decide +kernel, by decide⟩
abbrev mX10_look : am_M := (yX10_look, cX10_look, 10, none)
theorem md_X10_look : am_MD mX10_look 3 := ⟨tw_1291, tw_95, by decide +kernel, by decide⟩
abbrev mX10_version : am_M := (yX10_version, cX10_version, 2, some (.int))
theorem md_X10_version : am_MD mX10_version 1 := ⟨tw_1295, tw_95, by decide +kernel, by decide⟩
abbrev mX10_hidden : am_M := (yX10_hidden, cX10_hidden, 7, some (.boolean))
theorem md_X10_hidden : am_MD mX10_hidden 2 := ⟨tw_1299, tw_95, by decide +kernel, by decide⟩
abbrev mX10_holdsTrue : am_M := (yX10_holdsTrue, cX10_holdsTrue, 1, some (.boolean))
theorem md_X10_holdsTrue : am_MD mX10_holdsTrue 0 := ⟨tw_1303, tw_95, by decide +kernel, by decide⟩
abbrev mX10_worked : am_M := (yX10_worked, cX10_worked, 6, some (.int))
theorem md_X10_worked : am_MD mX10_worked 2 := ⟨tw_1307, tw_95, by decide +kernel, by decide⟩
abbrev mX10_joined : am_M := (yX10_joined, cX10_joined, 4, some (.int))
theorem md_X10_joined : am_MD mX10_joined 3 := ⟨tw_1310, tw_95, by decide +kernel, by decide⟩
abbrev mX10_gather : am_M := (yX10_gather, cX10_gather, 6, none)
theorem md_X10_gather : am_MD mX10_gather 0 := ⟨tw_1314, tw_95, by decide +kernel, by decide⟩
abbrev mX10_point : am_M := (yX10_point, cX10_point, 2, none)
theorem md_X10_point : am_MD mX10_point 1 := ⟨tw_1318, tw_95, by decide +kernel, by decide⟩
abbrev mX10_total : am_M := (yX10_total, cX10_total, 5, some (.int))
theorem md_X10_total : am_MD mX10_total 2 := ⟨tw_1322, tw_95, by decide +kernel, by decide⟩
abbrev mX10_ahead : am_M := (yX10_ahead, cX10_ahead, 3, some (.boolean))
theorem md_X10_ahead : am_MD mX10_ahead 2 := ⟨tw_1326, tw_95, by decide +kernel, by decide⟩
abbrev mX10_changed : am_M := (yX10_changed, cX10_changed, 8, some (.int))
theorem md_X10_changed : am_MD mX10_changed 3 := ⟨tw_1330, tw_95, by decide +kernel, by decide⟩
abbrev mX10_insert : am_M := (yX10_insert, cX10_insert, 6, none)
theorem md_X10_insert : am_MD mX10_insert 4 := ⟨tw_1334, tw_95, by decide +kernel, by decide⟩
abbrev mX10_deleted : am_M := (yX10_deleted, cX10_deleted, 5, some (.int))
theorem md_X10_deleted : am_MD mX10_deleted 2 := ⟨tw_1338, tw_95, by decide +kernel, by decide⟩
abbrev mX10_remove : am_M := (yX10_remove, cX10_remove, 4, none)
theorem md_X10_remove : am_MD mX10_remove 2 := ⟨tw_1342, tw_95, by decide +kernel, by decide⟩
abbrev mX10_updated : am_M := (yX10_updated, cX10_updated, 10, some (.int))
theorem md_X10_updated : am_MD mX10_updated 2 := ⟨tw_1346, tw_95, by decide +kernel, by decide⟩
abbrev mX10_makes : am_M := (yX10_makes, cX10_makes, 6, some (.boolean))
theorem md_X10_makes : am_MD mX10_makes 2 := ⟨tw_1350, tw_95, by decide +kernel, by decide⟩
abbrev mX10_rows : am_M := (yX10_rows, cX10_rows, 3, some (.int))
theorem md_X10_rows : am_MD mX10_rows 2 := ⟨tw_1355, tw_95, by decide +kernel, by decide⟩
abbrev mX10_cell : am_M := (yX10_cell, cX10_cell, 5, some (.int))
theorem md_X10_cell : am_MD mX10_cell 4 := ⟨tw_1359, tw_95, by decide +kernel, by decide⟩
abbrev mX10_results : am_M := (yX10_results, cX10_results, 2, some (.int))
theorem md_X10_results : am_MD mX10_results 1 := ⟨tw_1363, tw_95, by decide +kernel, by decide⟩
abbrev mX10_value : am_M := (yX10_value, cX10_value, 4, some (.int))
theorem md_X10_value : am_MD mX10_value 3 := ⟨tw_1367, tw_95, by decide +kernel, by decide⟩
abbrev mL_law : am_M := (yL_law, cL_law, 4, some .boolean)
theorem fl_RJ0_15 : am_FL RJ0 15 11 1 := ⟨_, rfl, by decide, tw_1371⟩
theorem fl_RJ0_9 : am_FL RJ0 9 11 0 := ⟨_, rfl, by decide, tw_1370⟩
theorem fl_RX0_11 : am_FL RX0 11 0 0 := ⟨_, rfl, by decide, tw_158⟩
theorem fl_RX0_17 : am_FL RX0 17 0 1 := ⟨_, rfl, by decide, tw_162⟩
theorem fl_RX0_21 : am_FL RX0 21 0 2 := ⟨_, rfl, by decide, tw_163⟩
theorem fl_RX0_25 : am_FL RX0 25 0 3 := ⟨_, rfl, by decide, tw_164⟩
theorem fl_RX0_28 : am_FL RX0 28 0 4 := ⟨_, rfl, by decide, tw_165⟩
theorem fl_RX10_101 : am_FL RX10 101 10 53 := ⟨_, rfl, by decide, tw_986⟩
theorem fl_RX10_13 : am_FL RX10 13 10 1 := ⟨_, rfl, by decide, tw_934⟩
theorem fl_RX10_143 : am_FL RX10 143 10 13 := ⟨_, rfl, by decide, tw_946⟩
theorem fl_RX10_147 : am_FL RX10 147 10 11 := ⟨_, rfl, by decide, tw_944⟩
theorem fl_RX10_151 : am_FL RX10 151 10 12 := ⟨_, rfl, by decide, tw_945⟩
theorem fl_RX10_16 : am_FL RX10 16 10 2 := ⟨_, rfl, by decide, tw_935⟩
theorem fl_RX10_167 : am_FL RX10 167 10 18 := ⟨_, rfl, by decide, tw_951⟩
theorem fl_RX10_170 : am_FL RX10 170 10 19 := ⟨_, rfl, by decide, tw_952⟩
theorem fl_RX10_177 : am_FL RX10 177 10 21 := ⟨_, rfl, by decide, tw_954⟩
theorem fl_RX10_184 : am_FL RX10 184 10 22 := ⟨_, rfl, by decide, tw_955⟩
theorem fl_RX10_187 : am_FL RX10 187 10 23 := ⟨_, rfl, by decide, tw_956⟩
theorem fl_RX10_19 : am_FL RX10 19 10 3 := ⟨_, rfl, by decide, tw_936⟩
theorem fl_RX10_203 : am_FL RX10 203 10 20 := ⟨_, rfl, by decide, tw_953⟩
theorem fl_RX10_22 : am_FL RX10 22 10 4 := ⟨_, rfl, by decide, tw_937⟩
theorem fl_RX10_221 : am_FL RX10 221 10 32 := ⟨_, rfl, by decide, tw_965⟩
theorem fl_RX10_224 : am_FL RX10 224 10 37 := ⟨_, rfl, by decide, tw_970⟩
theorem fl_RX10_233 : am_FL RX10 233 10 38 := ⟨_, rfl, by decide, tw_971⟩
theorem fl_RX10_236 : am_FL RX10 236 10 25 := ⟨_, rfl, by decide, tw_958⟩
theorem fl_RX10_242 : am_FL RX10 242 10 24 := ⟨_, rfl, by decide, tw_957⟩
theorem fl_RX10_25 : am_FL RX10 25 10 5 := ⟨_, rfl, by decide, tw_938⟩
theorem fl_RX10_252 : am_FL RX10 252 10 26 := ⟨_, rfl, by decide, tw_959⟩
theorem fl_RX10_261 : am_FL RX10 261 10 33 := ⟨_, rfl, by decide, tw_966⟩
theorem fl_RX10_264 : am_FL RX10 264 10 27 := ⟨_, rfl, by decide, tw_960⟩
theorem fl_RX10_267 : am_FL RX10 267 10 34 := ⟨_, rfl, by decide, tw_967⟩
theorem fl_RX10_270 : am_FL RX10 270 10 39 := ⟨_, rfl, by decide, tw_972⟩
theorem fl_RX10_273 : am_FL RX10 273 10 35 := ⟨_, rfl, by decide, tw_968⟩
theorem fl_RX10_276 : am_FL RX10 276 10 36 := ⟨_, rfl, by decide, tw_969⟩
theorem fl_RX10_28 : am_FL RX10 28 10 6 := ⟨_, rfl, by decide, tw_939⟩
theorem fl_RX10_31 : am_FL RX10 31 10 7 := ⟨_, rfl, by decide, tw_940⟩
theorem fl_RX10_335 : am_FL RX10 335 10 44 := ⟨_, rfl, by decide, tw_977⟩
theorem fl_RX10_344 : am_FL RX10 344 10 45 := ⟨_, rfl, by decide, tw_978⟩
theorem fl_RX10_35 : am_FL RX10 35 10 8 := ⟨_, rfl, by decide, tw_941⟩
theorem fl_RX10_38 : am_FL RX10 38 10 9 := ⟨_, rfl, by decide, tw_942⟩
theorem fl_RX10_41 : am_FL RX10 41 10 10 := ⟨_, rfl, by decide, tw_943⟩
theorem fl_RX10_44 : am_FL RX10 44 10 14 := ⟨_, rfl, by decide, tw_947⟩
theorem fl_RX10_47 : am_FL RX10 47 10 15 := ⟨_, rfl, by decide, tw_948⟩
theorem fl_RX10_50 : am_FL RX10 50 10 16 := ⟨_, rfl, by decide, tw_949⟩
theorem fl_RX10_53 : am_FL RX10 53 10 17 := ⟨_, rfl, by decide, tw_950⟩
theorem fl_RX10_56 : am_FL RX10 56 10 28 := ⟨_, rfl, by decide, tw_961⟩
theorem fl_RX10_59 : am_FL RX10 59 10 29 := ⟨_, rfl, by decide, tw_962⟩
theorem fl_RX10_62 : am_FL RX10 62 10 30 := ⟨_, rfl, by decide, tw_963⟩
theorem fl_RX10_65 : am_FL RX10 65 10 31 := ⟨_, rfl, by decide, tw_964⟩
theorem fl_RX10_68 : am_FL RX10 68 10 40 := ⟨_, rfl, by decide, tw_973⟩
theorem fl_RX10_7 : am_FL RX10 7 10 0 := ⟨_, rfl, by decide, tw_933⟩
theorem fl_RX10_71 : am_FL RX10 71 10 41 := ⟨_, rfl, by decide, tw_974⟩
theorem fl_RX10_74 : am_FL RX10 74 10 42 := ⟨_, rfl, by decide, tw_975⟩
theorem fl_RX10_77 : am_FL RX10 77 10 43 := ⟨_, rfl, by decide, tw_976⟩
theorem fl_RX10_80 : am_FL RX10 80 10 46 := ⟨_, rfl, by decide, tw_979⟩
theorem fl_RX10_83 : am_FL RX10 83 10 47 := ⟨_, rfl, by decide, tw_980⟩
theorem fl_RX10_86 : am_FL RX10 86 10 48 := ⟨_, rfl, by decide, tw_981⟩
theorem fl_RX10_89 : am_FL RX10 89 10 49 := ⟨_, rfl, by decide, tw_982⟩
theorem fl_RX10_92 : am_FL RX10 92 10 50 := ⟨_, rfl, by decide, tw_983⟩
theorem fl_RX10_95 : am_FL RX10 95 10 51 := ⟨_, rfl, by decide, tw_984⟩
theorem fl_RX10_98 : am_FL RX10 98 10 52 := ⟨_, rfl, by decide, tw_985⟩
theorem fl_RX1_113 : am_FL RX1 113 6 5 := ⟨_, rfl, by decide, tw_193⟩
theorem fl_RX1_12 : am_FL RX1 12 1 0 := ⟨_, rfl, by decide, tw_257⟩
theorem fl_RX1_125 : am_FL RX1 125 6 1 := ⟨_, rfl, by decide, tw_183⟩
theorem fl_RX1_132 : am_FL RX1 132 6 6 := ⟨_, rfl, by decide, tw_197⟩
theorem fl_RX1_138 : am_FL RX1 138 6 4 := ⟨_, rfl, by decide, tw_191⟩
theorem fl_RX1_144 : am_FL RX1 144 6 9 := ⟨_, rfl, by decide, tw_206⟩
theorem fl_RX1_150 : am_FL RX1 150 0 0 := ⟨_, rfl, by decide, tw_161⟩
theorem fl_RX1_159 : am_FL RX1 159 6 10 := ⟨_, rfl, by decide, tw_208⟩
theorem fl_RX1_165 : am_FL RX1 165 6 2 := ⟨_, rfl, by decide, tw_184⟩
theorem fl_RX1_183 : am_FL RX1 183 6 8 := ⟨_, rfl, by decide, tw_203⟩
theorem fl_RX1_198 : am_FL RX1 198 8 1 := ⟨_, rfl, by decide, tw_1372⟩
theorem fl_RX1_199 : am_FL RX1 199 6 11 := ⟨_, rfl, by decide, tw_211⟩
theorem fl_RX1_21 : am_FL RX1 21 1 1 := ⟨_, rfl, by decide, tw_259⟩
theorem fl_RX1_234 : am_FL RX1 234 3 1 := ⟨_, rfl, by decide, tw_251⟩
theorem fl_RX1_29 : am_FL RX1 29 1 2 := ⟨_, rfl, by decide, tw_260⟩
theorem fl_RX1_33 : am_FL RX1 33 1 3 := ⟨_, rfl, by decide, tw_261⟩
theorem fl_RX1_44 : am_FL RX1 44 6 0 := ⟨_, rfl, by decide, tw_179⟩
theorem fl_RX1_76 : am_FL RX1 76 6 3 := ⟨_, rfl, by decide, tw_186⟩
theorem fl_RX1_91 : am_FL RX1 91 3 0 := ⟨_, rfl, by decide, tw_249⟩
theorem fl_RX1_95 : am_FL RX1 95 6 7 := ⟨_, rfl, by decide, tw_200⟩
theorem fl_RX2_11 : am_FL RX2 11 2 0 := ⟨_, rfl, by decide, tw_121⟩
theorem fl_RX2_16 : am_FL RX2 16 2 1 := ⟨_, rfl, by decide, tw_125⟩
theorem fl_RX3_11 : am_FL RX3 11 3 0 := ⟨_, rfl, by decide, tw_248⟩
theorem fl_RX3_17 : am_FL RX3 17 3 1 := ⟨_, rfl, by decide, tw_250⟩
theorem fl_RX4_102 : am_FL RX4 102 6 1 := ⟨_, rfl, by decide, tw_182⟩
theorem fl_RX4_112 : am_FL RX4 112 2 0 := ⟨_, rfl, by decide, tw_122⟩
theorem fl_RX4_128 : am_FL RX4 128 6 9 := ⟨_, rfl, by decide, tw_205⟩
theorem fl_RX4_132 : am_FL RX4 132 0 0 := ⟨_, rfl, by decide, tw_159⟩
theorem fl_RX4_14 : am_FL RX4 14 4 0 := ⟨_, rfl, by decide, tw_279⟩
theorem fl_RX4_148 : am_FL RX4 148 6 10 := ⟨_, rfl, by decide, tw_209⟩
theorem fl_RX4_154 : am_FL RX4 154 6 2 := ⟨_, rfl, by decide, tw_185⟩
theorem fl_RX4_20 : am_FL RX4 20 4 1 := ⟨_, rfl, by decide, tw_281⟩
theorem fl_RX4_23 : am_FL RX4 23 4 4 := ⟨_, rfl, by decide, tw_285⟩
theorem fl_RX4_27 : am_FL RX4 27 4 5 := ⟨_, rfl, by decide, tw_286⟩
theorem fl_RX4_30 : am_FL RX4 30 4 7 := ⟨_, rfl, by decide, tw_288⟩
theorem fl_RX4_33 : am_FL RX4 33 4 8 := ⟨_, rfl, by decide, tw_289⟩
theorem fl_RX4_36 : am_FL RX4 36 4 9 := ⟨_, rfl, by decide, tw_290⟩
theorem fl_RX4_39 : am_FL RX4 39 4 10 := ⟨_, rfl, by decide, tw_291⟩
theorem fl_RX4_42 : am_FL RX4 42 4 2 := ⟨_, rfl, by decide, tw_283⟩
theorem fl_RX4_56 : am_FL RX4 56 4 6 := ⟨_, rfl, by decide, tw_287⟩
theorem fl_RX4_60 : am_FL RX4 60 5 4 := ⟨_, rfl, by decide, tw_364⟩
theorem fl_RX4_65 : am_FL RX4 65 6 6 := ⟨_, rfl, by decide, tw_195⟩
theorem fl_RX4_70 : am_FL RX4 70 5 5 := ⟨_, rfl, by decide, tw_367⟩
theorem fl_RX4_73 : am_FL RX4 73 5 3 := ⟨_, rfl, by decide, tw_363⟩
theorem fl_RX4_77 : am_FL RX4 77 6 7 := ⟨_, rfl, by decide, tw_199⟩
theorem fl_RX4_85 : am_FL RX4 85 4 3 := ⟨_, rfl, by decide, tw_284⟩
theorem fl_RX4_91 : am_FL RX4 91 2 1 := ⟨_, rfl, by decide, tw_126⟩
theorem fl_RX5_17 : am_FL RX5 17 5 3 := ⟨_, rfl, by decide, tw_362⟩
theorem fl_RX5_20 : am_FL RX5 20 5 0 := ⟨_, rfl, by decide, tw_356⟩
theorem fl_RX5_24 : am_FL RX5 24 5 2 := ⟨_, rfl, by decide, tw_360⟩
theorem fl_RX5_28 : am_FL RX5 28 5 4 := ⟨_, rfl, by decide, tw_365⟩
theorem fl_RX5_31 : am_FL RX5 31 5 5 := ⟨_, rfl, by decide, tw_368⟩
theorem fl_RX5_9 : am_FL RX5 9 5 1 := ⟨_, rfl, by decide, tw_358⟩
theorem fl_RX6_15 : am_FL RX6 15 6 0 := ⟨_, rfl, by decide, tw_178⟩
theorem fl_RX6_22 : am_FL RX6 22 6 7 := ⟨_, rfl, by decide, tw_198⟩
theorem fl_RX6_27 : am_FL RX6 27 6 8 := ⟨_, rfl, by decide, tw_202⟩
theorem fl_RX6_31 : am_FL RX6 31 6 9 := ⟨_, rfl, by decide, tw_204⟩
theorem fl_RX6_34 : am_FL RX6 34 6 10 := ⟨_, rfl, by decide, tw_207⟩
theorem fl_RX6_37 : am_FL RX6 37 6 11 := ⟨_, rfl, by decide, tw_210⟩
theorem fl_RX6_43 : am_FL RX6 43 6 12 := ⟨_, rfl, by decide, tw_212⟩
theorem fl_RX6_46 : am_FL RX6 46 6 4 := ⟨_, rfl, by decide, tw_190⟩
theorem fl_RX6_53 : am_FL RX6 53 6 3 := ⟨_, rfl, by decide, tw_187⟩
theorem fl_RX6_70 : am_FL RX6 70 6 6 := ⟨_, rfl, by decide, tw_196⟩
theorem fl_RX6_73 : am_FL RX6 73 0 0 := ⟨_, rfl, by decide, tw_160⟩
theorem fl_RX7_107 : am_FL RX7 107 2 0 := ⟨_, rfl, by decide, tw_123⟩
theorem fl_RX7_11 : am_FL RX7 11 7 1 := ⟨_, rfl, by decide, tw_325⟩
theorem fl_RX7_122 : am_FL RX7 122 6 5 := ⟨_, rfl, by decide, tw_194⟩
theorem fl_RX7_17 : am_FL RX7 17 7 2 := ⟨_, rfl, by decide, tw_327⟩
theorem fl_RX7_20 : am_FL RX7 20 7 3 := ⟨_, rfl, by decide, tw_329⟩
theorem fl_RX7_27 : am_FL RX7 27 7 5 := ⟨_, rfl, by decide, tw_333⟩
theorem fl_RX7_31 : am_FL RX7 31 7 6 := ⟨_, rfl, by decide, tw_334⟩
theorem fl_RX7_35 : am_FL RX7 35 7 0 := ⟨_, rfl, by decide, tw_323⟩
theorem fl_RX7_46 : am_FL RX7 46 7 4 := ⟨_, rfl, by decide, tw_331⟩
theorem fl_RX7_61 : am_FL RX7 61 2 1 := ⟨_, rfl, by decide, tw_127⟩
theorem fl_RX7_64 : am_FL RX7 64 6 3 := ⟨_, rfl, by decide, tw_188⟩
theorem fl_RX7_69 : am_FL RX7 69 6 0 := ⟨_, rfl, by decide, tw_181⟩
theorem fl_RX7_92 : am_FL RX7 92 6 7 := ⟨_, rfl, by decide, tw_201⟩
theorem fl_RX8_139 : am_FL RX8 139 8 0 := ⟨_, rfl, by decide, tw_1369⟩
theorem fl_RX9_107 : am_FL RX9 107 7 3 := ⟨_, rfl, by decide, tw_330⟩
theorem fl_RX9_11 : am_FL RX9 11 9 0 := ⟨_, rfl, by decide, tw_383⟩
theorem fl_RX9_135 : am_FL RX9 135 7 4 := ⟨_, rfl, by decide, tw_332⟩
theorem fl_RX9_145 : am_FL RX9 145 2 1 := ⟨_, rfl, by decide, tw_128⟩
theorem fl_RX9_148 : am_FL RX9 148 2 0 := ⟨_, rfl, by decide, tw_124⟩
theorem fl_RX9_152 : am_FL RX9 152 5 4 := ⟨_, rfl, by decide, tw_366⟩
theorem fl_RX9_159 : am_FL RX9 159 7 2 := ⟨_, rfl, by decide, tw_328⟩
theorem fl_RX9_17 : am_FL RX9 17 9 1 := ⟨_, rfl, by decide, tw_384⟩
theorem fl_RX9_171 : am_FL RX9 171 7 1 := ⟨_, rfl, by decide, tw_326⟩
theorem fl_RX9_174 : am_FL RX9 174 6 3 := ⟨_, rfl, by decide, tw_189⟩
theorem fl_RX9_177 : am_FL RX9 177 4 0 := ⟨_, rfl, by decide, tw_280⟩
theorem fl_RX9_182 : am_FL RX9 182 6 4 := ⟨_, rfl, by decide, tw_192⟩
theorem fl_RX9_185 : am_FL RX9 185 4 1 := ⟨_, rfl, by decide, tw_282⟩
theorem fl_RX9_26 : am_FL RX9 26 9 2 := ⟨_, rfl, by decide, tw_385⟩
theorem fl_RX9_33 : am_FL RX9 33 9 3 := ⟨_, rfl, by decide, tw_386⟩
theorem fl_RX9_39 : am_FL RX9 39 1 0 := ⟨_, rfl, by decide, tw_258⟩
theorem fl_RX9_46 : am_FL RX9 46 9 4 := ⟨_, rfl, by decide, tw_387⟩
theorem fl_RX9_62 : am_FL RX9 62 5 1 := ⟨_, rfl, by decide, tw_359⟩
theorem fl_RX9_66 : am_FL RX9 66 5 2 := ⟨_, rfl, by decide, tw_361⟩
theorem fl_RX9_80 : am_FL RX9 80 6 0 := ⟨_, rfl, by decide, tw_180⟩
theorem fl_RX9_89 : am_FL RX9 89 5 0 := ⟨_, rfl, by decide, tw_357⟩
theorem fl_RX9_97 : am_FL RX9 97 7 0 := ⟨_, rfl, by decide, tw_324⟩
