theorem w_179 : Cond.methodLink "DearLetters" 3 ⟨"java/lang/Object", "<init>", "()V"⟩ ∈ z_tbl := z_tbl_in (List.mem_of_getElem? (i := 179) (by decide +kernel)) rfl
theorem w_180 : Cond.instanceMethod ⟨"java/lang/Object", "<init>", "()V"⟩ ∈ z_tbl := z_tbl_in (List.mem_of_getElem? (i := 180) (by decide +kernel)) rfl
theorem w_181 : Cond.code ⟨"java/lang/Object", "<init>", "()V"⟩ object_method_1_code 1 none ∈ z_tbl := z_tbl_in (List.mem_of_getElem? (i := 181) (by decide +kernel)) rfl
theorem w_182 : Cond.classLink "DearLetters" 9 "DearLetters$Text" ∈ z_tbl := z_tbl_in (List.mem_of_getElem? (i := 182) (by decide +kernel)) rfl
theorem w_183 : Cond.instantiable "DearLetters$Text" 11 ∈ z_tbl := z_tbl_in (List.mem_of_getElem? (i := 183) (by decide +kernel)) rfl
theorem ln_11_9 : z_LN "DearLetters" 9 10 := ⟨by decide, w_182, w_183, w_155⟩
theorem zk_1 : z_kind 1 = (10, 0) := by decide +kernel
abbrev mX10_init : z_Y := (yX10_init, cX10_init, 4, none)
theorem w_184 : Cond.methodLink "DearLetters" 11 ⟨"DearLetters$Text", "<init>", "()V"⟩ ∈ z_tbl := z_tbl_in (List.mem_of_getElem? (i := 184) (by decide +kernel)) rfl
theorem w_186 : Cond.code ⟨"DearLetters$Text", "<init>", "()V"⟩ prog_12_method_1_code 4 none ∈ z_tbl := z_tbl_in (List.mem_of_getElem? (i := 186) (by decide +kernel)) rfl
theorem w_185 : Cond.instanceMethod ⟨"DearLetters$Text", "<init>", "()V"⟩ ∈ z_tbl := z_tbl_in (List.mem_of_getElem? (i := 185) (by decide +kernel)) rfl
theorem li_11_11 : z_LI "DearLetters" 11 mX10_init 0 := ⟨⟨w_184, w_155, w_186, ⟨by decide, by decide, by decide +kernel⟩, by decide⟩, rfl, rfl, w_185⟩
theorem ff_11_12 : z_FF "DearLetters" 12 11 0 := ⟨fl_11_12, rfl, rfl, rfl, fun _ => rfl, fun _ => rfl⟩
theorem zk_0 : z_kind 0 = (11, 0) := by decide +kernel
theorem w_288 : Cond.classLink "DearLetters" 16 "DearLetters$Machine" ∈ z_tbl := z_tbl_in (List.mem_of_getElem? (i := 288) (by decide +kernel)) rfl
theorem w_289 : Cond.instantiable "DearLetters$Machine" 4 ∈ z_tbl := z_tbl_in (List.mem_of_getElem? (i := 289) (by decide +kernel)) rfl
theorem ln_11_16 : z_LN "DearLetters" 16 4 := ⟨by decide, w_288, w_289, w_160⟩
theorem zk_4 : z_kind 4 = (4, 0) := by decide +kernel
theorem w_293 : Cond.methodLink "DearLetters$Machine" 3 ⟨"java/lang/Object", "<init>", "()V"⟩ ∈ z_tbl := z_tbl_in (List.mem_of_getElem? (i := 293) (by decide +kernel)) rfl
theorem w_286 : Cond.arrayClass FieldType.int ∈ z_tbl := z_tbl_in (List.mem_of_getElem? (i := 286) (by decide +kernel)) rfl
theorem zk_5 : z_kind 5 = (20, 10) := by decide +kernel
theorem ff_4_9 : z_FF "DearLetters$Machine" 9 4 0 := ⟨fl_4_9, rfl, rfl, rfl, fun _ => rfl, fun _ => rfl⟩
theorem zk_6 : z_kind 6 = (20, 4) := by decide +kernel
theorem ff_4_15 : z_FF "DearLetters$Machine" 15 4 1 := ⟨fl_4_15, rfl, rfl, rfl, fun _ => rfl, fun _ => rfl⟩
theorem zk_7 : z_kind 7 = (20, 64) := by decide +kernel
theorem ff_4_18 : z_FF "DearLetters$Machine" 18 4 2 := ⟨fl_4_18, rfl, rfl, rfl, fun _ => rfl, fun _ => rfl⟩
abbrev mX4_init : z_Y := (yX4_init, cX4_init, 1, none)
theorem w_292 : Cond.code ⟨"DearLetters$Machine", "<init>", "()V"⟩ prog_6_method_1_code 1 none ∈ z_tbl := z_tbl_in (List.mem_of_getElem? (i := 292) (by decide +kernel)) rfl
theorem w_291 : Cond.instanceMethod ⟨"DearLetters$Machine", "<init>", "()V"⟩ ∈ z_tbl := z_tbl_in (List.mem_of_getElem? (i := 291) (by decide +kernel)) rfl
theorem lin_11_18 : z_LIN "DearLetters" 18 mX4_init 0 := ⟨fun _ _ h => h.1, w_160, w_292, ⟨by decide, by decide, by decide +kernel⟩, by decide, rfl, rfl, w_291⟩
theorem ff_11_19 : z_FF "DearLetters" 19 11 3 := ⟨fl_11_19, rfl, rfl, rfl, fun _ => rfl, fun _ => rfl⟩
theorem w_307 : Cond.classLink "DearLetters" 23 "DearLetters$Evening" ∈ z_tbl := z_tbl_in (List.mem_of_getElem? (i := 307) (by decide +kernel)) rfl
theorem w_308 : Cond.instantiable "DearLetters$Evening" 9 ∈ z_tbl := z_tbl_in (List.mem_of_getElem? (i := 308) (by decide +kernel)) rfl
theorem ln_11_23 : z_LN "DearLetters" 23 1 := ⟨by decide, w_307, w_308, w_161⟩
theorem zk_8 : z_kind 8 = (1, 0) := by decide +kernel
theorem w_312 : Cond.methodLink "DearLetters$Evening" 3 ⟨"java/lang/Object", "<init>", "()V"⟩ ∈ z_tbl := z_tbl_in (List.mem_of_getElem? (i := 312) (by decide +kernel)) rfl
theorem zk_9 : z_kind 9 = (20, 8) := by decide +kernel
theorem ff_1_9 : z_FF "DearLetters$Evening" 9 1 1 := ⟨fl_1_9, rfl, rfl, rfl, fun _ => rfl, fun _ => rfl⟩
theorem zr_10 : ∀ j, j < 3 → z_kind (10 + 1 + j) = (20, 8) := by decide +kernel
theorem w_313 : Cond.classLink "DearLetters$Evening" 15 "[[I" ∈ z_tbl := z_tbl_in (List.mem_of_getElem? (i := 313) (by decide +kernel)) rfl
theorem zk_10 : z_kind 10 = (23, 3) := by decide +kernel
theorem ff_1_17 : z_FF "DearLetters$Evening" 17 1 4 := ⟨fl_1_17, rfl, rfl, rfl, fun _ => rfl, fun _ => rfl⟩
theorem zr_14 : ∀ j, j < 3 → z_kind (14 + 1 + j) = (21, 8) := by decide +kernel
theorem w_315 : Cond.classLink "DearLetters$Evening" 20 "[[J" ∈ z_tbl := z_tbl_in (List.mem_of_getElem? (i := 315) (by decide +kernel)) rfl
theorem w_348 : Cond.arrayClass FieldType.long ∈ z_tbl := z_tbl_in (List.mem_of_getElem? (i := 348) (by decide +kernel)) rfl
theorem zk_14 : z_kind 14 = (24, 3) := by decide +kernel
theorem ff_1_22 : z_FF "DearLetters$Evening" 22 1 5 := ⟨fl_1_22, rfl, rfl, rfl, fun _ => rfl, fun _ => rfl⟩
theorem zk_18 : z_kind 18 = (20, 256) := by decide +kernel
theorem ff_1_25 : z_FF "DearLetters$Evening" 25 1 6 := ⟨fl_1_25, rfl, rfl, rfl, fun _ => rfl, fun _ => rfl⟩
theorem zk_19 : z_kind 19 = (21, 256) := by decide +kernel
theorem ff_1_28 : z_FF "DearLetters$Evening" 28 1 7 := ⟨fl_1_28, rfl, rfl, rfl, fun _ => rfl, fun _ => rfl⟩
theorem zk_20 : z_kind 20 = (21, 256) := by decide +kernel
theorem ff_1_32 : z_FF "DearLetters$Evening" 32 1 8 := ⟨fl_1_32, rfl, rfl, rfl, fun _ => rfl, fun _ => rfl⟩
theorem ff_1_35 : z_FF "DearLetters$Evening" 35 1 0 := ⟨fl_1_35, rfl, rfl, rfl, fun _ => rfl, fun _ => rfl⟩
abbrev mX1_init : z_Y := (yX1_init, cX1_init, 2, none)
theorem w_309 : Cond.methodLink "DearLetters" 25 ⟨"DearLetters$Evening", "<init>", "(LDearLetters$Machine;)V"⟩ ∈ z_tbl := z_tbl_in (List.mem_of_getElem? (i := 309) (by decide +kernel)) rfl
theorem w_311 : Cond.code ⟨"DearLetters$Evening", "<init>", "(LDearLetters$Machine;)V"⟩ prog_3_method_1_code 2 none ∈ z_tbl := z_tbl_in (List.mem_of_getElem? (i := 311) (by decide +kernel)) rfl
theorem w_310 : Cond.instanceMethod ⟨"DearLetters$Evening", "<init>", "(LDearLetters$Machine;)V"⟩ ∈ z_tbl := z_tbl_in (List.mem_of_getElem? (i := 310) (by decide +kernel)) rfl
theorem li_11_25 : z_LI "DearLetters" 25 mX1_init 1 := ⟨⟨w_309, w_161, w_311, ⟨by decide, by decide, by decide +kernel⟩, by decide⟩, rfl, rfl, w_310⟩
theorem ff_11_28 : z_FF "DearLetters" 28 11 4 := ⟨fl_11_28, rfl, rfl, rfl, fun _ => rfl, fun _ => rfl⟩
theorem w_349 : Cond.classLink "DearLetters" 32 "DearLetters$Sharing" ∈ z_tbl := z_tbl_in (List.mem_of_getElem? (i := 349) (by decide +kernel)) rfl
theorem w_350 : Cond.instantiable "DearLetters$Sharing" 4 ∈ z_tbl := z_tbl_in (List.mem_of_getElem? (i := 350) (by decide +kernel)) rfl
theorem ln_11_32 : z_LN "DearLetters" 32 6 := ⟨by decide, w_349, w_350, w_162⟩
theorem zk_21 : z_kind 21 = (6, 0) := by decide +kernel
theorem w_354 : Cond.methodLink "DearLetters$Sharing" 3 ⟨"java/lang/Object", "<init>", "()V"⟩ ∈ z_tbl := z_tbl_in (List.mem_of_getElem? (i := 354) (by decide +kernel)) rfl
theorem zk_22 : z_kind 22 = (20, 8) := by decide +kernel
theorem ff_6_9 : z_FF "DearLetters$Sharing" 9 6 0 := ⟨fl_6_9, rfl, rfl, rfl, fun _ => rfl, fun _ => rfl⟩
theorem zk_23 : z_kind 23 = (20, 8) := by decide +kernel
theorem ff_6_15 : z_FF "DearLetters$Sharing" 15 6 2 := ⟨fl_6_15, rfl, rfl, rfl, fun _ => rfl, fun _ => rfl⟩
theorem zr_24 : ∀ j, j < 9 → z_kind (24 + 1 + j) = (20, 256) := by decide +kernel
theorem w_355 : Cond.classLink "DearLetters$Sharing" 18 "[[I" ∈ z_tbl := z_tbl_in (List.mem_of_getElem? (i := 355) (by decide +kernel)) rfl
theorem zk_24 : z_kind 24 = (23, 9) := by decide +kernel
theorem ff_6_20 : z_FF "DearLetters$Sharing" 20 6 3 := ⟨fl_6_20, rfl, rfl, rfl, fun _ => rfl, fun _ => rfl⟩
abbrev mX6_init : z_Y := (yX6_init, cX6_init, 1, none)
theorem w_353 : Cond.code ⟨"DearLetters$Sharing", "<init>", "()V"⟩ prog_8_method_1_code 1 none ∈ z_tbl := z_tbl_in (List.mem_of_getElem? (i := 353) (by decide +kernel)) rfl
theorem w_352 : Cond.instanceMethod ⟨"DearLetters$Sharing", "<init>", "()V"⟩ ∈ z_tbl := z_tbl_in (List.mem_of_getElem? (i := 352) (by decide +kernel)) rfl
theorem lin_11_34 : z_LIN "DearLetters" 34 mX6_init 0 := ⟨fun _ _ h => h.2.1, w_162, w_353, ⟨by decide, by decide, by decide +kernel⟩, by decide, rfl, rfl, w_352⟩
theorem ff_11_35 : z_FF "DearLetters" 35 11 5 := ⟨fl_11_35, rfl, rfl, rfl, fun _ => rfl, fun _ => rfl⟩
theorem w_371 : Cond.classLink "DearLetters" 39 "DearLetters$Sorting" ∈ z_tbl := z_tbl_in (List.mem_of_getElem? (i := 371) (by decide +kernel)) rfl
theorem w_372 : Cond.instantiable "DearLetters$Sorting" 7 ∈ z_tbl := z_tbl_in (List.mem_of_getElem? (i := 372) (by decide +kernel)) rfl
theorem ln_11_39 : z_LN "DearLetters" 39 7 := ⟨by decide, w_371, w_372, w_163⟩
theorem zk_34 : z_kind 34 = (7, 0) := by decide +kernel
theorem w_376 : Cond.methodLink "DearLetters$Sorting" 3 ⟨"java/lang/Object", "<init>", "()V"⟩ ∈ z_tbl := z_tbl_in (List.mem_of_getElem? (i := 376) (by decide +kernel)) rfl
theorem zk_35 : z_kind 35 = (20, 8) := by decide +kernel
theorem ff_7_9 : z_FF "DearLetters$Sorting" 9 7 0 := ⟨fl_7_9, rfl, rfl, rfl, fun _ => rfl, fun _ => rfl⟩
theorem zk_36 : z_kind 36 = (20, 8) := by decide +kernel
theorem ff_7_15 : z_FF "DearLetters$Sorting" 15 7 1 := ⟨fl_7_15, rfl, rfl, rfl, fun _ => rfl, fun _ => rfl⟩
theorem zk_37 : z_kind 37 = (20, 8) := by decide +kernel
theorem ff_7_18 : z_FF "DearLetters$Sorting" 18 7 4 := ⟨fl_7_18, rfl, rfl, rfl, fun _ => rfl, fun _ => rfl⟩
theorem zk_38 : z_kind 38 = (21, 9) := by decide +kernel
theorem ff_7_21 : z_FF "DearLetters$Sorting" 21 7 5 := ⟨fl_7_21, rfl, rfl, rfl, fun _ => rfl, fun _ => rfl⟩
abbrev mX7_init : z_Y := (yX7_init, cX7_init, 1, none)
theorem w_375 : Cond.code ⟨"DearLetters$Sorting", "<init>", "()V"⟩ prog_9_method_1_code 1 none ∈ z_tbl := z_tbl_in (List.mem_of_getElem? (i := 375) (by decide +kernel)) rfl
theorem w_374 : Cond.instanceMethod ⟨"DearLetters$Sorting", "<init>", "()V"⟩ ∈ z_tbl := z_tbl_in (List.mem_of_getElem? (i := 374) (by decide +kernel)) rfl
theorem lin_11_41 : z_LIN "DearLetters" 41 mX7_init 0 := ⟨fun _ _ h => h.2.2.1, w_163, w_375, ⟨by decide, by decide, by decide +kernel⟩, by decide, rfl, rfl, w_374⟩
theorem ff_11_42 : z_FF "DearLetters" 42 11 6 := ⟨fl_11_42, rfl, rfl, rfl, fun _ => rfl, fun _ => rfl⟩
theorem w_403 : Cond.classLink "DearLetters" 46 "DearLetters$State" ∈ z_tbl := z_tbl_in (List.mem_of_getElem? (i := 403) (by decide +kernel)) rfl
theorem w_404 : Cond.instantiable "DearLetters$State" 6 ∈ z_tbl := z_tbl_in (List.mem_of_getElem? (i := 404) (by decide +kernel)) rfl
theorem ln_11_46 : z_LN "DearLetters" 46 8 := ⟨by decide, w_403, w_404, w_164⟩
theorem zk_39 : z_kind 39 = (8, 0) := by decide +kernel
theorem w_408 : Cond.methodLink "DearLetters$State" 3 ⟨"java/lang/Object", "<init>", "()V"⟩ ∈ z_tbl := z_tbl_in (List.mem_of_getElem? (i := 408) (by decide +kernel)) rfl
theorem zk_40 : z_kind 40 = (20, 3) := by decide +kernel
theorem ff_8_9 : z_FF "DearLetters$State" 9 8 1 := ⟨fl_8_9, rfl, rfl, rfl, fun _ => rfl, fun _ => rfl⟩
theorem zk_41 : z_kind 41 = (20, 4) := by decide +kernel
theorem ff_8_15 : z_FF "DearLetters$State" 15 8 2 := ⟨fl_8_15, rfl, rfl, rfl, fun _ => rfl, fun _ => rfl⟩
theorem zk_42 : z_kind 42 = (20, 8) := by decide +kernel
theorem ff_8_18 : z_FF "DearLetters$State" 18 8 3 := ⟨fl_8_18, rfl, rfl, rfl, fun _ => rfl, fun _ => rfl⟩
theorem zk_43 : z_kind 43 = (20, 8) := by decide +kernel
theorem ff_8_21 : z_FF "DearLetters$State" 21 8 4 := ⟨fl_8_21, rfl, rfl, rfl, fun _ => rfl, fun _ => rfl⟩
theorem zk_44 : z_kind 44 = (20, 8) := by decide +kernel
theorem ff_8_24 : z_FF "DearLetters$State" 24 8 5 := ⟨fl_8_24, rfl, rfl, rfl, fun _ => rfl, fun _ => rfl⟩
abbrev mX8_init : z_Y := (yX8_init, cX8_init, 1, none)
theorem w_405 : Cond.methodLink "DearLetters" 48 ⟨"DearLetters$State", "<init>", "()V"⟩ ∈ z_tbl := z_tbl_in (List.mem_of_getElem? (i := 405) (by decide +kernel)) rfl
theorem w_407 : Cond.code ⟨"DearLetters$State", "<init>", "()V"⟩ prog_10_method_1_code 1 none ∈ z_tbl := z_tbl_in (List.mem_of_getElem? (i := 407) (by decide +kernel)) rfl
theorem w_406 : Cond.instanceMethod ⟨"DearLetters$State", "<init>", "()V"⟩ ∈ z_tbl := z_tbl_in (List.mem_of_getElem? (i := 406) (by decide +kernel)) rfl
theorem li_11_48 : z_LI "DearLetters" 48 mX8_init 0 := ⟨⟨w_405, w_164, w_407, ⟨by decide, by decide, by decide +kernel⟩, by decide⟩, rfl, rfl, w_406⟩
theorem ff_11_49 : z_FF "DearLetters" 49 11 7 := ⟨fl_11_49, rfl, rfl, rfl, fun _ => rfl, fun _ => rfl⟩
theorem zk_45 : z_kind 45 = (8, 0) := by decide +kernel
theorem zk_46 : z_kind 46 = (20, 3) := by decide +kernel
theorem zk_47 : z_kind 47 = (20, 4) := by decide +kernel
theorem zk_48 : z_kind 48 = (20, 8) := by decide +kernel
theorem zk_49 : z_kind 49 = (20, 8) := by decide +kernel
theorem zk_50 : z_kind 50 = (20, 8) := by decide +kernel
theorem ff_11_53 : z_FF "DearLetters" 53 11 8 := ⟨fl_11_53, rfl, rfl, rfl, fun _ => rfl, fun _ => rfl⟩
theorem zk_51 : z_kind 51 = (25, 20) := by decide +kernel
theorem ff_11_56 : z_FF "DearLetters" 56 11 9 := ⟨fl_11_56, rfl, rfl, rfl, fun _ => rfl, fun _ => rfl⟩
theorem zk_52 : z_kind 52 = (20, 16) := by decide +kernel
theorem ff_11_60 : z_FF "DearLetters" 60 11 10 := ⟨fl_11_60, rfl, rfl, rfl, fun _ => rfl, fun _ => rfl⟩
theorem zk_53 : z_kind 53 = (20, 16) := by decide +kernel
theorem ff_11_64 : z_FF "DearLetters" 64 11 11 := ⟨fl_11_64, rfl, rfl, rfl, fun _ => rfl, fun _ => rfl⟩
theorem zk_54 : z_kind 54 = (20, 34) := by decide +kernel
theorem ff_11_67 : z_FF "DearLetters" 67 11 12 := ⟨fl_11_67, rfl, rfl, rfl, fun _ => rfl, fun _ => rfl⟩
theorem zk_55 : z_kind 55 = (20, 6) := by decide +kernel
theorem ff_11_70 : z_FF "DearLetters" 70 11 13 := ⟨fl_11_70, rfl, rfl, rfl, fun _ => rfl, fun _ => rfl⟩
theorem w_448 : Cond.classLink "DearLetters" 73 "DearLetters$Heap" ∈ z_tbl := z_tbl_in (List.mem_of_getElem? (i := 448) (by decide +kernel)) rfl
theorem w_449 : Cond.instantiable "DearLetters$Heap" 17 ∈ z_tbl := z_tbl_in (List.mem_of_getElem? (i := 449) (by decide +kernel)) rfl
theorem ln_11_73 : z_LN "DearLetters" 73 2 := ⟨by decide, w_448, w_449, w_166⟩
theorem zk_56 : z_kind 56 = (2, 0) := by decide +kernel
theorem w_453 : Cond.methodLink "DearLetters$Heap" 3 ⟨"java/lang/Object", "<init>", "()V"⟩ ∈ z_tbl := z_tbl_in (List.mem_of_getElem? (i := 453) (by decide +kernel)) rfl
theorem zk_57 : z_kind 57 = (20, 10) := by decide +kernel
theorem ff_2_13 : z_FF "DearLetters$Heap" 13 2 0 := ⟨fl_2_13, rfl, rfl, rfl, fun _ => rfl, fun _ => rfl⟩
theorem zr_58 : ∀ j, j < 3 → z_kind (58 + 1 + j) = (20, 8) := by decide +kernel
theorem w_456 : Cond.classLink "DearLetters$Heap" 18 "[[I" ∈ z_tbl := z_tbl_in (List.mem_of_getElem? (i := 456) (by decide +kernel)) rfl
theorem zk_58 : z_kind 58 = (23, 3) := by decide +kernel
theorem ff_2_20 : z_FF "DearLetters$Heap" 20 2 1 := ⟨fl_2_20, rfl, rfl, rfl, fun _ => rfl, fun _ => rfl⟩
theorem zk_62 : z_kind 62 = (20, 8) := by decide +kernel
theorem w_494 : Cond.fieldLink "DearLetters$Heap" 23 "DearLetters$Heap" "age" "[I" ∈ z_tbl := z_tbl_in (List.mem_of_getElem? (i := 494) (by decide +kernel)) rfl
theorem fl_2_23 : z_FL "DearLetters$Heap" 23 2 2 := ⟨by decide, by decide, w_494⟩
theorem ff_2_23 : z_FF "DearLetters$Heap" 23 2 2 := ⟨fl_2_23, rfl, rfl, rfl, fun _ => rfl, fun _ => rfl⟩
theorem zk_63 : z_kind 63 = (20, 8) := by decide +kernel
theorem w_498 : Cond.fieldLink "DearLetters$Heap" 26 "DearLetters$Heap" "need" "[I" ∈ z_tbl := z_tbl_in (List.mem_of_getElem? (i := 498) (by decide +kernel)) rfl
theorem fl_2_26 : z_FL "DearLetters$Heap" 26 2 3 := ⟨by decide, by decide, w_498⟩
theorem ff_2_26 : z_FF "DearLetters$Heap" 26 2 3 := ⟨fl_2_26, rfl, rfl, rfl, fun _ => rfl, fun _ => rfl⟩
theorem zk_64 : z_kind 64 = (20, 8) := by decide +kernel
theorem ff_2_29 : z_FF "DearLetters$Heap" 29 2 4 := ⟨fl_2_29, rfl, rfl, rfl, fun _ => rfl, fun _ => rfl⟩
theorem zk_65 : z_kind 65 = (20, 8) := by decide +kernel
theorem ff_2_32 : z_FF "DearLetters$Heap" 32 2 5 := ⟨fl_2_32, rfl, rfl, rfl, fun _ => rfl, fun _ => rfl⟩
theorem zr_66 : ∀ j, j < 8 → z_kind (66 + 1 + j) = (20, 4) := by decide +kernel
theorem zk_66 : z_kind 66 = (23, 8) := by decide +kernel
theorem ff_2_35 : z_FF "DearLetters$Heap" 35 2 6 := ⟨fl_2_35, rfl, rfl, rfl, fun _ => rfl, fun _ => rfl⟩
theorem zr_75 : ∀ j, j < 8 → z_kind (75 + 1 + j) = (20, 8) := by decide +kernel
theorem zk_75 : z_kind 75 = (23, 8) := by decide +kernel
theorem ff_2_38 : z_FF "DearLetters$Heap" 38 2 7 := ⟨fl_2_38, rfl, rfl, rfl, fun _ => rfl, fun _ => rfl⟩
theorem zk_84 : z_kind 84 = (20, 4) := by decide +kernel
theorem w_518 : Cond.fieldLink "DearLetters$Heap" 41 "DearLetters$Heap" "stock" "[I" ∈ z_tbl := z_tbl_in (List.mem_of_getElem? (i := 518) (by decide +kernel)) rfl
theorem fl_2_41 : z_FL "DearLetters$Heap" 41 2 8 := ⟨by decide, by decide, w_518⟩
theorem ff_2_41 : z_FF "DearLetters$Heap" 41 2 8 := ⟨fl_2_41, rfl, rfl, rfl, fun _ => rfl, fun _ => rfl⟩
theorem zk_85 : z_kind 85 = (20, 3) := by decide +kernel
theorem w_521 : Cond.fieldLink "DearLetters$Heap" 44 "DearLetters$Heap" "minutes" "[I" ∈ z_tbl := z_tbl_in (List.mem_of_getElem? (i := 521) (by decide +kernel)) rfl
theorem fl_2_44 : z_FL "DearLetters$Heap" 44 2 9 := ⟨by decide, by decide, w_521⟩
theorem ff_2_44 : z_FF "DearLetters$Heap" 44 2 9 := ⟨fl_2_44, rfl, rfl, rfl, fun _ => rfl, fun _ => rfl⟩
theorem zk_86 : z_kind 86 = (20, 3) := by decide +kernel
theorem w_525 : Cond.fieldLink "DearLetters$Heap" 47 "DearLetters$Heap" "hand" "[I" ∈ z_tbl := z_tbl_in (List.mem_of_getElem? (i := 525) (by decide +kernel)) rfl
theorem fl_2_47 : z_FL "DearLetters$Heap" 47 2 10 := ⟨by decide, by decide, w_525⟩
theorem ff_2_47 : z_FF "DearLetters$Heap" 47 2 10 := ⟨fl_2_47, rfl, rfl, rfl, fun _ => rfl, fun _ => rfl⟩
theorem zk_87 : z_kind 87 = (20, 3) := by decide +kernel
theorem w_529 : Cond.fieldLink "DearLetters$Heap" 50 "DearLetters$Heap" "bears" "[I" ∈ z_tbl := z_tbl_in (List.mem_of_getElem? (i := 529) (by decide +kernel)) rfl
theorem fl_2_50 : z_FL "DearLetters$Heap" 50 2 11 := ⟨by decide, by decide, w_529⟩
theorem ff_2_50 : z_FF "DearLetters$Heap" 50 2 11 := ⟨fl_2_50, rfl, rfl, rfl, fun _ => rfl, fun _ => rfl⟩
theorem w_457 : Cond.classLink "DearLetters$Heap" 53 "DearLetters$Code" ∈ z_tbl := z_tbl_in (List.mem_of_getElem? (i := 457) (by decide +kernel)) rfl
theorem w_458 : Cond.instantiable "DearLetters$Code" 2 ∈ z_tbl := z_tbl_in (List.mem_of_getElem? (i := 458) (by decide +kernel)) rfl
theorem ln_2_53 : z_LN "DearLetters$Heap" 53 0 := ⟨by decide, w_457, w_458, w_167⟩
theorem zk_88 : z_kind 88 = (0, 0) := by decide +kernel
theorem w_462 : Cond.methodLink "DearLetters$Code" 3 ⟨"java/lang/Object", "<init>", "()V"⟩ ∈ z_tbl := z_tbl_in (List.mem_of_getElem? (i := 462) (by decide +kernel)) rfl
theorem zk_89 : z_kind 89 = (20, 1600) := by decide +kernel
theorem ff_0_9 : z_FF "DearLetters$Code" 9 0 0 := ⟨fl_0_9, rfl, rfl, rfl, fun _ => rfl, fun _ => rfl⟩
abbrev mX0_init : z_Y := (yX0_init, cX0_init, 1, none)
theorem w_461 : Cond.code ⟨"DearLetters$Code", "<init>", "()V"⟩ prog_2_method_1_code 1 none ∈ z_tbl := z_tbl_in (List.mem_of_getElem? (i := 461) (by decide +kernel)) rfl
theorem w_460 : Cond.instanceMethod ⟨"DearLetters$Code", "<init>", "()V"⟩ ∈ z_tbl := z_tbl_in (List.mem_of_getElem? (i := 460) (by decide +kernel)) rfl
theorem lin_2_55 : z_LIN "DearLetters$Heap" 55 mX0_init 0 := ⟨fun _ _ h => h.2.2.2.1, w_167, w_461, ⟨by decide, by decide, by decide +kernel⟩, by decide, rfl, rfl, w_460⟩
theorem ff_2_56 : z_FF "DearLetters$Heap" 56 2 12 := ⟨fl_2_56, rfl, rfl, rfl, fun _ => rfl, fun _ => rfl⟩
theorem zk_90 : z_kind 90 = (20, 2) := by decide +kernel
theorem ff_2_60 : z_FF "DearLetters$Heap" 60 2 13 := ⟨fl_2_60, rfl, rfl, rfl, fun _ => rfl, fun _ => rfl⟩
theorem zk_91 : z_kind 91 = (20, 2) := by decide +kernel
theorem ff_2_63 : z_FF "DearLetters$Heap" 63 2 14 := ⟨fl_2_63, rfl, rfl, rfl, fun _ => rfl, fun _ => rfl⟩
theorem zk_67 : z_kind 67 = (20, 4) := by decide +kernel
theorem zk_76 : z_kind 76 = (20, 8) := by decide +kernel
theorem zk_68 : z_kind 68 = (20, 4) := by decide +kernel
theorem zk_77 : z_kind 77 = (20, 8) := by decide +kernel
theorem zk_69 : z_kind 69 = (20, 4) := by decide +kernel
theorem zk_78 : z_kind 78 = (20, 8) := by decide +kernel
theorem zk_70 : z_kind 70 = (20, 4) := by decide +kernel
theorem zk_79 : z_kind 79 = (20, 8) := by decide +kernel
theorem zk_71 : z_kind 71 = (20, 4) := by decide +kernel
theorem zk_80 : z_kind 80 = (20, 8) := by decide +kernel
theorem zk_72 : z_kind 72 = (20, 4) := by decide +kernel
theorem zk_81 : z_kind 81 = (20, 8) := by decide +kernel
theorem zk_73 : z_kind 73 = (20, 4) := by decide +kernel
theorem zk_82 : z_kind 82 = (20, 8) := by decide +kernel
theorem zk_74 : z_kind 74 = (20, 4) := by decide +kernel
theorem zk_83 : z_kind 83 = (20, 8) := by decide +kernel
theorem w_474 : Cond.methodLink "DearLetters$Heap" 66 ⟨"DearLetters$Heap", "clear", "()V"⟩ ∈ z_tbl := z_tbl_in (List.mem_of_getElem? (i := 474) (by decide +kernel)) rfl
theorem lk_2_66 : z_LV "DearLetters$Heap" 66 2 mX2_clear 0 := ⟨⟨w_474, w_166, w_477, ⟨by decide, by decide, by decide +kernel⟩, by decide⟩, by decide, w_475, w_476⟩
abbrev mX2_init : z_Y := (yX2_init, cX2_init, 1, none)
theorem w_450 : Cond.methodLink "DearLetters" 75 ⟨"DearLetters$Heap", "<init>", "()V"⟩ ∈ z_tbl := z_tbl_in (List.mem_of_getElem? (i := 450) (by decide +kernel)) rfl
theorem w_452 : Cond.code ⟨"DearLetters$Heap", "<init>", "()V"⟩ prog_4_method_1_code 1 none ∈ z_tbl := z_tbl_in (List.mem_of_getElem? (i := 452) (by decide +kernel)) rfl
theorem w_451 : Cond.instanceMethod ⟨"DearLetters$Heap", "<init>", "()V"⟩ ∈ z_tbl := z_tbl_in (List.mem_of_getElem? (i := 451) (by decide +kernel)) rfl
theorem li_11_75 : z_LI "DearLetters" 75 mX2_init 0 := ⟨⟨w_450, w_166, w_452, ⟨by decide, by decide, by decide +kernel⟩, by decide⟩, rfl, rfl, w_451⟩
theorem fr_11_76 : z_FR "DearLetters" 76 11 14 := ⟨fl_11_76, rfl, rfl, fun _ => rfl, fun _ => rfl⟩
theorem w_579 : Cond.classLink "DearLetters" 84 "DearLetters$Sums" ∈ z_tbl := z_tbl_in (List.mem_of_getElem? (i := 579) (by decide +kernel)) rfl
theorem w_580 : Cond.instantiable "DearLetters$Sums" 3 ∈ z_tbl := z_tbl_in (List.mem_of_getElem? (i := 580) (by decide +kernel)) rfl
theorem ln_11_84 : z_LN "DearLetters" 84 9 := ⟨by decide, w_579, w_580, w_168⟩
theorem zk_92 : z_kind 92 = (9, 0) := by decide +kernel
theorem w_584 : Cond.methodLink "DearLetters$Sums" 3 ⟨"java/lang/Object", "<init>", "()V"⟩ ∈ z_tbl := z_tbl_in (List.mem_of_getElem? (i := 584) (by decide +kernel)) rfl
theorem w_585 : Cond.classLink "DearLetters$Sums" 9 "DearLetters$Code" ∈ z_tbl := z_tbl_in (List.mem_of_getElem? (i := 585) (by decide +kernel)) rfl
theorem ln_9_9 : z_LN "DearLetters$Sums" 9 0 := ⟨by decide, w_585, w_458, w_167⟩
theorem zk_93 : z_kind 93 = (0, 0) := by decide +kernel
theorem zk_94 : z_kind 94 = (20, 1600) := by decide +kernel
theorem lin_9_11 : z_LIN "DearLetters$Sums" 11 mX0_init 0 := ⟨fun _ _ h => h.2.2.2.2.1, w_167, w_461, ⟨by decide, by decide, by decide +kernel⟩, by decide, rfl, rfl, w_460⟩
theorem ff_9_12 : z_FF "DearLetters$Sums" 12 9 0 := ⟨fl_9_12, rfl, rfl, rfl, fun _ => rfl, fun _ => rfl⟩
theorem ff_9_18 : z_FF "DearLetters$Sums" 18 9 1 := ⟨fl_9_18, rfl, rfl, rfl, fun _ => rfl, fun _ => rfl⟩
abbrev mX9_init : z_Y := (yX9_init, cX9_init, 2, none)
theorem w_581 : Cond.methodLink "DearLetters" 86 ⟨"DearLetters$Sums", "<init>", "(LDearLetters$Text;)V"⟩ ∈ z_tbl := z_tbl_in (List.mem_of_getElem? (i := 581) (by decide +kernel)) rfl
theorem w_583 : Cond.code ⟨"DearLetters$Sums", "<init>", "(LDearLetters$Text;)V"⟩ prog_11_method_1_code 2 none ∈ z_tbl := z_tbl_in (List.mem_of_getElem? (i := 583) (by decide +kernel)) rfl
theorem w_582 : Cond.instanceMethod ⟨"DearLetters$Sums", "<init>", "(LDearLetters$Text;)V"⟩ ∈ z_tbl := z_tbl_in (List.mem_of_getElem? (i := 582) (by decide +kernel)) rfl
theorem li_11_86 : z_LI "DearLetters" 86 mX9_init 1 := ⟨⟨w_581, w_168, w_583, ⟨by decide, by decide, by decide +kernel⟩, by decide⟩, rfl, rfl, w_582⟩
theorem w_598 : Cond.classLink "DearLetters" 89 "DearLetters$HeapReader" ∈ z_tbl := z_tbl_in (List.mem_of_getElem? (i := 598) (by decide +kernel)) rfl
theorem w_599 : Cond.instantiable "DearLetters$HeapReader" 4 ∈ z_tbl := z_tbl_in (List.mem_of_getElem? (i := 599) (by decide +kernel)) rfl
theorem ln_11_89 : z_LN "DearLetters" 89 3 := ⟨by decide, w_598, w_599, w_169⟩
theorem zk_95 : z_kind 95 = (3, 0) := by decide +kernel
theorem w_603 : Cond.methodLink "DearLetters$HeapReader" 3 ⟨"java/lang/Object", "<init>", "()V"⟩ ∈ z_tbl := z_tbl_in (List.mem_of_getElem? (i := 603) (by decide +kernel)) rfl
theorem w_604 : Cond.classLink "DearLetters$HeapReader" 9 "DearLetters$Heap" ∈ z_tbl := z_tbl_in (List.mem_of_getElem? (i := 604) (by decide +kernel)) rfl
theorem ln_3_9 : z_LN "DearLetters$HeapReader" 9 2 := ⟨by decide, w_604, w_449, w_166⟩
theorem zk_96 : z_kind 96 = (2, 0) := by decide +kernel
theorem zk_97 : z_kind 97 = (20, 10) := by decide +kernel
theorem zr_98 : ∀ j, j < 3 → z_kind (98 + 1 + j) = (20, 8) := by decide +kernel
theorem zk_98 : z_kind 98 = (23, 3) := by decide +kernel
theorem zk_102 : z_kind 102 = (20, 8) := by decide +kernel
theorem zk_103 : z_kind 103 = (20, 8) := by decide +kernel
theorem zk_104 : z_kind 104 = (20, 8) := by decide +kernel
theorem zk_105 : z_kind 105 = (20, 8) := by decide +kernel
theorem zr_106 : ∀ j, j < 8 → z_kind (106 + 1 + j) = (20, 4) := by decide +kernel
theorem zk_106 : z_kind 106 = (23, 8) := by decide +kernel
theorem zr_115 : ∀ j, j < 8 → z_kind (115 + 1 + j) = (20, 8) := by decide +kernel
theorem zk_115 : z_kind 115 = (23, 8) := by decide +kernel
theorem zk_124 : z_kind 124 = (20, 4) := by decide +kernel
theorem zk_125 : z_kind 125 = (20, 3) := by decide +kernel
theorem zk_126 : z_kind 126 = (20, 3) := by decide +kernel
theorem zk_127 : z_kind 127 = (20, 3) := by decide +kernel
theorem zk_128 : z_kind 128 = (0, 0) := by decide +kernel
theorem zk_129 : z_kind 129 = (20, 1600) := by decide +kernel
theorem zk_130 : z_kind 130 = (20, 2) := by decide +kernel
theorem zk_131 : z_kind 131 = (20, 2) := by decide +kernel
theorem zk_107 : z_kind 107 = (20, 4) := by decide +kernel
theorem zk_116 : z_kind 116 = (20, 8) := by decide +kernel
theorem zk_108 : z_kind 108 = (20, 4) := by decide +kernel
theorem zk_117 : z_kind 117 = (20, 8) := by decide +kernel
theorem zk_109 : z_kind 109 = (20, 4) := by decide +kernel
theorem zk_118 : z_kind 118 = (20, 8) := by decide +kernel
theorem zk_110 : z_kind 110 = (20, 4) := by decide +kernel
theorem zk_119 : z_kind 119 = (20, 8) := by decide +kernel
theorem zk_111 : z_kind 111 = (20, 4) := by decide +kernel
theorem zk_120 : z_kind 120 = (20, 8) := by decide +kernel
theorem zk_112 : z_kind 112 = (20, 4) := by decide +kernel
theorem zk_121 : z_kind 121 = (20, 8) := by decide +kernel
theorem zk_113 : z_kind 113 = (20, 4) := by decide +kernel
theorem zk_122 : z_kind 122 = (20, 8) := by decide +kernel
theorem zk_114 : z_kind 114 = (20, 4) := by decide +kernel
theorem zk_123 : z_kind 123 = (20, 8) := by decide +kernel
theorem w_605 : Cond.methodLink "DearLetters$HeapReader" 11 ⟨"DearLetters$Heap", "<init>", "()V"⟩ ∈ z_tbl := z_tbl_in (List.mem_of_getElem? (i := 605) (by decide +kernel)) rfl
theorem li_3_11 : z_LI "DearLetters$HeapReader" 11 mX2_init 0 := ⟨⟨w_605, w_166, w_452, ⟨by decide, by decide, by decide +kernel⟩, by decide⟩, rfl, rfl, w_451⟩
theorem fr_3_12 : z_FR "DearLetters$HeapReader" 12 3 2 := ⟨fl_3_12, rfl, rfl, fun _ => rfl, fun _ => rfl⟩
theorem ff_3_18 : z_FF "DearLetters$HeapReader" 18 3 0 := ⟨fl_3_18, rfl, rfl, rfl, fun _ => rfl, fun _ => rfl⟩
theorem ff_3_22 : z_FF "DearLetters$HeapReader" 22 3 1 := ⟨fl_3_22, rfl, rfl, rfl, fun _ => rfl, fun _ => rfl⟩
abbrev mX3_init : z_Y := (yX3_init, cX3_init, 3, none)
theorem w_600 : Cond.methodLink "DearLetters" 91 ⟨"DearLetters$HeapReader", "<init>", "(LDearLetters$Text;LDearLetters$Sums;)V"⟩ ∈ z_tbl := z_tbl_in (List.mem_of_getElem? (i := 600) (by decide +kernel)) rfl
theorem w_602 : Cond.code ⟨"DearLetters$HeapReader", "<init>", "(LDearLetters$Text;LDearLetters$Sums;)V"⟩ prog_5_method_1_code 3 none ∈ z_tbl := z_tbl_in (List.mem_of_getElem? (i := 602) (by decide +kernel)) rfl
theorem w_601 : Cond.instanceMethod ⟨"DearLetters$HeapReader", "<init>", "(LDearLetters$Text;LDearLetters$Sums;)V"⟩ ∈ z_tbl := z_tbl_in (List.mem_of_getElem? (i := 601) (by decide +kernel)) rfl
theorem li_11_91 : z_LI "DearLetters" 91 mX3_init 2 := ⟨⟨w_600, w_169, w_602, ⟨by decide, by decide, by decide +kernel⟩, by decide⟩, rfl, rfl, w_601⟩
theorem ff_11_94 : z_FF "DearLetters" 94 11 1 := ⟨fl_11_94, rfl, rfl, rfl, fun _ => rfl, fun _ => rfl⟩
theorem w_621 : Cond.classLink "DearLetters" 98 "DearLetters$Question" ∈ z_tbl := z_tbl_in (List.mem_of_getElem? (i := 621) (by decide +kernel)) rfl
theorem w_622 : Cond.instantiable "DearLetters$Question" 3 ∈ z_tbl := z_tbl_in (List.mem_of_getElem? (i := 622) (by decide +kernel)) rfl
theorem ln_11_98 : z_LN "DearLetters" 98 5 := ⟨by decide, w_621, w_622, w_170⟩
theorem zk_132 : z_kind 132 = (5, 0) := by decide +kernel
theorem w_626 : Cond.methodLink "DearLetters$Question" 3 ⟨"java/lang/Object", "<init>", "()V"⟩ ∈ z_tbl := z_tbl_in (List.mem_of_getElem? (i := 626) (by decide +kernel)) rfl
theorem ff_5_9 : z_FF "DearLetters$Question" 9 5 0 := ⟨fl_5_9, rfl, rfl, rfl, fun _ => rfl, fun _ => rfl⟩
theorem ff_5_15 : z_FF "DearLetters$Question" 15 5 1 := ⟨fl_5_15, rfl, rfl, rfl, fun _ => rfl, fun _ => rfl⟩
abbrev mX5_init : z_Y := (yX5_init, cX5_init, 3, none)
theorem w_623 : Cond.methodLink "DearLetters" 100 ⟨"DearLetters$Question", "<init>", "(LDearLetters$Text;LDearLetters$Sums;)V"⟩ ∈ z_tbl := z_tbl_in (List.mem_of_getElem? (i := 623) (by decide +kernel)) rfl
theorem w_625 : Cond.code ⟨"DearLetters$Question", "<init>", "(LDearLetters$Text;LDearLetters$Sums;)V"⟩ prog_7_method_1_code 3 none ∈ z_tbl := z_tbl_in (List.mem_of_getElem? (i := 625) (by decide +kernel)) rfl
theorem w_624 : Cond.instanceMethod ⟨"DearLetters$Question", "<init>", "(LDearLetters$Text;LDearLetters$Sums;)V"⟩ ∈ z_tbl := z_tbl_in (List.mem_of_getElem? (i := 624) (by decide +kernel)) rfl
theorem li_11_100 : z_LI "DearLetters" 100 mX5_init 2 := ⟨⟨w_623, w_170, w_625, ⟨by decide, by decide, by decide +kernel⟩, by decide⟩, rfl, rfl, w_624⟩
theorem ff_11_101 : z_FF "DearLetters" 101 11 2 := ⟨fl_11_101, rfl, rfl, rfl, fun _ => rfl, fun _ => rfl⟩
theorem zk_133 : z_kind 133 = (8, 0) := by decide +kernel
theorem zk_134 : z_kind 134 = (20, 3) := by decide +kernel
theorem zk_135 : z_kind 135 = (20, 4) := by decide +kernel
theorem zk_136 : z_kind 136 = (20, 8) := by decide +kernel
theorem zk_137 : z_kind 137 = (20, 8) := by decide +kernel
theorem zk_138 : z_kind 138 = (20, 8) := by decide +kernel
theorem zk_139 : z_kind 139 = (8, 0) := by decide +kernel
theorem zk_140 : z_kind 140 = (20, 3) := by decide +kernel
theorem zk_141 : z_kind 141 = (20, 4) := by decide +kernel
theorem zk_142 : z_kind 142 = (20, 8) := by decide +kernel
theorem zk_143 : z_kind 143 = (20, 8) := by decide +kernel
theorem zk_144 : z_kind 144 = (20, 8) := by decide +kernel
theorem zk_145 : z_kind 145 = (8, 0) := by decide +kernel
theorem zk_146 : z_kind 146 = (20, 3) := by decide +kernel
theorem zk_147 : z_kind 147 = (20, 4) := by decide +kernel
theorem zk_148 : z_kind 148 = (20, 8) := by decide +kernel
theorem zk_149 : z_kind 149 = (20, 8) := by decide +kernel
theorem zk_150 : z_kind 150 = (20, 8) := by decide +kernel
theorem zk_151 : z_kind 151 = (8, 0) := by decide +kernel
theorem zk_152 : z_kind 152 = (20, 3) := by decide +kernel
theorem zk_153 : z_kind 153 = (20, 4) := by decide +kernel
theorem zk_154 : z_kind 154 = (20, 8) := by decide +kernel
theorem zk_155 : z_kind 155 = (20, 8) := by decide +kernel
theorem zk_156 : z_kind 156 = (20, 8) := by decide +kernel
theorem zk_157 : z_kind 157 = (8, 0) := by decide +kernel
theorem zk_158 : z_kind 158 = (20, 3) := by decide +kernel
theorem zk_159 : z_kind 159 = (20, 4) := by decide +kernel
theorem zk_160 : z_kind 160 = (20, 8) := by decide +kernel
theorem zk_161 : z_kind 161 = (20, 8) := by decide +kernel
theorem zk_162 : z_kind 162 = (20, 8) := by decide +kernel
theorem zk_163 : z_kind 163 = (8, 0) := by decide +kernel
theorem zk_164 : z_kind 164 = (20, 3) := by decide +kernel
theorem zk_165 : z_kind 165 = (20, 4) := by decide +kernel
theorem zk_166 : z_kind 166 = (20, 8) := by decide +kernel
theorem zk_167 : z_kind 167 = (20, 8) := by decide +kernel
theorem zk_168 : z_kind 168 = (20, 8) := by decide +kernel
theorem zk_169 : z_kind 169 = (8, 0) := by decide +kernel
theorem zk_170 : z_kind 170 = (20, 3) := by decide +kernel
theorem zk_171 : z_kind 171 = (20, 4) := by decide +kernel
theorem zk_172 : z_kind 172 = (20, 8) := by decide +kernel
theorem zk_173 : z_kind 173 = (20, 8) := by decide +kernel
theorem zk_174 : z_kind 174 = (20, 8) := by decide +kernel
theorem zk_175 : z_kind 175 = (8, 0) := by decide +kernel
theorem zk_176 : z_kind 176 = (20, 3) := by decide +kernel
theorem zk_177 : z_kind 177 = (20, 4) := by decide +kernel
theorem zk_178 : z_kind 178 = (20, 8) := by decide +kernel
theorem zk_179 : z_kind 179 = (20, 8) := by decide +kernel
theorem zk_180 : z_kind 180 = (20, 8) := by decide +kernel
theorem zk_181 : z_kind 181 = (8, 0) := by decide +kernel
theorem zk_182 : z_kind 182 = (20, 3) := by decide +kernel
theorem zk_183 : z_kind 183 = (20, 4) := by decide +kernel
theorem zk_184 : z_kind 184 = (20, 8) := by decide +kernel
theorem zk_185 : z_kind 185 = (20, 8) := by decide +kernel
theorem zk_186 : z_kind 186 = (20, 8) := by decide +kernel
theorem zk_187 : z_kind 187 = (8, 0) := by decide +kernel
theorem zk_188 : z_kind 188 = (20, 3) := by decide +kernel
theorem zk_189 : z_kind 189 = (20, 4) := by decide +kernel
theorem zk_190 : z_kind 190 = (20, 8) := by decide +kernel
theorem zk_191 : z_kind 191 = (20, 8) := by decide +kernel
theorem zk_192 : z_kind 192 = (20, 8) := by decide +kernel
theorem zk_193 : z_kind 193 = (8, 0) := by decide +kernel
theorem zk_194 : z_kind 194 = (20, 3) := by decide +kernel
theorem zk_195 : z_kind 195 = (20, 4) := by decide +kernel
theorem zk_196 : z_kind 196 = (20, 8) := by decide +kernel
theorem zk_197 : z_kind 197 = (20, 8) := by decide +kernel
theorem zk_198 : z_kind 198 = (20, 8) := by decide +kernel
theorem zk_199 : z_kind 199 = (8, 0) := by decide +kernel
theorem zk_200 : z_kind 200 = (20, 3) := by decide +kernel
theorem zk_201 : z_kind 201 = (20, 4) := by decide +kernel
theorem zk_202 : z_kind 202 = (20, 8) := by decide +kernel
theorem zk_203 : z_kind 203 = (20, 8) := by decide +kernel
theorem zk_204 : z_kind 204 = (20, 8) := by decide +kernel
theorem zk_205 : z_kind 205 = (8, 0) := by decide +kernel
theorem zk_206 : z_kind 206 = (20, 3) := by decide +kernel
theorem zk_207 : z_kind 207 = (20, 4) := by decide +kernel
theorem zk_208 : z_kind 208 = (20, 8) := by decide +kernel
theorem zk_209 : z_kind 209 = (20, 8) := by decide +kernel
theorem zk_210 : z_kind 210 = (20, 8) := by decide +kernel
theorem zk_211 : z_kind 211 = (8, 0) := by decide +kernel
theorem zk_212 : z_kind 212 = (20, 3) := by decide +kernel
theorem zk_213 : z_kind 213 = (20, 4) := by decide +kernel
theorem zk_214 : z_kind 214 = (20, 8) := by decide +kernel
theorem zk_215 : z_kind 215 = (20, 8) := by decide +kernel
theorem zk_216 : z_kind 216 = (20, 8) := by decide +kernel
theorem zk_217 : z_kind 217 = (8, 0) := by decide +kernel
theorem zk_218 : z_kind 218 = (20, 3) := by decide +kernel
theorem zk_219 : z_kind 219 = (20, 4) := by decide +kernel
theorem zk_220 : z_kind 220 = (20, 8) := by decide +kernel
theorem zk_221 : z_kind 221 = (20, 8) := by decide +kernel
theorem zk_222 : z_kind 222 = (20, 8) := by decide +kernel
theorem zk_223 : z_kind 223 = (8, 0) := by decide +kernel
theorem zk_224 : z_kind 224 = (20, 3) := by decide +kernel
theorem zk_225 : z_kind 225 = (20, 4) := by decide +kernel
theorem zk_226 : z_kind 226 = (20, 8) := by decide +kernel
theorem zk_227 : z_kind 227 = (20, 8) := by decide +kernel
theorem zk_228 : z_kind 228 = (20, 8) := by decide +kernel
theorem zk_229 : z_kind 229 = (8, 0) := by decide +kernel
theorem zk_230 : z_kind 230 = (20, 3) := by decide +kernel
theorem zk_231 : z_kind 231 = (20, 4) := by decide +kernel
theorem zk_232 : z_kind 232 = (20, 8) := by decide +kernel
theorem zk_233 : z_kind 233 = (20, 8) := by decide +kernel
theorem zk_234 : z_kind 234 = (20, 8) := by decide +kernel
theorem zk_235 : z_kind 235 = (8, 0) := by decide +kernel
theorem zk_236 : z_kind 236 = (20, 3) := by decide +kernel
theorem zk_237 : z_kind 237 = (20, 4) := by decide +kernel
theorem zk_238 : z_kind 238 = (20, 8) := by decide +kernel
theorem zk_239 : z_kind 239 = (20, 8) := by decide +kernel
theorem zk_240 : z_kind 240 = (20, 8) := by decide +kernel
theorem zk_241 : z_kind 241 = (8, 0) := by decide +kernel
theorem zk_242 : z_kind 242 = (20, 3) := by decide +kernel
theorem zk_243 : z_kind 243 = (20, 4) := by decide +kernel
theorem zk_244 : z_kind 244 = (20, 8) := by decide +kernel
theorem zk_245 : z_kind 245 = (20, 8) := by decide +kernel
theorem zk_246 : z_kind 246 = (20, 8) := by decide +kernel
theorem zk_247 : z_kind 247 = (8, 0) := by decide +kernel
theorem zk_248 : z_kind 248 = (20, 3) := by decide +kernel
theorem zk_249 : z_kind 249 = (20, 4) := by decide +kernel
theorem zk_250 : z_kind 250 = (20, 8) := by decide +kernel
theorem zk_251 : z_kind 251 = (20, 8) := by decide +kernel
theorem zk_252 : z_kind 252 = (20, 8) := by decide +kernel
abbrev mX11_init : z_Y := (yX11_init, cX11_init, 3, none)
theorem w_1319 : Cond.methodLink "DearLettersModel" 1 ⟨"java/lang/Object", "<init>", "()V"⟩ ∈ z_tbl := z_tbl_in (List.mem_of_getElem? (i := 1319) (by decide +kernel)) rfl
theorem zk_254 : z_kind 254 = (20, 1600) := by decide +kernel
theorem ff_12_7 : z_FF "DearLettersModel" 7 12 0 := ⟨fl_12_7, rfl, rfl, rfl, fun _ => rfl, fun _ => rfl⟩
theorem zk_253 : z_kind 253 = (12, 0) := by decide +kernel
theorem zk_255 : z_kind 255 = (20, 6) := by decide +kernel
theorem ff_12_17 : z_FF "DearLettersModel" 17 12 9 := ⟨fl_12_17, rfl, rfl, rfl, fun _ => rfl, fun _ => rfl⟩
theorem w_1639 : Cond.arrayClass FieldType.char ∈ z_tbl := z_tbl_in (List.mem_of_getElem? (i := 1639) (by decide +kernel)) rfl
theorem zk_256 : z_kind 256 = (22, 6) := by decide +kernel
theorem ff_12_20 : z_FF "DearLettersModel" 20 12 10 := ⟨fl_12_20, rfl, rfl, rfl, fun _ => rfl, fun _ => rfl⟩
theorem zk_257 : z_kind 257 = (22, 3) := by decide +kernel
theorem ff_12_24 : z_FF "DearLettersModel" 24 12 11 := ⟨fl_12_24, rfl, rfl, rfl, fun _ => rfl, fun _ => rfl⟩
theorem zk_258 : z_kind 258 = (22, 4) := by decide +kernel
theorem ff_12_27 : z_FF "DearLettersModel" 27 12 12 := ⟨fl_12_27, rfl, rfl, rfl, fun _ => rfl, fun _ => rfl⟩
theorem zk_259 : z_kind 259 = (22, 5) := by decide +kernel
theorem ff_12_30 : z_FF "DearLettersModel" 30 12 13 := ⟨fl_12_30, rfl, rfl, rfl, fun _ => rfl, fun _ => rfl⟩
theorem zk_260 : z_kind 260 = (22, 4) := by decide +kernel
theorem ff_12_33 : z_FF "DearLettersModel" 33 12 14 := ⟨fl_12_33, rfl, rfl, rfl, fun _ => rfl, fun _ => rfl⟩
theorem zk_261 : z_kind 261 = (22, 5) := by decide +kernel
theorem ff_12_36 : z_FF "DearLettersModel" 36 12 15 := ⟨fl_12_36, rfl, rfl, rfl, fun _ => rfl, fun _ => rfl⟩
theorem zk_262 : z_kind 262 = (22, 4) := by decide +kernel
theorem ff_12_39 : z_FF "DearLettersModel" 39 12 16 := ⟨fl_12_39, rfl, rfl, rfl, fun _ => rfl, fun _ => rfl⟩
theorem zk_263 : z_kind 263 = (22, 4) := by decide +kernel
theorem ff_12_42 : z_FF "DearLettersModel" 42 12 17 := ⟨fl_12_42, rfl, rfl, rfl, fun _ => rfl, fun _ => rfl⟩
theorem zk_264 : z_kind 264 = (22, 4) := by decide +kernel
theorem ff_12_45 : z_FF "DearLettersModel" 45 12 18 := ⟨fl_12_45, rfl, rfl, rfl, fun _ => rfl, fun _ => rfl⟩
theorem zk_265 : z_kind 265 = (22, 6) := by decide +kernel
theorem ff_12_48 : z_FF "DearLettersModel" 48 12 19 := ⟨fl_12_48, rfl, rfl, rfl, fun _ => rfl, fun _ => rfl⟩
theorem zk_266 : z_kind 266 = (22, 4) := by decide +kernel
theorem ff_12_51 : z_FF "DearLettersModel" 51 12 20 := ⟨fl_12_51, rfl, rfl, rfl, fun _ => rfl, fun _ => rfl⟩
theorem zk_267 : z_kind 267 = (22, 4) := by decide +kernel
theorem ff_12_54 : z_FF "DearLettersModel" 54 12 21 := ⟨fl_12_54, rfl, rfl, rfl, fun _ => rfl, fun _ => rfl⟩
theorem zk_268 : z_kind 268 = (22, 5) := by decide +kernel
theorem ff_12_57 : z_FF "DearLettersModel" 57 12 22 := ⟨fl_12_57, rfl, rfl, rfl, fun _ => rfl, fun _ => rfl⟩
theorem zk_269 : z_kind 269 = (22, 5) := by decide +kernel
theorem ff_12_60 : z_FF "DearLettersModel" 60 12 23 := ⟨fl_12_60, rfl, rfl, rfl, fun _ => rfl, fun _ => rfl⟩
theorem zk_270 : z_kind 270 = (22, 4) := by decide +kernel
theorem ff_12_63 : z_FF "DearLettersModel" 63 12 24 := ⟨fl_12_63, rfl, rfl, rfl, fun _ => rfl, fun _ => rfl⟩
theorem zk_271 : z_kind 271 = (22, 6) := by decide +kernel
theorem ff_12_66 : z_FF "DearLettersModel" 66 12 25 := ⟨fl_12_66, rfl, rfl, rfl, fun _ => rfl, fun _ => rfl⟩
theorem zk_272 : z_kind 272 = (22, 4) := by decide +kernel
theorem ff_12_69 : z_FF "DearLettersModel" 69 12 26 := ⟨fl_12_69, rfl, rfl, rfl, fun _ => rfl, fun _ => rfl⟩
theorem zk_273 : z_kind 273 = (22, 6) := by decide +kernel
theorem ff_12_72 : z_FF "DearLettersModel" 72 12 27 := ⟨fl_12_72, rfl, rfl, rfl, fun _ => rfl, fun _ => rfl⟩
theorem zk_274 : z_kind 274 = (22, 3) := by decide +kernel
theorem ff_12_75 : z_FF "DearLettersModel" 75 12 28 := ⟨fl_12_75, rfl, rfl, rfl, fun _ => rfl, fun _ => rfl⟩
theorem zk_275 : z_kind 275 = (22, 6) := by decide +kernel
theorem ff_12_78 : z_FF "DearLettersModel" 78 12 29 := ⟨fl_12_78, rfl, rfl, rfl, fun _ => rfl, fun _ => rfl⟩
theorem zk_276 : z_kind 276 = (22, 5) := by decide +kernel
theorem ff_12_81 : z_FF "DearLettersModel" 81 12 30 := ⟨fl_12_81, rfl, rfl, rfl, fun _ => rfl, fun _ => rfl⟩
theorem zk_277 : z_kind 277 = (22, 4) := by decide +kernel
theorem ff_12_84 : z_FF "DearLettersModel" 84 12 31 := ⟨fl_12_84, rfl, rfl, rfl, fun _ => rfl, fun _ => rfl⟩
theorem zk_278 : z_kind 278 = (22, 2) := by decide +kernel
theorem ff_12_87 : z_FF "DearLettersModel" 87 12 32 := ⟨fl_12_87, rfl, rfl, rfl, fun _ => rfl, fun _ => rfl⟩
theorem zk_279 : z_kind 279 = (22, 3) := by decide +kernel
theorem ff_12_90 : z_FF "DearLettersModel" 90 12 33 := ⟨fl_12_90, rfl, rfl, rfl, fun _ => rfl, fun _ => rfl⟩
theorem zk_280 : z_kind 280 = (22, 3) := by decide +kernel
theorem ff_12_93 : z_FF "DearLettersModel" 93 12 34 := ⟨fl_12_93, rfl, rfl, rfl, fun _ => rfl, fun _ => rfl⟩
theorem zk_281 : z_kind 281 = (22, 3) := by decide +kernel
theorem ff_12_96 : z_FF "DearLettersModel" 96 12 35 := ⟨fl_12_96, rfl, rfl, rfl, fun _ => rfl, fun _ => rfl⟩
theorem zk_282 : z_kind 282 = (22, 3) := by decide +kernel
theorem ff_12_99 : z_FF "DearLettersModel" 99 12 36 := ⟨fl_12_99, rfl, rfl, rfl, fun _ => rfl, fun _ => rfl⟩
theorem zk_283 : z_kind 283 = (22, 3) := by decide +kernel
theorem ff_12_102 : z_FF "DearLettersModel" 102 12 37 := ⟨fl_12_102, rfl, rfl, rfl, fun _ => rfl, fun _ => rfl⟩
theorem zk_284 : z_kind 284 = (20, 10) := by decide +kernel
theorem ff_12_105 : z_FF "DearLettersModel" 105 12 39 := ⟨fl_12_105, rfl, rfl, rfl, fun _ => rfl, fun _ => rfl⟩
theorem zk_285 : z_kind 285 = (21, 48) := by decide +kernel
theorem ff_12_108 : z_FF "DearLettersModel" 108 12 40 := ⟨fl_12_108, rfl, rfl, rfl, fun _ => rfl, fun _ => rfl⟩
theorem zk_286 : z_kind 286 = (20, 48) := by decide +kernel
theorem ff_12_112 : z_FF "DearLettersModel" 112 12 41 := ⟨fl_12_112, rfl, rfl, rfl, fun _ => rfl, fun _ => rfl⟩
theorem zk_287 : z_kind 287 = (20, 8) := by decide +kernel
theorem ff_12_115 : z_FF "DearLettersModel" 115 12 42 := ⟨fl_12_115, rfl, rfl, rfl, fun _ => rfl, fun _ => rfl⟩
theorem zk_288 : z_kind 288 = (20, 64) := by decide +kernel
theorem ff_12_118 : z_FF "DearLettersModel" 118 12 43 := ⟨fl_12_118, rfl, rfl, rfl, fun _ => rfl, fun _ => rfl⟩
theorem zk_289 : z_kind 289 = (20, 16) := by decide +kernel
theorem ff_12_121 : z_FF "DearLettersModel" 121 12 44 := ⟨fl_12_121, rfl, rfl, rfl, fun _ => rfl, fun _ => rfl⟩
theorem zk_290 : z_kind 290 = (20, 128) := by decide +kernel
theorem ff_12_124 : z_FF "DearLettersModel" 124 12 45 := ⟨fl_12_124, rfl, rfl, rfl, fun _ => rfl, fun _ => rfl⟩
theorem zk_291 : z_kind 291 = (20, 18) := by decide +kernel
theorem ff_12_127 : z_FF "DearLettersModel" 127 12 46 := ⟨fl_12_127, rfl, rfl, rfl, fun _ => rfl, fun _ => rfl⟩
theorem zk_292 : z_kind 292 = (20, 4) := by decide +kernel
theorem ff_12_130 : z_FF "DearLettersModel" 130 12 47 := ⟨fl_12_130, rfl, rfl, rfl, fun _ => rfl, fun _ => rfl⟩
theorem zk_293 : z_kind 293 = (20, 4) := by decide +kernel
theorem ff_12_133 : z_FF "DearLettersModel" 133 12 48 := ⟨fl_12_133, rfl, rfl, rfl, fun _ => rfl, fun _ => rfl⟩
theorem zk_294 : z_kind 294 = (20, 4) := by decide +kernel
theorem ff_12_136 : z_FF "DearLettersModel" 136 12 49 := ⟨fl_12_136, rfl, rfl, rfl, fun _ => rfl, fun _ => rfl⟩
theorem zk_295 : z_kind 295 = (20, 3200) := by decide +kernel
theorem ff_12_139 : z_FF "DearLettersModel" 139 12 50 := ⟨fl_12_139, rfl, rfl, rfl, fun _ => rfl, fun _ => rfl⟩
theorem zk_296 : z_kind 296 = (20, 32) := by decide +kernel
theorem ff_12_142 : z_FF "DearLettersModel" 142 12 54 := ⟨fl_12_142, rfl, rfl, rfl, fun _ => rfl, fun _ => rfl⟩
theorem zk_297 : z_kind 297 = (20, 32) := by decide +kernel
theorem ff_12_145 : z_FF "DearLettersModel" 145 12 55 := ⟨fl_12_145, rfl, rfl, rfl, fun _ => rfl, fun _ => rfl⟩
theorem zk_298 : z_kind 298 = (20, 8) := by decide +kernel
theorem ff_12_148 : z_FF "DearLettersModel" 148 12 57 := ⟨fl_12_148, rfl, rfl, rfl, fun _ => rfl, fun _ => rfl⟩
theorem zk_299 : z_kind 299 = (20, 8) := by decide +kernel
theorem ff_12_151 : z_FF "DearLettersModel" 151 12 58 := ⟨fl_12_151, rfl, rfl, rfl, fun _ => rfl, fun _ => rfl⟩
theorem zk_300 : z_kind 300 = (20, 8) := by decide +kernel
theorem ff_12_154 : z_FF "DearLettersModel" 154 12 59 := ⟨fl_12_154, rfl, rfl, rfl, fun _ => rfl, fun _ => rfl⟩
theorem zk_301 : z_kind 301 = (20, 24) := by decide +kernel
theorem ff_12_157 : z_FF "DearLettersModel" 157 12 60 := ⟨fl_12_157, rfl, rfl, rfl, fun _ => rfl, fun _ => rfl⟩
theorem zk_302 : z_kind 302 = (21, 24) := by decide +kernel
theorem ff_12_160 : z_FF "DearLettersModel" 160 12 61 := ⟨fl_12_160, rfl, rfl, rfl, fun _ => rfl, fun _ => rfl⟩
theorem zk_303 : z_kind 303 = (20, 3) := by decide +kernel
theorem ff_12_163 : z_FF "DearLettersModel" 163 12 62 := ⟨fl_12_163, rfl, rfl, rfl, fun _ => rfl, fun _ => rfl⟩
theorem zk_304 : z_kind 304 = (20, 4) := by decide +kernel
theorem ff_12_166 : z_FF "DearLettersModel" 166 12 64 := ⟨fl_12_166, rfl, rfl, rfl, fun _ => rfl, fun _ => rfl⟩
theorem zk_305 : z_kind 305 = (20, 48) := by decide +kernel
theorem ff_12_169 : z_FF "DearLettersModel" 169 12 66 := ⟨fl_12_169, rfl, rfl, rfl, fun _ => rfl, fun _ => rfl⟩
theorem zk_306 : z_kind 306 = (20, 640) := by decide +kernel
theorem ff_12_172 : z_FF "DearLettersModel" 172 12 67 := ⟨fl_12_172, rfl, rfl, rfl, fun _ => rfl, fun _ => rfl⟩
theorem zk_307 : z_kind 307 = (22, 5) := by decide +kernel
theorem ff_12_179 : z_FF "DearLettersModel" 179 12 71 := ⟨fl_12_179, rfl, rfl, rfl, fun _ => rfl, fun _ => rfl⟩
theorem zk_308 : z_kind 308 = (22, 4) := by decide +kernel
theorem ff_12_182 : z_FF "DearLettersModel" 182 12 72 := ⟨fl_12_182, rfl, rfl, rfl, fun _ => rfl, fun _ => rfl⟩
theorem zk_309 : z_kind 309 = (22, 5) := by decide +kernel
theorem ff_12_185 : z_FF "DearLettersModel" 185 12 73 := ⟨fl_12_185, rfl, rfl, rfl, fun _ => rfl, fun _ => rfl⟩
theorem zk_310 : z_kind 310 = (22, 5) := by decide +kernel
theorem ff_12_188 : z_FF "DearLettersModel" 188 12 74 := ⟨fl_12_188, rfl, rfl, rfl, fun _ => rfl, fun _ => rfl⟩
theorem zk_311 : z_kind 311 = (22, 4) := by decide +kernel
theorem ff_12_191 : z_FF "DearLettersModel" 191 12 75 := ⟨fl_12_191, rfl, rfl, rfl, fun _ => rfl, fun _ => rfl⟩
theorem zk_312 : z_kind 312 = (22, 5) := by decide +kernel
theorem ff_12_194 : z_FF "DearLettersModel" 194 12 76 := ⟨fl_12_194, rfl, rfl, rfl, fun _ => rfl, fun _ => rfl⟩
theorem zk_313 : z_kind 313 = (22, 3) := by decide +kernel
theorem ff_12_197 : z_FF "DearLettersModel" 197 12 77 := ⟨fl_12_197, rfl, rfl, rfl, fun _ => rfl, fun _ => rfl⟩
theorem zk_314 : z_kind 314 = (22, 3) := by decide +kernel
theorem ff_12_200 : z_FF "DearLettersModel" 200 12 78 := ⟨fl_12_200, rfl, rfl, rfl, fun _ => rfl, fun _ => rfl⟩
theorem zk_315 : z_kind 315 = (22, 2) := by decide +kernel
theorem ff_12_203 : z_FF "DearLettersModel" 203 12 79 := ⟨fl_12_203, rfl, rfl, rfl, fun _ => rfl, fun _ => rfl⟩
theorem zk_316 : z_kind 316 = (22, 3) := by decide +kernel
theorem ff_12_206 : z_FF "DearLettersModel" 206 12 80 := ⟨fl_12_206, rfl, rfl, rfl, fun _ => rfl, fun _ => rfl⟩
theorem zk_317 : z_kind 317 = (22, 3) := by decide +kernel
theorem ff_12_209 : z_FF "DearLettersModel" 209 12 81 := ⟨fl_12_209, rfl, rfl, rfl, fun _ => rfl, fun _ => rfl⟩
theorem zk_318 : z_kind 318 = (22, 3) := by decide +kernel
theorem ff_12_212 : z_FF "DearLettersModel" 212 12 82 := ⟨fl_12_212, rfl, rfl, rfl, fun _ => rfl, fun _ => rfl⟩
theorem zk_319 : z_kind 319 = (22, 3) := by decide +kernel
theorem ff_12_215 : z_FF "DearLettersModel" 215 12 83 := ⟨fl_12_215, rfl, rfl, rfl, fun _ => rfl, fun _ => rfl⟩
theorem zk_320 : z_kind 320 = (22, 4) := by decide +kernel
theorem ff_12_218 : z_FF "DearLettersModel" 218 12 84 := ⟨fl_12_218, rfl, rfl, rfl, fun _ => rfl, fun _ => rfl⟩
theorem zk_321 : z_kind 321 = (22, 5) := by decide +kernel
theorem ff_12_221 : z_FF "DearLettersModel" 221 12 85 := ⟨fl_12_221, rfl, rfl, rfl, fun _ => rfl, fun _ => rfl⟩
theorem zk_322 : z_kind 322 = (22, 4) := by decide +kernel
theorem ff_12_224 : z_FF "DearLettersModel" 224 12 86 := ⟨fl_12_224, rfl, rfl, rfl, fun _ => rfl, fun _ => rfl⟩
theorem zk_323 : z_kind 323 = (22, 6) := by decide +kernel
theorem ff_12_227 : z_FF "DearLettersModel" 227 12 87 := ⟨fl_12_227, rfl, rfl, rfl, fun _ => rfl, fun _ => rfl⟩
theorem zk_324 : z_kind 324 = (22, 3) := by decide +kernel
theorem ff_12_230 : z_FF "DearLettersModel" 230 12 88 := ⟨fl_12_230, rfl, rfl, rfl, fun _ => rfl, fun _ => rfl⟩
theorem zk_325 : z_kind 325 = (22, 6) := by decide +kernel
theorem ff_12_233 : z_FF "DearLettersModel" 233 12 89 := ⟨fl_12_233, rfl, rfl, rfl, fun _ => rfl, fun _ => rfl⟩
theorem zk_326 : z_kind 326 = (22, 5) := by decide +kernel
theorem ff_12_236 : z_FF "DearLettersModel" 236 12 90 := ⟨fl_12_236, rfl, rfl, rfl, fun _ => rfl, fun _ => rfl⟩
theorem zk_327 : z_kind 327 = (22, 4) := by decide +kernel
theorem ff_12_239 : z_FF "DearLettersModel" 239 12 91 := ⟨fl_12_239, rfl, rfl, rfl, fun _ => rfl, fun _ => rfl⟩
theorem zk_328 : z_kind 328 = (22, 4) := by decide +kernel
theorem ff_12_242 : z_FF "DearLettersModel" 242 12 92 := ⟨fl_12_242, rfl, rfl, rfl, fun _ => rfl, fun _ => rfl⟩
theorem zk_329 : z_kind 329 = (22, 4) := by decide +kernel
theorem ff_12_245 : z_FF "DearLettersModel" 245 12 93 := ⟨fl_12_245, rfl, rfl, rfl, fun _ => rfl, fun _ => rfl⟩
theorem zk_330 : z_kind 330 = (20, 1700) := by decide +kernel
theorem ff_12_248 : z_FF "DearLettersModel" 248 12 94 := ⟨fl_12_248, rfl, rfl, rfl, fun _ => rfl, fun _ => rfl⟩
theorem zk_331 : z_kind 331 = (20, 1700) := by decide +kernel
theorem ff_12_251 : z_FF "DearLettersModel" 251 12 96 := ⟨fl_12_251, rfl, rfl, rfl, fun _ => rfl, fun _ => rfl⟩
theorem zk_332 : z_kind 332 = (21, 1700) := by decide +kernel
theorem ff_12_254 : z_FF "DearLettersModel" 254 12 100 := ⟨fl_12_254, rfl, rfl, rfl, fun _ => rfl, fun _ => rfl⟩
theorem zk_333 : z_kind 333 = (20, 34) := by decide +kernel
theorem ff_12_257 : z_FF "DearLettersModel" 257 12 104 := ⟨fl_12_257, rfl, rfl, rfl, fun _ => rfl, fun _ => rfl⟩
abbrev mX12_init : z_Y := (yX12_init, cX12_init, 1, none)
abbrev mX10_packedConstant : z_Y := (yX10_packedConstant, cX10_packedConstant, 4, (Option.some FieldType.int))
abbrev mJ0_length_8abf5 : z_Y := (yJ0_length_8abf5, cJ0_length_8abf5, 1, (Option.some FieldType.int))
abbrev mJ0_coder_7d493 : z_Y := (yJ0_coder_7d493, cJ0_coder_7d493, 1, (Option.some FieldType.byte))
abbrev mJ0_charAt_5068e : z_Y := (yJ0_charAt_5068e, cJ0_charAt_5068e, 2, (Option.some FieldType.char))
abbrev mJ0_isLatin1_aae02 : z_Y := (yJ0_isLatin1_aae02, cJ0_isLatin1_aae02, 1, (Option.some FieldType.boolean))
abbrev mJ1_charAt_3b067 : z_Y := (yJ1_charAt_3b067, cJ1_charAt_3b067, 2, (Option.some FieldType.char))
abbrev mJ0_checkIndex_df160 : z_Y := (yJ0_checkIndex_df160, cJ0_checkIndex_df160, 2, none)
abbrev mJ3_checkIndex_8e157 : z_Y := (yJ3_checkIndex_8e157, cJ3_checkIndex_8e157, 3, (Option.some FieldType.int))
theorem ff_10_9 : z_FF "DearLetters$Text" 9 10 0 := ⟨fl_10_9, rfl, rfl, rfl, fun _ => rfl, fun _ => rfl⟩
theorem ff_10_19 : z_FF "DearLetters$Text" 19 10 10 := ⟨fl_10_19, rfl, rfl, rfl, fun _ => rfl, fun _ => rfl⟩
theorem zk_2 : z_kind 2 = (20, 1600) := by decide +kernel
theorem zk_3 : z_kind 3 = (20, 34) := by decide +kernel
theorem w_187 : Cond.methodLink "DearLetters$Text" 3 ⟨"java/lang/Object", "<init>", "()V"⟩ ∈ z_tbl := z_tbl_in (List.mem_of_getElem? (i := 187) (by decide +kernel)) rfl
theorem w_189 : Cond.methodLink "DearLetters$Text" 24 ⟨"java/lang/String", "length", "()I"⟩ ∈ z_tbl := z_tbl_in (List.mem_of_getElem? (i := 189) (by decide +kernel)) rfl
theorem w_190 : Cond.instanceMethod ⟨"java/lang/String", "length", "()I"⟩ ∈ z_tbl := z_tbl_in (List.mem_of_getElem? (i := 190) (by decide +kernel)) rfl
theorem w_191 : Cond.selects "java/lang/String" ⟨"java/lang/String", "length", "()I"⟩ ⟨"java/lang/String", "length", "()I"⟩ ∈ z_tbl := z_tbl_in (List.mem_of_getElem? (i := 191) (by decide +kernel)) rfl
theorem w_192 : Cond.code ⟨"java/lang/String", "length", "()I"⟩ prog_16_method_54_code 1 (Option.some FieldType.int) ∈ z_tbl := z_tbl_in (List.mem_of_getElem? (i := 192) (by decide +kernel)) rfl
theorem w_193 : Cond.methodLink "java/lang/String" 335 ⟨"java/lang/String", "coder", "()B"⟩ ∈ z_tbl := z_tbl_in (List.mem_of_getElem? (i := 193) (by decide +kernel)) rfl
theorem w_194 : Cond.instanceMethod ⟨"java/lang/String", "coder", "()B"⟩ ∈ z_tbl := z_tbl_in (List.mem_of_getElem? (i := 194) (by decide +kernel)) rfl
theorem w_195 : Cond.selects "java/lang/String" ⟨"java/lang/String", "coder", "()B"⟩ ⟨"java/lang/String", "coder", "()B"⟩ ∈ z_tbl := z_tbl_in (List.mem_of_getElem? (i := 195) (by decide +kernel)) rfl
theorem w_196 : Cond.code ⟨"java/lang/String", "coder", "()B"⟩ prog_16_method_152_code 1 (Option.some FieldType.byte) ∈ z_tbl := z_tbl_in (List.mem_of_getElem? (i := 196) (by decide +kernel)) rfl
theorem w_197 : Cond.fieldLink "java/lang/String" 38 "java/lang/String" "COMPACT_STRINGS" "Z" ∈ z_tbl := z_tbl_in (List.mem_of_getElem? (i := 197) (by decide +kernel)) rfl
theorem w_199 : Cond.methodLink "DearLetters$Text" 30 ⟨"java/lang/String", "charAt", "(I)C"⟩ ∈ z_tbl := z_tbl_in (List.mem_of_getElem? (i := 199) (by decide +kernel)) rfl
theorem w_200 : Cond.instanceMethod ⟨"java/lang/String", "charAt", "(I)C"⟩ ∈ z_tbl := z_tbl_in (List.mem_of_getElem? (i := 200) (by decide +kernel)) rfl
theorem w_201 : Cond.selects "java/lang/String" ⟨"java/lang/String", "charAt", "(I)C"⟩ ⟨"java/lang/String", "charAt", "(I)C"⟩ ∈ z_tbl := z_tbl_in (List.mem_of_getElem? (i := 201) (by decide +kernel)) rfl
theorem w_202 : Cond.code ⟨"java/lang/String", "charAt", "(I)C"⟩ prog_16_method_56_code 2 (Option.some FieldType.char) ∈ z_tbl := z_tbl_in (List.mem_of_getElem? (i := 202) (by decide +kernel)) rfl
theorem w_203 : Cond.methodLink "java/lang/String" 492 ⟨"java/lang/String", "isLatin1", "()Z"⟩ ∈ z_tbl := z_tbl_in (List.mem_of_getElem? (i := 203) (by decide +kernel)) rfl
theorem w_204 : Cond.instanceMethod ⟨"java/lang/String", "isLatin1", "()Z"⟩ ∈ z_tbl := z_tbl_in (List.mem_of_getElem? (i := 204) (by decide +kernel)) rfl
theorem w_205 : Cond.selects "java/lang/String" ⟨"java/lang/String", "isLatin1", "()Z"⟩ ⟨"java/lang/String", "isLatin1", "()Z"⟩ ∈ z_tbl := z_tbl_in (List.mem_of_getElem? (i := 205) (by decide +kernel)) rfl
theorem w_206 : Cond.code ⟨"java/lang/String", "isLatin1", "()Z"⟩ prog_16_method_154_code 1 (Option.some FieldType.boolean) ∈ z_tbl := z_tbl_in (List.mem_of_getElem? (i := 206) (by decide +kernel)) rfl
theorem w_207 : Cond.methodLink "java/lang/String" 495 ⟨"java/lang/StringLatin1", "charAt", "([BI)C"⟩ ∈ z_tbl := z_tbl_in (List.mem_of_getElem? (i := 207) (by decide +kernel)) rfl
theorem w_208 : Cond.static ⟨"java/lang/StringLatin1", "charAt", "([BI)C"⟩ ∈ z_tbl := z_tbl_in (List.mem_of_getElem? (i := 208) (by decide +kernel)) rfl
theorem w_209 : Cond.code ⟨"java/lang/StringLatin1", "charAt", "([BI)C"⟩ prog_17_method_2_code 2 (Option.some FieldType.char) ∈ z_tbl := z_tbl_in (List.mem_of_getElem? (i := 209) (by decide +kernel)) rfl
theorem w_210 : Cond.methodLink "java/lang/StringLatin1" 9 ⟨"java/lang/String", "checkIndex", "(II)V"⟩ ∈ z_tbl := z_tbl_in (List.mem_of_getElem? (i := 210) (by decide +kernel)) rfl
theorem w_211 : Cond.static ⟨"java/lang/String", "checkIndex", "(II)V"⟩ ∈ z_tbl := z_tbl_in (List.mem_of_getElem? (i := 211) (by decide +kernel)) rfl
theorem w_212 : Cond.code ⟨"java/lang/String", "checkIndex", "(II)V"⟩ prog_16_method_155_code 2 none ∈ z_tbl := z_tbl_in (List.mem_of_getElem? (i := 212) (by decide +kernel)) rfl
theorem w_213 : Cond.fieldLink "java/lang/String" 1053 "jdk/internal/util/Preconditions" "SIOOBE_FORMATTER" "Ljava/util/function/BiFunction;" ∈ z_tbl := z_tbl_in (List.mem_of_getElem? (i := 213) (by decide +kernel)) rfl
theorem w_215 : Cond.methodLink "java/lang/String" 1059 ⟨"jdk/internal/util/Preconditions", "checkIndex", "(IILjava/util/function/BiFunction;)I"⟩ ∈ z_tbl := z_tbl_in (List.mem_of_getElem? (i := 215) (by decide +kernel)) rfl
theorem w_216 : Cond.static ⟨"jdk/internal/util/Preconditions", "checkIndex", "(IILjava/util/function/BiFunction;)I"⟩ ∈ z_tbl := z_tbl_in (List.mem_of_getElem? (i := 216) (by decide +kernel)) rfl
theorem w_217 : Cond.code ⟨"jdk/internal/util/Preconditions", "checkIndex", "(IILjava/util/function/BiFunction;)I"⟩ prog_21_method_11_code 3 (Option.some FieldType.int) ∈ z_tbl := z_tbl_in (List.mem_of_getElem? (i := 217) (by decide +kernel)) rfl
theorem w_2208 : Cond.fieldLink "java/lang/String" 9 "java/lang/String" "value" "[B" ∈ z_tbl := z_tbl_in (List.mem_of_getElem? (i := 2208) (by decide +kernel)) rfl
theorem w_2209 : Cond.fieldLink "java/lang/String" 15 "java/lang/String" "coder" "B" ∈ z_tbl := z_tbl_in (List.mem_of_getElem? (i := 2209) (by decide +kernel)) rfl
theorem w_156 : Cond.initialized "java/lang/String" ∈ z_tbl := z_tbl_in (List.mem_of_getElem? (i := 156) (by decide +kernel)) rfl
theorem w_157 : Cond.initialized "java/lang/StringLatin1" ∈ z_tbl := z_tbl_in (List.mem_of_getElem? (i := 157) (by decide +kernel)) rfl
theorem w_158 : Cond.initialized "jdk/internal/util/Preconditions" ∈ z_tbl := z_tbl_in (List.mem_of_getElem? (i := 158) (by decide +kernel)) rfl
theorem w_237 : Cond.methodLink "DearLetters$Text" 34 ⟨"DearLetters$Text", "packedConstant", "(II)I"⟩ ∈ z_tbl := z_tbl_in (List.mem_of_getElem? (i := 237) (by decide +kernel)) rfl
theorem w_239 : Cond.code ⟨"DearLetters$Text", "packedConstant", "(II)I"⟩ prog_12_method_2_code 4 (Option.some FieldType.int) ∈ z_tbl := z_tbl_in (List.mem_of_getElem? (i := 239) (by decide +kernel)) rfl
theorem w_238 : Cond.static ⟨"DearLetters$Text", "packedConstant", "(II)I"⟩ ∈ z_tbl := z_tbl_in (List.mem_of_getElem? (i := 238) (by decide +kernel)) rfl
theorem lk_10_34 : z_LS "DearLetters$Text" 34 mX10_packedConstant 2 := ⟨⟨w_237, w_155, w_239, ⟨by decide, by decide, by decide +kernel⟩, by decide⟩, w_238⟩
