theorem w_1961 : Cond.code ⟨"DearLettersModel", "warmest", "(I)I"⟩ prog_14_method_74_code 3 (Option.some FieldType.int) ∈ z_tbl := z_tbl_in (List.mem_of_getElem? (i := 1961) (by decide +kernel)) rfl
theorem w_1959 : Cond.instanceMethod ⟨"DearLettersModel", "warmest", "(I)I"⟩ ∈ z_tbl := z_tbl_in (List.mem_of_getElem? (i := 1959) (by decide +kernel)) rfl
theorem w_1960 : Cond.selects "DearLettersModel" ⟨"DearLettersModel", "warmest", "(I)I"⟩ ⟨"DearLettersModel", "warmest", "(I)I"⟩ ∈ z_tbl := z_tbl_in (List.mem_of_getElem? (i := 1960) (by decide +kernel)) rfl
theorem lkl_71 : z_LV "DearLettersLaw" 71 12 mX12_warmest 1 := ⟨⟨w_1958, w_171, w_1961, ⟨by decide, by decide, by decide +kernel⟩, by decide⟩, by decide, w_1959, w_1960⟩
theorem w_1050 : Cond.methodLink "DearLettersLaw" 72 ⟨"DearLetters", "warms", "()J"⟩ ∈ z_tbl := z_tbl_in (List.mem_of_getElem? (i := 1050) (by decide +kernel)) rfl
theorem w_1053 : Cond.code ⟨"DearLetters", "warms", "()J"⟩ prog_1_method_15_code 1 (Option.some FieldType.long) ∈ z_tbl := z_tbl_in (List.mem_of_getElem? (i := 1053) (by decide +kernel)) rfl
theorem w_1051 : Cond.instanceMethod ⟨"DearLetters", "warms", "()J"⟩ ∈ z_tbl := z_tbl_in (List.mem_of_getElem? (i := 1051) (by decide +kernel)) rfl
theorem w_1052 : Cond.selects "DearLetters" ⟨"DearLetters", "warms", "()J"⟩ ⟨"DearLetters", "warms", "()J"⟩ ∈ z_tbl := z_tbl_in (List.mem_of_getElem? (i := 1052) (by decide +kernel)) rfl
theorem lkl_72 : z_LV "DearLettersLaw" 72 11 mX11_warms 0 := ⟨⟨w_1050, w_154, w_1053, ⟨by decide, by decide, by decide +kernel⟩, by decide⟩, by decide, w_1051, w_1052⟩
theorem w_1986 : Cond.methodLink "DearLettersLaw" 76 ⟨"DearLettersModel", "warms", "()J"⟩ ∈ z_tbl := z_tbl_in (List.mem_of_getElem? (i := 1986) (by decide +kernel)) rfl
theorem w_1989 : Cond.code ⟨"DearLettersModel", "warms", "()J"⟩ prog_14_method_75_code 1 (Option.some FieldType.long) ∈ z_tbl := z_tbl_in (List.mem_of_getElem? (i := 1989) (by decide +kernel)) rfl
theorem w_1987 : Cond.instanceMethod ⟨"DearLettersModel", "warms", "()J"⟩ ∈ z_tbl := z_tbl_in (List.mem_of_getElem? (i := 1987) (by decide +kernel)) rfl
theorem w_1988 : Cond.selects "DearLettersModel" ⟨"DearLettersModel", "warms", "()J"⟩ ⟨"DearLettersModel", "warms", "()J"⟩ ∈ z_tbl := z_tbl_in (List.mem_of_getElem? (i := 1988) (by decide +kernel)) rfl
theorem lkl_76 : z_LV "DearLettersLaw" 76 12 mX12_warms 0 := ⟨⟨w_1986, w_171, w_1989, ⟨by decide, by decide, by decide +kernel⟩, by decide⟩, by decide, w_1987, w_1988⟩
theorem w_1054 : Cond.methodLink "DearLettersLaw" 77 ⟨"DearLetters", "later", "(I)I"⟩ ∈ z_tbl := z_tbl_in (List.mem_of_getElem? (i := 1054) (by decide +kernel)) rfl
theorem w_1057 : Cond.code ⟨"DearLetters", "later", "(I)I"⟩ prog_1_method_16_code 3 (Option.some FieldType.int) ∈ z_tbl := z_tbl_in (List.mem_of_getElem? (i := 1057) (by decide +kernel)) rfl
theorem w_1055 : Cond.instanceMethod ⟨"DearLetters", "later", "(I)I"⟩ ∈ z_tbl := z_tbl_in (List.mem_of_getElem? (i := 1055) (by decide +kernel)) rfl
theorem w_1056 : Cond.selects "DearLetters" ⟨"DearLetters", "later", "(I)I"⟩ ⟨"DearLetters", "later", "(I)I"⟩ ∈ z_tbl := z_tbl_in (List.mem_of_getElem? (i := 1056) (by decide +kernel)) rfl
theorem lkl_77 : z_LV "DearLettersLaw" 77 11 mX11_later 1 := ⟨⟨w_1054, w_154, w_1057, ⟨by decide, by decide, by decide +kernel⟩, by decide⟩, by decide, w_1055, w_1056⟩
theorem w_1990 : Cond.methodLink "DearLettersLaw" 80 ⟨"DearLettersModel", "later", "(I)I"⟩ ∈ z_tbl := z_tbl_in (List.mem_of_getElem? (i := 1990) (by decide +kernel)) rfl
theorem w_1993 : Cond.code ⟨"DearLettersModel", "later", "(I)I"⟩ prog_14_method_76_code 3 (Option.some FieldType.int) ∈ z_tbl := z_tbl_in (List.mem_of_getElem? (i := 1993) (by decide +kernel)) rfl
theorem w_1991 : Cond.instanceMethod ⟨"DearLettersModel", "later", "(I)I"⟩ ∈ z_tbl := z_tbl_in (List.mem_of_getElem? (i := 1991) (by decide +kernel)) rfl
theorem w_1992 : Cond.selects "DearLettersModel" ⟨"DearLettersModel", "later", "(I)I"⟩ ⟨"DearLettersModel", "later", "(I)I"⟩ ∈ z_tbl := z_tbl_in (List.mem_of_getElem? (i := 1992) (by decide +kernel)) rfl
theorem lkl_80 : z_LV "DearLettersLaw" 80 12 mX12_later 1 := ⟨⟨w_1990, w_171, w_1993, ⟨by decide, by decide, by decide +kernel⟩, by decide⟩, by decide, w_1991, w_1992⟩
theorem w_1067 : Cond.methodLink "DearLettersLaw" 81 ⟨"DearLetters", "finished", "()I"⟩ ∈ z_tbl := z_tbl_in (List.mem_of_getElem? (i := 1067) (by decide +kernel)) rfl
theorem w_1070 : Cond.code ⟨"DearLetters", "finished", "()I"⟩ prog_1_method_17_code 3 (Option.some FieldType.int) ∈ z_tbl := z_tbl_in (List.mem_of_getElem? (i := 1070) (by decide +kernel)) rfl
theorem w_1068 : Cond.instanceMethod ⟨"DearLetters", "finished", "()I"⟩ ∈ z_tbl := z_tbl_in (List.mem_of_getElem? (i := 1068) (by decide +kernel)) rfl
theorem w_1069 : Cond.selects "DearLetters" ⟨"DearLetters", "finished", "()I"⟩ ⟨"DearLetters", "finished", "()I"⟩ ∈ z_tbl := z_tbl_in (List.mem_of_getElem? (i := 1069) (by decide +kernel)) rfl
theorem lkl_81 : z_LV "DearLettersLaw" 81 11 mX11_finished 0 := ⟨⟨w_1067, w_154, w_1070, ⟨by decide, by decide, by decide +kernel⟩, by decide⟩, by decide, w_1068, w_1069⟩
theorem w_2018 : Cond.methodLink "DearLettersLaw" 84 ⟨"DearLettersModel", "finished", "()I"⟩ ∈ z_tbl := z_tbl_in (List.mem_of_getElem? (i := 2018) (by decide +kernel)) rfl
theorem w_2021 : Cond.code ⟨"DearLettersModel", "finished", "()I"⟩ prog_14_method_77_code 3 (Option.some FieldType.int) ∈ z_tbl := z_tbl_in (List.mem_of_getElem? (i := 2021) (by decide +kernel)) rfl
theorem w_2019 : Cond.instanceMethod ⟨"DearLettersModel", "finished", "()I"⟩ ∈ z_tbl := z_tbl_in (List.mem_of_getElem? (i := 2019) (by decide +kernel)) rfl
theorem w_2020 : Cond.selects "DearLettersModel" ⟨"DearLettersModel", "finished", "()I"⟩ ⟨"DearLettersModel", "finished", "()I"⟩ ∈ z_tbl := z_tbl_in (List.mem_of_getElem? (i := 2020) (by decide +kernel)) rfl
theorem lkl_84 : z_LV "DearLettersLaw" 84 12 mX12_finished 0 := ⟨⟨w_2018, w_171, w_2021, ⟨by decide, by decide, by decide +kernel⟩, by decide⟩, by decide, w_2019, w_2020⟩
theorem w_1072 : Cond.methodLink "DearLettersLaw" 85 ⟨"DearLetters", "sheets", "(I)I"⟩ ∈ z_tbl := z_tbl_in (List.mem_of_getElem? (i := 1072) (by decide +kernel)) rfl
theorem w_1075 : Cond.code ⟨"DearLetters", "sheets", "(I)I"⟩ prog_1_method_18_code 2 (Option.some FieldType.int) ∈ z_tbl := z_tbl_in (List.mem_of_getElem? (i := 1075) (by decide +kernel)) rfl
theorem w_1073 : Cond.instanceMethod ⟨"DearLetters", "sheets", "(I)I"⟩ ∈ z_tbl := z_tbl_in (List.mem_of_getElem? (i := 1073) (by decide +kernel)) rfl
theorem w_1074 : Cond.selects "DearLetters" ⟨"DearLetters", "sheets", "(I)I"⟩ ⟨"DearLetters", "sheets", "(I)I"⟩ ∈ z_tbl := z_tbl_in (List.mem_of_getElem? (i := 1074) (by decide +kernel)) rfl
theorem lkl_85 : z_LV "DearLettersLaw" 85 11 mX11_sheets 1 := ⟨⟨w_1072, w_154, w_1075, ⟨by decide, by decide, by decide +kernel⟩, by decide⟩, by decide, w_1073, w_1074⟩
theorem w_2022 : Cond.methodLink "DearLettersLaw" 88 ⟨"DearLettersModel", "sheets", "(I)I"⟩ ∈ z_tbl := z_tbl_in (List.mem_of_getElem? (i := 2022) (by decide +kernel)) rfl
theorem w_2025 : Cond.code ⟨"DearLettersModel", "sheets", "(I)I"⟩ prog_14_method_80_code 3 (Option.some FieldType.int) ∈ z_tbl := z_tbl_in (List.mem_of_getElem? (i := 2025) (by decide +kernel)) rfl
theorem w_2023 : Cond.instanceMethod ⟨"DearLettersModel", "sheets", "(I)I"⟩ ∈ z_tbl := z_tbl_in (List.mem_of_getElem? (i := 2023) (by decide +kernel)) rfl
theorem w_2024 : Cond.selects "DearLettersModel" ⟨"DearLettersModel", "sheets", "(I)I"⟩ ⟨"DearLettersModel", "sheets", "(I)I"⟩ ∈ z_tbl := z_tbl_in (List.mem_of_getElem? (i := 2024) (by decide +kernel)) rfl
theorem lkl_88 : z_LV "DearLettersLaw" 88 12 mX12_sheets 1 := ⟨⟨w_2022, w_171, w_2025, ⟨by decide, by decide, by decide +kernel⟩, by decide⟩, by decide, w_2023, w_2024⟩
theorem w_1090 : Cond.methodLink "DearLettersLaw" 89 ⟨"DearLetters", "shared", "(I)I"⟩ ∈ z_tbl := z_tbl_in (List.mem_of_getElem? (i := 1090) (by decide +kernel)) rfl
theorem w_1093 : Cond.code ⟨"DearLetters", "shared", "(I)I"⟩ prog_1_method_19_code 2 (Option.some FieldType.int) ∈ z_tbl := z_tbl_in (List.mem_of_getElem? (i := 1093) (by decide +kernel)) rfl
theorem w_1091 : Cond.instanceMethod ⟨"DearLetters", "shared", "(I)I"⟩ ∈ z_tbl := z_tbl_in (List.mem_of_getElem? (i := 1091) (by decide +kernel)) rfl
theorem w_1092 : Cond.selects "DearLetters" ⟨"DearLetters", "shared", "(I)I"⟩ ⟨"DearLetters", "shared", "(I)I"⟩ ∈ z_tbl := z_tbl_in (List.mem_of_getElem? (i := 1092) (by decide +kernel)) rfl
theorem lkl_89 : z_LV "DearLettersLaw" 89 11 mX11_shared 1 := ⟨⟨w_1090, w_154, w_1093, ⟨by decide, by decide, by decide +kernel⟩, by decide⟩, by decide, w_1091, w_1092⟩
theorem w_2034 : Cond.methodLink "DearLettersLaw" 92 ⟨"DearLettersModel", "shared", "(I)I"⟩ ∈ z_tbl := z_tbl_in (List.mem_of_getElem? (i := 2034) (by decide +kernel)) rfl
theorem w_2037 : Cond.code ⟨"DearLettersModel", "shared", "(I)I"⟩ prog_14_method_83_code 5 (Option.some FieldType.int) ∈ z_tbl := z_tbl_in (List.mem_of_getElem? (i := 2037) (by decide +kernel)) rfl
theorem w_2035 : Cond.instanceMethod ⟨"DearLettersModel", "shared", "(I)I"⟩ ∈ z_tbl := z_tbl_in (List.mem_of_getElem? (i := 2035) (by decide +kernel)) rfl
theorem w_2036 : Cond.selects "DearLettersModel" ⟨"DearLettersModel", "shared", "(I)I"⟩ ⟨"DearLettersModel", "shared", "(I)I"⟩ ∈ z_tbl := z_tbl_in (List.mem_of_getElem? (i := 2036) (by decide +kernel)) rfl
theorem lkl_92 : z_LV "DearLettersLaw" 92 12 mX12_shared 1 := ⟨⟨w_2034, w_171, w_2037, ⟨by decide, by decide, by decide +kernel⟩, by decide⟩, by decide, w_2035, w_2036⟩
theorem w_1118 : Cond.methodLink "DearLettersLaw" 93 ⟨"DearLetters", "tell", "(I)I"⟩ ∈ z_tbl := z_tbl_in (List.mem_of_getElem? (i := 1118) (by decide +kernel)) rfl
theorem w_1121 : Cond.code ⟨"DearLetters", "tell", "(I)I"⟩ prog_1_method_20_code 4 (Option.some FieldType.int) ∈ z_tbl := z_tbl_in (List.mem_of_getElem? (i := 1121) (by decide +kernel)) rfl
theorem w_1119 : Cond.instanceMethod ⟨"DearLetters", "tell", "(I)I"⟩ ∈ z_tbl := z_tbl_in (List.mem_of_getElem? (i := 1119) (by decide +kernel)) rfl
theorem w_1120 : Cond.selects "DearLetters" ⟨"DearLetters", "tell", "(I)I"⟩ ⟨"DearLetters", "tell", "(I)I"⟩ ∈ z_tbl := z_tbl_in (List.mem_of_getElem? (i := 1120) (by decide +kernel)) rfl
theorem lkl_93 : z_LV "DearLettersLaw" 93 11 mX11_tell 1 := ⟨⟨w_1118, w_154, w_1121, ⟨by decide, by decide, by decide +kernel⟩, by decide⟩, by decide, w_1119, w_1120⟩
theorem w_2046 : Cond.methodLink "DearLettersLaw" 96 ⟨"DearLettersModel", "tell", "(I)I"⟩ ∈ z_tbl := z_tbl_in (List.mem_of_getElem? (i := 2046) (by decide +kernel)) rfl
theorem w_2049 : Cond.code ⟨"DearLettersModel", "tell", "(I)I"⟩ prog_14_method_85_code 4 (Option.some FieldType.int) ∈ z_tbl := z_tbl_in (List.mem_of_getElem? (i := 2049) (by decide +kernel)) rfl
theorem w_2047 : Cond.instanceMethod ⟨"DearLettersModel", "tell", "(I)I"⟩ ∈ z_tbl := z_tbl_in (List.mem_of_getElem? (i := 2047) (by decide +kernel)) rfl
theorem w_2048 : Cond.selects "DearLettersModel" ⟨"DearLettersModel", "tell", "(I)I"⟩ ⟨"DearLettersModel", "tell", "(I)I"⟩ ∈ z_tbl := z_tbl_in (List.mem_of_getElem? (i := 2048) (by decide +kernel)) rfl
theorem lkl_96 : z_LV "DearLettersLaw" 96 12 mX12_tell 1 := ⟨⟨w_2046, w_171, w_2049, ⟨by decide, by decide, by decide +kernel⟩, by decide⟩, by decide, w_2047, w_2048⟩
theorem w_1126 : Cond.methodLink "DearLettersLaw" 97 ⟨"DearLetters", "children", "(I)I"⟩ ∈ z_tbl := z_tbl_in (List.mem_of_getElem? (i := 1126) (by decide +kernel)) rfl
theorem w_1129 : Cond.code ⟨"DearLetters", "children", "(I)I"⟩ prog_1_method_21_code 2 (Option.some FieldType.int) ∈ z_tbl := z_tbl_in (List.mem_of_getElem? (i := 1129) (by decide +kernel)) rfl
theorem w_1127 : Cond.instanceMethod ⟨"DearLetters", "children", "(I)I"⟩ ∈ z_tbl := z_tbl_in (List.mem_of_getElem? (i := 1127) (by decide +kernel)) rfl
theorem w_1128 : Cond.selects "DearLetters" ⟨"DearLetters", "children", "(I)I"⟩ ⟨"DearLetters", "children", "(I)I"⟩ ∈ z_tbl := z_tbl_in (List.mem_of_getElem? (i := 1128) (by decide +kernel)) rfl
theorem lkl_97 : z_LV "DearLettersLaw" 97 11 mX11_children 1 := ⟨⟨w_1126, w_154, w_1129, ⟨by decide, by decide, by decide +kernel⟩, by decide⟩, by decide, w_1127, w_1128⟩
theorem w_2054 : Cond.methodLink "DearLettersLaw" 100 ⟨"DearLettersModel", "children", "(I)I"⟩ ∈ z_tbl := z_tbl_in (List.mem_of_getElem? (i := 2054) (by decide +kernel)) rfl
theorem w_2057 : Cond.code ⟨"DearLettersModel", "children", "(I)I"⟩ prog_14_method_88_code 7 (Option.some FieldType.int) ∈ z_tbl := z_tbl_in (List.mem_of_getElem? (i := 2057) (by decide +kernel)) rfl
theorem w_2055 : Cond.instanceMethod ⟨"DearLettersModel", "children", "(I)I"⟩ ∈ z_tbl := z_tbl_in (List.mem_of_getElem? (i := 2055) (by decide +kernel)) rfl
theorem w_2056 : Cond.selects "DearLettersModel" ⟨"DearLettersModel", "children", "(I)I"⟩ ⟨"DearLettersModel", "children", "(I)I"⟩ ∈ z_tbl := z_tbl_in (List.mem_of_getElem? (i := 2056) (by decide +kernel)) rfl
theorem lkl_100 : z_LV "DearLettersLaw" 100 12 mX12_children 1 := ⟨⟨w_2054, w_171, w_2057, ⟨by decide, by decide, by decide +kernel⟩, by decide⟩, by decide, w_2055, w_2056⟩
theorem w_1148 : Cond.methodLink "DearLettersLaw" 101 ⟨"DearLetters", "see", "()I"⟩ ∈ z_tbl := z_tbl_in (List.mem_of_getElem? (i := 1148) (by decide +kernel)) rfl
theorem w_1151 : Cond.code ⟨"DearLetters", "see", "()I"⟩ prog_1_method_22_code 4 (Option.some FieldType.int) ∈ z_tbl := z_tbl_in (List.mem_of_getElem? (i := 1151) (by decide +kernel)) rfl
theorem w_1149 : Cond.instanceMethod ⟨"DearLetters", "see", "()I"⟩ ∈ z_tbl := z_tbl_in (List.mem_of_getElem? (i := 1149) (by decide +kernel)) rfl
theorem w_1150 : Cond.selects "DearLetters" ⟨"DearLetters", "see", "()I"⟩ ⟨"DearLetters", "see", "()I"⟩ ∈ z_tbl := z_tbl_in (List.mem_of_getElem? (i := 1150) (by decide +kernel)) rfl
theorem lkl_101 : z_LV "DearLettersLaw" 101 11 mX11_see 0 := ⟨⟨w_1148, w_154, w_1151, ⟨by decide, by decide, by decide +kernel⟩, by decide⟩, by decide, w_1149, w_1150⟩
theorem w_2066 : Cond.methodLink "DearLettersLaw" 104 ⟨"DearLettersModel", "see", "()I"⟩ ∈ z_tbl := z_tbl_in (List.mem_of_getElem? (i := 2066) (by decide +kernel)) rfl
theorem w_2069 : Cond.code ⟨"DearLettersModel", "see", "()I"⟩ prog_14_method_90_code 4 (Option.some FieldType.int) ∈ z_tbl := z_tbl_in (List.mem_of_getElem? (i := 2069) (by decide +kernel)) rfl
theorem w_2067 : Cond.instanceMethod ⟨"DearLettersModel", "see", "()I"⟩ ∈ z_tbl := z_tbl_in (List.mem_of_getElem? (i := 2067) (by decide +kernel)) rfl
theorem w_2068 : Cond.selects "DearLettersModel" ⟨"DearLettersModel", "see", "()I"⟩ ⟨"DearLettersModel", "see", "()I"⟩ ∈ z_tbl := z_tbl_in (List.mem_of_getElem? (i := 2068) (by decide +kernel)) rfl
theorem lkl_104 : z_LV "DearLettersLaw" 104 12 mX12_see 0 := ⟨⟨w_2066, w_171, w_2069, ⟨by decide, by decide, by decide +kernel⟩, by decide⟩, by decide, w_2067, w_2068⟩
theorem w_1160 : Cond.methodLink "DearLettersLaw" 105 ⟨"DearLetters", "whose", "()I"⟩ ∈ z_tbl := z_tbl_in (List.mem_of_getElem? (i := 1160) (by decide +kernel)) rfl
theorem lkl_105 : z_LV "DearLettersLaw" 105 11 mX11_whose 0 := ⟨⟨w_1160, w_154, w_1163, ⟨by decide, by decide, by decide +kernel⟩, by decide⟩, by decide, w_1161, w_1162⟩
theorem w_2074 : Cond.methodLink "DearLettersLaw" 108 ⟨"DearLettersModel", "whose", "()I"⟩ ∈ z_tbl := z_tbl_in (List.mem_of_getElem? (i := 2074) (by decide +kernel)) rfl
theorem lkl_108 : z_LV "DearLettersLaw" 108 12 mX12_whose 0 := ⟨⟨w_2074, w_171, w_2077, ⟨by decide, by decide, by decide +kernel⟩, by decide⟩, by decide, w_2075, w_2076⟩
theorem w_1168 : Cond.methodLink "DearLettersLaw" 109 ⟨"DearLetters", "watched", "(I)I"⟩ ∈ z_tbl := z_tbl_in (List.mem_of_getElem? (i := 1168) (by decide +kernel)) rfl
theorem w_1171 : Cond.code ⟨"DearLetters", "watched", "(I)I"⟩ prog_1_method_24_code 8 (Option.some FieldType.int) ∈ z_tbl := z_tbl_in (List.mem_of_getElem? (i := 1171) (by decide +kernel)) rfl
theorem w_1169 : Cond.instanceMethod ⟨"DearLetters", "watched", "(I)I"⟩ ∈ z_tbl := z_tbl_in (List.mem_of_getElem? (i := 1169) (by decide +kernel)) rfl
theorem w_1170 : Cond.selects "DearLetters" ⟨"DearLetters", "watched", "(I)I"⟩ ⟨"DearLetters", "watched", "(I)I"⟩ ∈ z_tbl := z_tbl_in (List.mem_of_getElem? (i := 1170) (by decide +kernel)) rfl
theorem lkl_109 : z_LV "DearLettersLaw" 109 11 mX11_watched 1 := ⟨⟨w_1168, w_154, w_1171, ⟨by decide, by decide, by decide +kernel⟩, by decide⟩, by decide, w_1169, w_1170⟩
theorem w_2082 : Cond.methodLink "DearLettersLaw" 112 ⟨"DearLettersModel", "watched", "(I)I"⟩ ∈ z_tbl := z_tbl_in (List.mem_of_getElem? (i := 2082) (by decide +kernel)) rfl
theorem w_2085 : Cond.code ⟨"DearLettersModel", "watched", "(I)I"⟩ prog_14_method_94_code 7 (Option.some FieldType.int) ∈ z_tbl := z_tbl_in (List.mem_of_getElem? (i := 2085) (by decide +kernel)) rfl
theorem w_2083 : Cond.instanceMethod ⟨"DearLettersModel", "watched", "(I)I"⟩ ∈ z_tbl := z_tbl_in (List.mem_of_getElem? (i := 2083) (by decide +kernel)) rfl
theorem w_2084 : Cond.selects "DearLettersModel" ⟨"DearLettersModel", "watched", "(I)I"⟩ ⟨"DearLettersModel", "watched", "(I)I"⟩ ∈ z_tbl := z_tbl_in (List.mem_of_getElem? (i := 2084) (by decide +kernel)) rfl
theorem lkl_112 : z_LV "DearLettersLaw" 112 12 mX12_watched 1 := ⟨⟨w_2082, w_171, w_2085, ⟨by decide, by decide, by decide +kernel⟩, by decide⟩, by decide, w_2083, w_2084⟩
theorem w_1182 : Cond.methodLink "DearLettersLaw" 113 ⟨"DearLetters", "answer", "(II)I"⟩ ∈ z_tbl := z_tbl_in (List.mem_of_getElem? (i := 1182) (by decide +kernel)) rfl
theorem w_1185 : Cond.code ⟨"DearLetters", "answer", "(II)I"⟩ prog_1_method_25_code 4 (Option.some FieldType.int) ∈ z_tbl := z_tbl_in (List.mem_of_getElem? (i := 1185) (by decide +kernel)) rfl
theorem w_1183 : Cond.instanceMethod ⟨"DearLetters", "answer", "(II)I"⟩ ∈ z_tbl := z_tbl_in (List.mem_of_getElem? (i := 1183) (by decide +kernel)) rfl
theorem w_1184 : Cond.selects "DearLetters" ⟨"DearLetters", "answer", "(II)I"⟩ ⟨"DearLetters", "answer", "(II)I"⟩ ∈ z_tbl := z_tbl_in (List.mem_of_getElem? (i := 1184) (by decide +kernel)) rfl
theorem lkl_113 : z_LV "DearLettersLaw" 113 11 mX11_answer 2 := ⟨⟨w_1182, w_154, w_1185, ⟨by decide, by decide, by decide +kernel⟩, by decide⟩, by decide, w_1183, w_1184⟩
theorem w_2095 : Cond.methodLink "DearLettersLaw" 116 ⟨"DearLettersModel", "answer", "(II)I"⟩ ∈ z_tbl := z_tbl_in (List.mem_of_getElem? (i := 2095) (by decide +kernel)) rfl
theorem w_2098 : Cond.code ⟨"DearLettersModel", "answer", "(II)I"⟩ prog_14_method_97_code 4 (Option.some FieldType.int) ∈ z_tbl := z_tbl_in (List.mem_of_getElem? (i := 2098) (by decide +kernel)) rfl
theorem w_2096 : Cond.instanceMethod ⟨"DearLettersModel", "answer", "(II)I"⟩ ∈ z_tbl := z_tbl_in (List.mem_of_getElem? (i := 2096) (by decide +kernel)) rfl
theorem w_2097 : Cond.selects "DearLettersModel" ⟨"DearLettersModel", "answer", "(II)I"⟩ ⟨"DearLettersModel", "answer", "(II)I"⟩ ∈ z_tbl := z_tbl_in (List.mem_of_getElem? (i := 2097) (by decide +kernel)) rfl
theorem lkl_116 : z_LV "DearLettersLaw" 116 12 mX12_answer 2 := ⟨⟨w_2095, w_171, w_2098, ⟨by decide, by decide, by decide +kernel⟩, by decide⟩, by decide, w_2096, w_2097⟩
theorem w_1190 : Cond.methodLink "DearLettersLaw" 117 ⟨"DearLetters", "sheet", "(II)Z"⟩ ∈ z_tbl := z_tbl_in (List.mem_of_getElem? (i := 1190) (by decide +kernel)) rfl
theorem w_1193 : Cond.code ⟨"DearLetters", "sheet", "(II)Z"⟩ prog_1_method_26_code 3 (Option.some FieldType.boolean) ∈ z_tbl := z_tbl_in (List.mem_of_getElem? (i := 1193) (by decide +kernel)) rfl
theorem w_1191 : Cond.instanceMethod ⟨"DearLetters", "sheet", "(II)Z"⟩ ∈ z_tbl := z_tbl_in (List.mem_of_getElem? (i := 1191) (by decide +kernel)) rfl
theorem w_1192 : Cond.selects "DearLetters" ⟨"DearLetters", "sheet", "(II)Z"⟩ ⟨"DearLetters", "sheet", "(II)Z"⟩ ∈ z_tbl := z_tbl_in (List.mem_of_getElem? (i := 1192) (by decide +kernel)) rfl
theorem lkl_117 : z_LV "DearLettersLaw" 117 11 mX11_sheet 2 := ⟨⟨w_1190, w_154, w_1193, ⟨by decide, by decide, by decide +kernel⟩, by decide⟩, by decide, w_1191, w_1192⟩
theorem w_2103 : Cond.methodLink "DearLettersLaw" 121 ⟨"DearLettersModel", "sheet", "(II)Z"⟩ ∈ z_tbl := z_tbl_in (List.mem_of_getElem? (i := 2103) (by decide +kernel)) rfl
theorem w_2106 : Cond.code ⟨"DearLettersModel", "sheet", "(II)Z"⟩ prog_14_method_99_code 3 (Option.some FieldType.boolean) ∈ z_tbl := z_tbl_in (List.mem_of_getElem? (i := 2106) (by decide +kernel)) rfl
theorem w_2104 : Cond.instanceMethod ⟨"DearLettersModel", "sheet", "(II)Z"⟩ ∈ z_tbl := z_tbl_in (List.mem_of_getElem? (i := 2104) (by decide +kernel)) rfl
theorem w_2105 : Cond.selects "DearLettersModel" ⟨"DearLettersModel", "sheet", "(II)Z"⟩ ⟨"DearLettersModel", "sheet", "(II)Z"⟩ ∈ z_tbl := z_tbl_in (List.mem_of_getElem? (i := 2105) (by decide +kernel)) rfl
theorem lkl_121 : z_LV "DearLettersLaw" 121 12 mX12_sheet 2 := ⟨⟨w_2103, w_171, w_2106, ⟨by decide, by decide, by decide +kernel⟩, by decide⟩, by decide, w_2104, w_2105⟩
theorem w_1199 : Cond.methodLink "DearLettersLaw" 122 ⟨"DearLetters", "give", "(II)I"⟩ ∈ z_tbl := z_tbl_in (List.mem_of_getElem? (i := 1199) (by decide +kernel)) rfl
theorem w_1202 : Cond.code ⟨"DearLetters", "give", "(II)I"⟩ prog_1_method_27_code 3 (Option.some FieldType.int) ∈ z_tbl := z_tbl_in (List.mem_of_getElem? (i := 1202) (by decide +kernel)) rfl
theorem w_1200 : Cond.instanceMethod ⟨"DearLetters", "give", "(II)I"⟩ ∈ z_tbl := z_tbl_in (List.mem_of_getElem? (i := 1200) (by decide +kernel)) rfl
theorem w_1201 : Cond.selects "DearLetters" ⟨"DearLetters", "give", "(II)I"⟩ ⟨"DearLetters", "give", "(II)I"⟩ ∈ z_tbl := z_tbl_in (List.mem_of_getElem? (i := 1201) (by decide +kernel)) rfl
theorem lkl_122 : z_LV "DearLettersLaw" 122 11 mX11_give 2 := ⟨⟨w_1199, w_154, w_1202, ⟨by decide, by decide, by decide +kernel⟩, by decide⟩, by decide, w_1200, w_1201⟩
theorem w_2112 : Cond.methodLink "DearLettersLaw" 125 ⟨"DearLettersModel", "give", "(II)I"⟩ ∈ z_tbl := z_tbl_in (List.mem_of_getElem? (i := 2112) (by decide +kernel)) rfl
theorem w_2115 : Cond.code ⟨"DearLettersModel", "give", "(II)I"⟩ prog_14_method_100_code 3 (Option.some FieldType.int) ∈ z_tbl := z_tbl_in (List.mem_of_getElem? (i := 2115) (by decide +kernel)) rfl
theorem w_2113 : Cond.instanceMethod ⟨"DearLettersModel", "give", "(II)I"⟩ ∈ z_tbl := z_tbl_in (List.mem_of_getElem? (i := 2113) (by decide +kernel)) rfl
theorem w_2114 : Cond.selects "DearLettersModel" ⟨"DearLettersModel", "give", "(II)I"⟩ ⟨"DearLettersModel", "give", "(II)I"⟩ ∈ z_tbl := z_tbl_in (List.mem_of_getElem? (i := 2114) (by decide +kernel)) rfl
theorem lkl_125 : z_LV "DearLettersLaw" 125 12 mX12_give 2 := ⟨⟨w_2112, w_171, w_2115, ⟨by decide, by decide, by decide +kernel⟩, by decide⟩, by decide, w_2113, w_2114⟩
theorem w_1203 : Cond.methodLink "DearLettersLaw" 126 ⟨"DearLetters", "evenings", "(I)I"⟩ ∈ z_tbl := z_tbl_in (List.mem_of_getElem? (i := 1203) (by decide +kernel)) rfl
theorem w_1206 : Cond.code ⟨"DearLetters", "evenings", "(I)I"⟩ prog_1_method_28_code 4 (Option.some FieldType.int) ∈ z_tbl := z_tbl_in (List.mem_of_getElem? (i := 1206) (by decide +kernel)) rfl
theorem w_1204 : Cond.instanceMethod ⟨"DearLetters", "evenings", "(I)I"⟩ ∈ z_tbl := z_tbl_in (List.mem_of_getElem? (i := 1204) (by decide +kernel)) rfl
theorem w_1205 : Cond.selects "DearLetters" ⟨"DearLetters", "evenings", "(I)I"⟩ ⟨"DearLetters", "evenings", "(I)I"⟩ ∈ z_tbl := z_tbl_in (List.mem_of_getElem? (i := 1205) (by decide +kernel)) rfl
theorem lkl_126 : z_LV "DearLettersLaw" 126 11 mX11_evenings 1 := ⟨⟨w_1203, w_154, w_1206, ⟨by decide, by decide, by decide +kernel⟩, by decide⟩, by decide, w_1204, w_1205⟩
theorem w_2116 : Cond.methodLink "DearLettersLaw" 129 ⟨"DearLettersModel", "evenings", "(I)I"⟩ ∈ z_tbl := z_tbl_in (List.mem_of_getElem? (i := 2116) (by decide +kernel)) rfl
theorem w_2119 : Cond.code ⟨"DearLettersModel", "evenings", "(I)I"⟩ prog_14_method_101_code 4 (Option.some FieldType.int) ∈ z_tbl := z_tbl_in (List.mem_of_getElem? (i := 2119) (by decide +kernel)) rfl
theorem w_2117 : Cond.instanceMethod ⟨"DearLettersModel", "evenings", "(I)I"⟩ ∈ z_tbl := z_tbl_in (List.mem_of_getElem? (i := 2117) (by decide +kernel)) rfl
theorem w_2118 : Cond.selects "DearLettersModel" ⟨"DearLettersModel", "evenings", "(I)I"⟩ ⟨"DearLettersModel", "evenings", "(I)I"⟩ ∈ z_tbl := z_tbl_in (List.mem_of_getElem? (i := 2118) (by decide +kernel)) rfl
theorem lkl_129 : z_LV "DearLettersLaw" 129 12 mX12_evenings 1 := ⟨⟨w_2116, w_171, w_2119, ⟨by decide, by decide, by decide +kernel⟩, by decide⟩, by decide, w_2117, w_2118⟩
theorem w_1211 : Cond.methodLink "DearLettersLaw" 130 ⟨"DearLetters", "chance", "(I)I"⟩ ∈ z_tbl := z_tbl_in (List.mem_of_getElem? (i := 1211) (by decide +kernel)) rfl
theorem w_1214 : Cond.code ⟨"DearLetters", "chance", "(I)I"⟩ prog_1_method_29_code 4 (Option.some FieldType.int) ∈ z_tbl := z_tbl_in (List.mem_of_getElem? (i := 1214) (by decide +kernel)) rfl
theorem w_1212 : Cond.instanceMethod ⟨"DearLetters", "chance", "(I)I"⟩ ∈ z_tbl := z_tbl_in (List.mem_of_getElem? (i := 1212) (by decide +kernel)) rfl
theorem w_1213 : Cond.selects "DearLetters" ⟨"DearLetters", "chance", "(I)I"⟩ ⟨"DearLetters", "chance", "(I)I"⟩ ∈ z_tbl := z_tbl_in (List.mem_of_getElem? (i := 1213) (by decide +kernel)) rfl
theorem lkl_130 : z_LV "DearLettersLaw" 130 11 mX11_chance 1 := ⟨⟨w_1211, w_154, w_1214, ⟨by decide, by decide, by decide +kernel⟩, by decide⟩, by decide, w_1212, w_1213⟩
theorem w_2124 : Cond.methodLink "DearLettersLaw" 133 ⟨"DearLettersModel", "chance", "(I)I"⟩ ∈ z_tbl := z_tbl_in (List.mem_of_getElem? (i := 2124) (by decide +kernel)) rfl
theorem w_2127 : Cond.code ⟨"DearLettersModel", "chance", "(I)I"⟩ prog_14_method_104_code 5 (Option.some FieldType.int) ∈ z_tbl := z_tbl_in (List.mem_of_getElem? (i := 2127) (by decide +kernel)) rfl
theorem w_2125 : Cond.instanceMethod ⟨"DearLettersModel", "chance", "(I)I"⟩ ∈ z_tbl := z_tbl_in (List.mem_of_getElem? (i := 2125) (by decide +kernel)) rfl
theorem w_2126 : Cond.selects "DearLettersModel" ⟨"DearLettersModel", "chance", "(I)I"⟩ ⟨"DearLettersModel", "chance", "(I)I"⟩ ∈ z_tbl := z_tbl_in (List.mem_of_getElem? (i := 2126) (by decide +kernel)) rfl
theorem lkl_133 : z_LV "DearLettersLaw" 133 12 mX12_chance 1 := ⟨⟨w_2124, w_171, w_2127, ⟨by decide, by decide, by decide +kernel⟩, by decide⟩, by decide, w_2125, w_2126⟩
theorem w_1226 : Cond.methodLink "DearLettersLaw" 134 ⟨"DearLetters", "undo", "()Z"⟩ ∈ z_tbl := z_tbl_in (List.mem_of_getElem? (i := 1226) (by decide +kernel)) rfl
theorem w_1229 : Cond.code ⟨"DearLetters", "undo", "()Z"⟩ prog_1_method_30_code 1 (Option.some FieldType.boolean) ∈ z_tbl := z_tbl_in (List.mem_of_getElem? (i := 1229) (by decide +kernel)) rfl
theorem w_1227 : Cond.instanceMethod ⟨"DearLetters", "undo", "()Z"⟩ ∈ z_tbl := z_tbl_in (List.mem_of_getElem? (i := 1227) (by decide +kernel)) rfl
theorem w_1228 : Cond.selects "DearLetters" ⟨"DearLetters", "undo", "()Z"⟩ ⟨"DearLetters", "undo", "()Z"⟩ ∈ z_tbl := z_tbl_in (List.mem_of_getElem? (i := 1228) (by decide +kernel)) rfl
theorem lkl_134 : z_LV "DearLettersLaw" 134 11 mX11_undo 0 := ⟨⟨w_1226, w_154, w_1229, ⟨by decide, by decide, by decide +kernel⟩, by decide⟩, by decide, w_1227, w_1228⟩
theorem w_2091 : Cond.methodLink "DearLettersLaw" 138 ⟨"DearLettersModel", "undo", "()Z"⟩ ∈ z_tbl := z_tbl_in (List.mem_of_getElem? (i := 2091) (by decide +kernel)) rfl
theorem w_2094 : Cond.code ⟨"DearLettersModel", "undo", "()Z"⟩ prog_14_method_96_code 2 (Option.some FieldType.boolean) ∈ z_tbl := z_tbl_in (List.mem_of_getElem? (i := 2094) (by decide +kernel)) rfl
theorem w_2092 : Cond.instanceMethod ⟨"DearLettersModel", "undo", "()Z"⟩ ∈ z_tbl := z_tbl_in (List.mem_of_getElem? (i := 2092) (by decide +kernel)) rfl
theorem w_2093 : Cond.selects "DearLettersModel" ⟨"DearLettersModel", "undo", "()Z"⟩ ⟨"DearLettersModel", "undo", "()Z"⟩ ∈ z_tbl := z_tbl_in (List.mem_of_getElem? (i := 2093) (by decide +kernel)) rfl
theorem lkl_138 : z_LV "DearLettersLaw" 138 12 mX12_undo 0 := ⟨⟨w_2091, w_171, w_2094, ⟨by decide, by decide, by decide +kernel⟩, by decide⟩, by decide, w_2092, w_2093⟩
theorem w_1230 : Cond.methodLink "DearLettersLaw" 139 ⟨"DearLetters", "seed", "(I)Z"⟩ ∈ z_tbl := z_tbl_in (List.mem_of_getElem? (i := 1230) (by decide +kernel)) rfl
theorem w_1233 : Cond.code ⟨"DearLetters", "seed", "(I)Z"⟩ prog_1_method_31_code 2 (Option.some FieldType.boolean) ∈ z_tbl := z_tbl_in (List.mem_of_getElem? (i := 1233) (by decide +kernel)) rfl
theorem w_1231 : Cond.instanceMethod ⟨"DearLetters", "seed", "(I)Z"⟩ ∈ z_tbl := z_tbl_in (List.mem_of_getElem? (i := 1231) (by decide +kernel)) rfl
theorem w_1232 : Cond.selects "DearLetters" ⟨"DearLetters", "seed", "(I)Z"⟩ ⟨"DearLetters", "seed", "(I)Z"⟩ ∈ z_tbl := z_tbl_in (List.mem_of_getElem? (i := 1232) (by decide +kernel)) rfl
theorem lkl_139 : z_LV "DearLettersLaw" 139 11 mX11_seed 1 := ⟨⟨w_1230, w_154, w_1233, ⟨by decide, by decide, by decide +kernel⟩, by decide⟩, by decide, w_1231, w_1232⟩
theorem w_2120 : Cond.methodLink "DearLettersLaw" 142 ⟨"DearLettersModel", "seed", "(I)Z"⟩ ∈ z_tbl := z_tbl_in (List.mem_of_getElem? (i := 2120) (by decide +kernel)) rfl
theorem w_2123 : Cond.code ⟨"DearLettersModel", "seed", "(I)Z"⟩ prog_14_method_102_code 2 (Option.some FieldType.boolean) ∈ z_tbl := z_tbl_in (List.mem_of_getElem? (i := 2123) (by decide +kernel)) rfl
theorem w_2121 : Cond.instanceMethod ⟨"DearLettersModel", "seed", "(I)Z"⟩ ∈ z_tbl := z_tbl_in (List.mem_of_getElem? (i := 2121) (by decide +kernel)) rfl
theorem w_2122 : Cond.selects "DearLettersModel" ⟨"DearLettersModel", "seed", "(I)Z"⟩ ⟨"DearLettersModel", "seed", "(I)Z"⟩ ∈ z_tbl := z_tbl_in (List.mem_of_getElem? (i := 2122) (by decide +kernel)) rfl
theorem lkl_142 : z_LV "DearLettersLaw" 142 12 mX12_seed 1 := ⟨⟨w_2120, w_171, w_2123, ⟨by decide, by decide, by decide +kernel⟩, by decide⟩, by decide, w_2121, w_2122⟩
theorem w_1234 : Cond.methodLink "DearLettersLaw" 143 ⟨"DearLetters", "ask", "()J"⟩ ∈ z_tbl := z_tbl_in (List.mem_of_getElem? (i := 1234) (by decide +kernel)) rfl
theorem w_1237 : Cond.code ⟨"DearLetters", "ask", "()J"⟩ prog_1_method_32_code 2 (Option.some FieldType.long) ∈ z_tbl := z_tbl_in (List.mem_of_getElem? (i := 1237) (by decide +kernel)) rfl
theorem w_1235 : Cond.instanceMethod ⟨"DearLetters", "ask", "()J"⟩ ∈ z_tbl := z_tbl_in (List.mem_of_getElem? (i := 1235) (by decide +kernel)) rfl
theorem w_1236 : Cond.selects "DearLetters" ⟨"DearLetters", "ask", "()J"⟩ ⟨"DearLetters", "ask", "()J"⟩ ∈ z_tbl := z_tbl_in (List.mem_of_getElem? (i := 1236) (by decide +kernel)) rfl
theorem lkl_143 : z_LV "DearLettersLaw" 143 11 mX11_ask 0 := ⟨⟨w_1234, w_154, w_1237, ⟨by decide, by decide, by decide +kernel⟩, by decide⟩, by decide, w_1235, w_1236⟩
theorem w_2136 : Cond.methodLink "DearLettersLaw" 146 ⟨"DearLettersModel", "ask", "()J"⟩ ∈ z_tbl := z_tbl_in (List.mem_of_getElem? (i := 2136) (by decide +kernel)) rfl
theorem w_2139 : Cond.code ⟨"DearLettersModel", "ask", "()J"⟩ prog_14_method_133_code 3 (Option.some FieldType.long) ∈ z_tbl := z_tbl_in (List.mem_of_getElem? (i := 2139) (by decide +kernel)) rfl
theorem w_2137 : Cond.instanceMethod ⟨"DearLettersModel", "ask", "()J"⟩ ∈ z_tbl := z_tbl_in (List.mem_of_getElem? (i := 2137) (by decide +kernel)) rfl
theorem w_2138 : Cond.selects "DearLettersModel" ⟨"DearLettersModel", "ask", "()J"⟩ ⟨"DearLettersModel", "ask", "()J"⟩ ∈ z_tbl := z_tbl_in (List.mem_of_getElem? (i := 2138) (by decide +kernel)) rfl
theorem lkl_146 : z_LV "DearLettersLaw" 146 12 mX12_ask 0 := ⟨⟨w_2136, w_171, w_2139, ⟨by decide, by decide, by decide +kernel⟩, by decide⟩, by decide, w_2137, w_2138⟩
theorem w_1282 : Cond.methodLink "DearLettersLaw" 147 ⟨"DearLetters", "image", "()I"⟩ ∈ z_tbl := z_tbl_in (List.mem_of_getElem? (i := 1282) (by decide +kernel)) rfl
theorem w_1285 : Cond.code ⟨"DearLetters", "image", "()I"⟩ prog_1_method_33_code 3 (Option.some FieldType.int) ∈ z_tbl := z_tbl_in (List.mem_of_getElem? (i := 1285) (by decide +kernel)) rfl
theorem w_1283 : Cond.instanceMethod ⟨"DearLetters", "image", "()I"⟩ ∈ z_tbl := z_tbl_in (List.mem_of_getElem? (i := 1283) (by decide +kernel)) rfl
theorem w_1284 : Cond.selects "DearLetters" ⟨"DearLetters", "image", "()I"⟩ ⟨"DearLetters", "image", "()I"⟩ ∈ z_tbl := z_tbl_in (List.mem_of_getElem? (i := 1284) (by decide +kernel)) rfl
theorem lkl_147 : z_LV "DearLettersLaw" 147 11 mX11_image 0 := ⟨⟨w_1282, w_154, w_1285, ⟨by decide, by decide, by decide +kernel⟩, by decide⟩, by decide, w_1283, w_1284⟩
theorem w_2177 : Cond.methodLink "DearLettersLaw" 150 ⟨"DearLettersModel", "image", "()I"⟩ ∈ z_tbl := z_tbl_in (List.mem_of_getElem? (i := 2177) (by decide +kernel)) rfl
theorem w_2180 : Cond.code ⟨"DearLettersModel", "image", "()I"⟩ prog_14_method_136_code 2 (Option.some FieldType.int) ∈ z_tbl := z_tbl_in (List.mem_of_getElem? (i := 2180) (by decide +kernel)) rfl
theorem w_2178 : Cond.instanceMethod ⟨"DearLettersModel", "image", "()I"⟩ ∈ z_tbl := z_tbl_in (List.mem_of_getElem? (i := 2178) (by decide +kernel)) rfl
theorem w_2179 : Cond.selects "DearLettersModel" ⟨"DearLettersModel", "image", "()I"⟩ ⟨"DearLettersModel", "image", "()I"⟩ ∈ z_tbl := z_tbl_in (List.mem_of_getElem? (i := 2179) (by decide +kernel)) rfl
theorem lkl_150 : z_LV "DearLettersLaw" 150 12 mX12_image 0 := ⟨⟨w_2177, w_171, w_2180, ⟨by decide, by decide, by decide +kernel⟩, by decide⟩, by decide, w_2178, w_2179⟩
theorem w_1289 : Cond.methodLink "DearLettersLaw" 151 ⟨"DearLetters", "octet", "(I)I"⟩ ∈ z_tbl := z_tbl_in (List.mem_of_getElem? (i := 1289) (by decide +kernel)) rfl
theorem w_1292 : Cond.code ⟨"DearLetters", "octet", "(I)I"⟩ prog_1_method_34_code 2 (Option.some FieldType.int) ∈ z_tbl := z_tbl_in (List.mem_of_getElem? (i := 1292) (by decide +kernel)) rfl
theorem w_1290 : Cond.instanceMethod ⟨"DearLetters", "octet", "(I)I"⟩ ∈ z_tbl := z_tbl_in (List.mem_of_getElem? (i := 1290) (by decide +kernel)) rfl
theorem w_1291 : Cond.selects "DearLetters" ⟨"DearLetters", "octet", "(I)I"⟩ ⟨"DearLetters", "octet", "(I)I"⟩ ∈ z_tbl := z_tbl_in (List.mem_of_getElem? (i := 1291) (by decide +kernel)) rfl
theorem lkl_151 : z_LV "DearLettersLaw" 151 11 mX11_octet 1 := ⟨⟨w_1289, w_154, w_1292, ⟨by decide, by decide, by decide +kernel⟩, by decide⟩, by decide, w_1290, w_1291⟩
theorem w_2188 : Cond.methodLink "DearLettersLaw" 154 ⟨"DearLettersModel", "octet", "(I)I"⟩ ∈ z_tbl := z_tbl_in (List.mem_of_getElem? (i := 2188) (by decide +kernel)) rfl
theorem w_2191 : Cond.code ⟨"DearLettersModel", "octet", "(I)I"⟩ prog_14_method_137_code 2 (Option.some FieldType.int) ∈ z_tbl := z_tbl_in (List.mem_of_getElem? (i := 2191) (by decide +kernel)) rfl
theorem w_2189 : Cond.instanceMethod ⟨"DearLettersModel", "octet", "(I)I"⟩ ∈ z_tbl := z_tbl_in (List.mem_of_getElem? (i := 2189) (by decide +kernel)) rfl
theorem w_2190 : Cond.selects "DearLettersModel" ⟨"DearLettersModel", "octet", "(I)I"⟩ ⟨"DearLettersModel", "octet", "(I)I"⟩ ∈ z_tbl := z_tbl_in (List.mem_of_getElem? (i := 2190) (by decide +kernel)) rfl
theorem lkl_154 : z_LV "DearLettersLaw" 154 12 mX12_octet 1 := ⟨⟨w_2188, w_171, w_2191, ⟨by decide, by decide, by decide +kernel⟩, by decide⟩, by decide, w_2189, w_2190⟩
theorem w_1293 : Cond.methodLink "DearLettersLaw" 155 ⟨"DearLetters", "on", "()Z"⟩ ∈ z_tbl := z_tbl_in (List.mem_of_getElem? (i := 1293) (by decide +kernel)) rfl
theorem w_1296 : Cond.code ⟨"DearLetters", "on", "()Z"⟩ prog_1_method_35_code 3 (Option.some FieldType.boolean) ∈ z_tbl := z_tbl_in (List.mem_of_getElem? (i := 1296) (by decide +kernel)) rfl
theorem w_1294 : Cond.instanceMethod ⟨"DearLetters", "on", "()Z"⟩ ∈ z_tbl := z_tbl_in (List.mem_of_getElem? (i := 1294) (by decide +kernel)) rfl
theorem w_1295 : Cond.selects "DearLetters" ⟨"DearLetters", "on", "()Z"⟩ ⟨"DearLetters", "on", "()Z"⟩ ∈ z_tbl := z_tbl_in (List.mem_of_getElem? (i := 1295) (by decide +kernel)) rfl
theorem lkl_155 : z_LV "DearLettersLaw" 155 11 mX11_on 0 := ⟨⟨w_1293, w_154, w_1296, ⟨by decide, by decide, by decide +kernel⟩, by decide⟩, by decide, w_1294, w_1295⟩
theorem w_2192 : Cond.methodLink "DearLettersLaw" 158 ⟨"DearLettersModel", "on", "()Z"⟩ ∈ z_tbl := z_tbl_in (List.mem_of_getElem? (i := 2192) (by decide +kernel)) rfl
theorem w_2195 : Cond.code ⟨"DearLettersModel", "on", "()Z"⟩ prog_14_method_140_code 4 (Option.some FieldType.boolean) ∈ z_tbl := z_tbl_in (List.mem_of_getElem? (i := 2195) (by decide +kernel)) rfl
theorem w_2193 : Cond.instanceMethod ⟨"DearLettersModel", "on", "()Z"⟩ ∈ z_tbl := z_tbl_in (List.mem_of_getElem? (i := 2193) (by decide +kernel)) rfl
theorem w_2194 : Cond.selects "DearLettersModel" ⟨"DearLettersModel", "on", "()Z"⟩ ⟨"DearLettersModel", "on", "()Z"⟩ ∈ z_tbl := z_tbl_in (List.mem_of_getElem? (i := 2194) (by decide +kernel)) rfl
theorem lkl_158 : z_LV "DearLettersLaw" 158 12 mX12_on 0 := ⟨⟨w_2192, w_171, w_2195, ⟨by decide, by decide, by decide +kernel⟩, by decide⟩, by decide, w_2193, w_2194⟩
theorem w_1310 : Cond.methodLink "DearLettersLaw" 159 ⟨"DearLetters", "status", "(I)I"⟩ ∈ z_tbl := z_tbl_in (List.mem_of_getElem? (i := 1310) (by decide +kernel)) rfl
theorem w_1313 : Cond.code ⟨"DearLetters", "status", "(I)I"⟩ prog_1_method_36_code 2 (Option.some FieldType.int) ∈ z_tbl := z_tbl_in (List.mem_of_getElem? (i := 1313) (by decide +kernel)) rfl
theorem w_1311 : Cond.instanceMethod ⟨"DearLetters", "status", "(I)I"⟩ ∈ z_tbl := z_tbl_in (List.mem_of_getElem? (i := 1311) (by decide +kernel)) rfl
theorem w_1312 : Cond.selects "DearLetters" ⟨"DearLetters", "status", "(I)I"⟩ ⟨"DearLetters", "status", "(I)I"⟩ ∈ z_tbl := z_tbl_in (List.mem_of_getElem? (i := 1312) (by decide +kernel)) rfl
theorem lkl_159 : z_LV "DearLettersLaw" 159 11 mX11_status 1 := ⟨⟨w_1310, w_154, w_1313, ⟨by decide, by decide, by decide +kernel⟩, by decide⟩, by decide, w_1311, w_1312⟩
theorem w_2204 : Cond.methodLink "DearLettersLaw" 162 ⟨"DearLettersModel", "status", "(I)I"⟩ ∈ z_tbl := z_tbl_in (List.mem_of_getElem? (i := 2204) (by decide +kernel)) rfl
theorem w_2207 : Cond.code ⟨"DearLettersModel", "status", "(I)I"⟩ prog_14_method_141_code 2 (Option.some FieldType.int) ∈ z_tbl := z_tbl_in (List.mem_of_getElem? (i := 2207) (by decide +kernel)) rfl
theorem w_2205 : Cond.instanceMethod ⟨"DearLettersModel", "status", "(I)I"⟩ ∈ z_tbl := z_tbl_in (List.mem_of_getElem? (i := 2205) (by decide +kernel)) rfl
theorem w_2206 : Cond.selects "DearLettersModel" ⟨"DearLettersModel", "status", "(I)I"⟩ ⟨"DearLettersModel", "status", "(I)I"⟩ ∈ z_tbl := z_tbl_in (List.mem_of_getElem? (i := 2206) (by decide +kernel)) rfl
theorem lkl_162 : z_LV "DearLettersLaw" 162 12 mX12_status 1 := ⟨⟨w_2204, w_171, w_2207, ⟨by decide, by decide, by decide +kernel⟩, by decide⟩, by decide, w_2205, w_2206⟩
theorem w_174 : Cond.classLink "DearLettersLaw" 7 "DearLetters" ∈ z_tbl := z_tbl_in (List.mem_of_getElem? (i := 174) (by decide +kernel)) rfl
theorem w_175 : Cond.instantiable "DearLetters" 20 ∈ z_tbl := z_tbl_in (List.mem_of_getElem? (i := 175) (by decide +kernel)) rfl
theorem lnl_7 : z_LN "DearLettersLaw" 7 11 := ⟨by decide, w_174, w_175, w_154⟩
theorem w_1314 : Cond.classLink "DearLettersLaw" 10 "DearLettersModel" ∈ z_tbl := z_tbl_in (List.mem_of_getElem? (i := 1314) (by decide +kernel)) rfl
theorem w_1315 : Cond.instantiable "DearLettersModel" 106 ∈ z_tbl := z_tbl_in (List.mem_of_getElem? (i := 1315) (by decide +kernel)) rfl
theorem lnl_10 : z_LN "DearLettersLaw" 10 12 := ⟨by decide, w_1314, w_1315, w_171⟩
theorem w_176 : Cond.methodLink "DearLettersLaw" 9 ⟨"DearLetters", "<init>", "()V"⟩ ∈ z_tbl := z_tbl_in (List.mem_of_getElem? (i := 176) (by decide +kernel)) rfl
theorem w_178 : Cond.code ⟨"DearLetters", "<init>", "()V"⟩ prog_1_method_1_code 3 none ∈ z_tbl := z_tbl_in (List.mem_of_getElem? (i := 178) (by decide +kernel)) rfl
theorem w_177 : Cond.instanceMethod ⟨"DearLetters", "<init>", "()V"⟩ ∈ z_tbl := z_tbl_in (List.mem_of_getElem? (i := 177) (by decide +kernel)) rfl
theorem lil_9 : z_LI "DearLettersLaw" 9 mX11_init 0 := ⟨⟨w_176, w_154, w_178, ⟨by decide, by decide, by decide +kernel⟩, by decide⟩, rfl, rfl, w_177⟩
theorem w_1316 : Cond.methodLink "DearLettersLaw" 12 ⟨"DearLettersModel", "<init>", "()V"⟩ ∈ z_tbl := z_tbl_in (List.mem_of_getElem? (i := 1316) (by decide +kernel)) rfl
set_option maxRecDepth 100000 in
theorem w_1318 : Cond.code ⟨"DearLettersModel", "<init>", "()V"⟩ prog_14_method_1_code 1 none ∈ z_tbl := z_tbl_in (List.mem_append_right _ (List.mem_append_right _ (List.mem_append_right _ (List.mem_append_right _ (List.mem_append_right _ (List.mem_append_left _ (List.mem_of_getElem? (i := 205) rfl))))))) rfl
theorem w_1317 : Cond.instanceMethod ⟨"DearLettersModel", "<init>", "()V"⟩ ∈ z_tbl := z_tbl_in (List.mem_of_getElem? (i := 1317) (by decide +kernel)) rfl
theorem lil_12 : z_LI "DearLettersLaw" 12 mX12_init 0 := ⟨⟨w_1316, w_171, w_1318, ⟨by decide, by decide, by decide +kernel⟩, by decide⟩, rfl, rfl, w_1317⟩
