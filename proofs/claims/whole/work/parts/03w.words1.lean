theorem w_877 : Cond.selects "DearLetters$State" ⟨"DearLetters$State", "rest", "(LDearLetters$Heap;)V"⟩ ⟨"DearLetters$State", "rest", "(LDearLetters$Heap;)V"⟩ ∈ z_tbl := z_tbl_in (List.mem_of_getElem? (i := 877) (by decide +kernel)) rfl
theorem w_878 : Cond.code ⟨"DearLetters$State", "rest", "(LDearLetters$Heap;)V"⟩ prog_10_method_3_code 2 none ∈ z_tbl := z_tbl_in (List.mem_of_getElem? (i := 878) (by decide +kernel)) rfl
theorem w_887 : Cond.methodLink "DearLetters" 152 ⟨"DearLetters$State", "countDone", "()I"⟩ ∈ z_tbl := z_tbl_in (List.mem_of_getElem? (i := 887) (by decide +kernel)) rfl
theorem w_888 : Cond.instanceMethod ⟨"DearLetters$State", "countDone", "()I"⟩ ∈ z_tbl := z_tbl_in (List.mem_of_getElem? (i := 888) (by decide +kernel)) rfl
theorem w_889 : Cond.selects "DearLetters$State" ⟨"DearLetters$State", "countDone", "()I"⟩ ⟨"DearLetters$State", "countDone", "()I"⟩ ∈ z_tbl := z_tbl_in (List.mem_of_getElem? (i := 889) (by decide +kernel)) rfl
theorem w_890 : Cond.code ⟨"DearLetters$State", "countDone", "()I"⟩ prog_10_method_5_code 1 (Option.some FieldType.int) ∈ z_tbl := z_tbl_in (List.mem_of_getElem? (i := 890) (by decide +kernel)) rfl
theorem w_891 : Cond.methodLink "DearLetters$State" 56 ⟨"DearLetters$State", "countOf", "([II)I"⟩ ∈ z_tbl := z_tbl_in (List.mem_of_getElem? (i := 891) (by decide +kernel)) rfl
theorem w_892 : Cond.static ⟨"DearLetters$State", "countOf", "([II)I"⟩ ∈ z_tbl := z_tbl_in (List.mem_of_getElem? (i := 892) (by decide +kernel)) rfl
theorem w_893 : Cond.code ⟨"DearLetters$State", "countOf", "([II)I"⟩ prog_10_method_13_code 7 (Option.some FieldType.int) ∈ z_tbl := z_tbl_in (List.mem_of_getElem? (i := 893) (by decide +kernel)) rfl
theorem w_914 : Cond.methodLink "DearLetters" 169 ⟨"DearLetters", "isLetter", "(I)Z"⟩ ∈ z_tbl := z_tbl_in (List.mem_of_getElem? (i := 914) (by decide +kernel)) rfl
theorem w_916 : Cond.instanceMethod ⟨"DearLetters", "isLetter", "(I)Z"⟩ ∈ z_tbl := z_tbl_in (List.mem_of_getElem? (i := 916) (by decide +kernel)) rfl
theorem w_917 : Cond.code ⟨"DearLetters", "isLetter", "(I)Z"⟩ prog_1_method_39_code 2 (Option.some FieldType.boolean) ∈ z_tbl := z_tbl_in (List.mem_of_getElem? (i := 917) (by decide +kernel)) rfl
theorem w_919 : Cond.instanceMethod ⟨"DearLetters$Heap", "allWishes", "(I)I"⟩ ∈ z_tbl := z_tbl_in (List.mem_of_getElem? (i := 919) (by decide +kernel)) rfl
theorem w_920 : Cond.selects "DearLetters$Heap" ⟨"DearLetters$Heap", "allWishes", "(I)I"⟩ ⟨"DearLetters$Heap", "allWishes", "(I)I"⟩ ∈ z_tbl := z_tbl_in (List.mem_of_getElem? (i := 920) (by decide +kernel)) rfl
theorem w_921 : Cond.code ⟨"DearLetters$Heap", "allWishes", "(I)I"⟩ prog_4_method_6_code 4 (Option.some FieldType.int) ∈ z_tbl := z_tbl_in (List.mem_of_getElem? (i := 921) (by decide +kernel)) rfl
theorem w_926 : Cond.methodLink "DearLetters" 196 ⟨"DearLetters", "isGift", "(I)Z"⟩ ∈ z_tbl := z_tbl_in (List.mem_of_getElem? (i := 926) (by decide +kernel)) rfl
theorem w_928 : Cond.instanceMethod ⟨"DearLetters", "isGift", "(I)Z"⟩ ∈ z_tbl := z_tbl_in (List.mem_of_getElem? (i := 928) (by decide +kernel)) rfl
theorem w_929 : Cond.code ⟨"DearLetters", "isGift", "(I)Z"⟩ prog_1_method_40_code 2 (Option.some FieldType.boolean) ∈ z_tbl := z_tbl_in (List.mem_of_getElem? (i := 929) (by decide +kernel)) rfl
theorem w_934 : Cond.methodLink "DearLetters" 205 ⟨"DearLetters", "isHelper", "(I)Z"⟩ ∈ z_tbl := z_tbl_in (List.mem_of_getElem? (i := 934) (by decide +kernel)) rfl
theorem w_936 : Cond.instanceMethod ⟨"DearLetters", "isHelper", "(I)Z"⟩ ∈ z_tbl := z_tbl_in (List.mem_of_getElem? (i := 936) (by decide +kernel)) rfl
theorem w_937 : Cond.code ⟨"DearLetters", "isHelper", "(I)Z"⟩ prog_1_method_41_code 2 (Option.some FieldType.boolean) ∈ z_tbl := z_tbl_in (List.mem_of_getElem? (i := 937) (by decide +kernel)) rfl
theorem w_947 : Cond.instanceMethod ⟨"DearLetters$Machine", "timeOf", "(LDearLetters$Heap;LDearLetters$State;II)I"⟩ ∈ z_tbl := z_tbl_in (List.mem_of_getElem? (i := 947) (by decide +kernel)) rfl
theorem w_948 : Cond.selects "DearLetters$Machine" ⟨"DearLetters$Machine", "timeOf", "(LDearLetters$Heap;LDearLetters$State;II)I"⟩ ⟨"DearLetters$Machine", "timeOf", "(LDearLetters$Heap;LDearLetters$State;II)I"⟩ ∈ z_tbl := z_tbl_in (List.mem_of_getElem? (i := 948) (by decide +kernel)) rfl
theorem w_949 : Cond.code ⟨"DearLetters$Machine", "timeOf", "(LDearLetters$Heap;LDearLetters$State;II)I"⟩ prog_6_method_2_code 6 (Option.some FieldType.int) ∈ z_tbl := z_tbl_in (List.mem_of_getElem? (i := 949) (by decide +kernel)) rfl
theorem w_950 : Cond.methodLink "DearLetters$Machine" 21 ⟨"DearLetters$Machine", "lookAt", "(LDearLetters$Heap;LDearLetters$State;I)V"⟩ ∈ z_tbl := z_tbl_in (List.mem_of_getElem? (i := 950) (by decide +kernel)) rfl
theorem w_952 : Cond.instanceMethod ⟨"DearLetters$Machine", "lookAt", "(LDearLetters$Heap;LDearLetters$State;I)V"⟩ ∈ z_tbl := z_tbl_in (List.mem_of_getElem? (i := 952) (by decide +kernel)) rfl
theorem w_953 : Cond.code ⟨"DearLetters$Machine", "lookAt", "(LDearLetters$Heap;LDearLetters$State;I)V"⟩ prog_6_method_6_code 4 none ∈ z_tbl := z_tbl_in (List.mem_of_getElem? (i := 953) (by decide +kernel)) rfl
theorem w_954 : Cond.methodLink "DearLetters$Machine" 81 ⟨"java/lang/System", "arraycopy", "(Ljava/lang/Object;ILjava/lang/Object;II)V"⟩ ∈ z_tbl := z_tbl_in (List.mem_of_getElem? (i := 954) (by decide +kernel)) rfl
theorem w_955 : Cond.methodLink "DearLetters$Machine" 93 ⟨"DearLetters$Heap", "allWishes", "(I)I"⟩ ∈ z_tbl := z_tbl_in (List.mem_of_getElem? (i := 955) (by decide +kernel)) rfl
theorem w_956 : Cond.methodLink "DearLetters$Machine" 40 ⟨"DearLetters$Machine", "run", "(LDearLetters$Code;II)I"⟩ ∈ z_tbl := z_tbl_in (List.mem_of_getElem? (i := 956) (by decide +kernel)) rfl
theorem w_958 : Cond.instanceMethod ⟨"DearLetters$Machine", "run", "(LDearLetters$Code;II)I"⟩ ∈ z_tbl := z_tbl_in (List.mem_of_getElem? (i := 958) (by decide +kernel)) rfl
theorem w_959 : Cond.code ⟨"DearLetters$Machine", "run", "(LDearLetters$Code;II)I"⟩ prog_6_method_7_code 7 (Option.some FieldType.int) ∈ z_tbl := z_tbl_in (List.mem_of_getElem? (i := 959) (by decide +kernel)) rfl
theorem w_960 : Cond.methodLink "DearLetters$Machine" 112 ⟨"DearLetters$Machine", "push", "(I)V"⟩ ∈ z_tbl := z_tbl_in (List.mem_of_getElem? (i := 960) (by decide +kernel)) rfl
theorem w_962 : Cond.instanceMethod ⟨"DearLetters$Machine", "push", "(I)V"⟩ ∈ z_tbl := z_tbl_in (List.mem_of_getElem? (i := 962) (by decide +kernel)) rfl
theorem w_963 : Cond.code ⟨"DearLetters$Machine", "push", "(I)V"⟩ prog_6_method_8_code 2 none ∈ z_tbl := z_tbl_in (List.mem_of_getElem? (i := 963) (by decide +kernel)) rfl
theorem w_964 : Cond.methodLink "DearLetters$Machine" 116 ⟨"DearLetters$Machine", "pop", "()I"⟩ ∈ z_tbl := z_tbl_in (List.mem_of_getElem? (i := 964) (by decide +kernel)) rfl
theorem w_966 : Cond.instanceMethod ⟨"DearLetters$Machine", "pop", "()I"⟩ ∈ z_tbl := z_tbl_in (List.mem_of_getElem? (i := 966) (by decide +kernel)) rfl
theorem w_967 : Cond.code ⟨"DearLetters$Machine", "pop", "()I"⟩ prog_6_method_9_code 1 (Option.some FieldType.int) ∈ z_tbl := z_tbl_in (List.mem_of_getElem? (i := 967) (by decide +kernel)) rfl
theorem w_968 : Cond.methodLink "DearLetters$Machine" 120 ⟨"DearLetters$Machine", "pair", "(III)I"⟩ ∈ z_tbl := z_tbl_in (List.mem_of_getElem? (i := 968) (by decide +kernel)) rfl
theorem w_969 : Cond.static ⟨"DearLetters$Machine", "pair", "(III)I"⟩ ∈ z_tbl := z_tbl_in (List.mem_of_getElem? (i := 969) (by decide +kernel)) rfl
theorem w_970 : Cond.code ⟨"DearLetters$Machine", "pair", "(III)I"⟩ prog_6_method_11_code 3 (Option.some FieldType.int) ∈ z_tbl := z_tbl_in (List.mem_of_getElem? (i := 970) (by decide +kernel)) rfl
theorem w_971 : Cond.methodLink "DearLetters$Machine" 127 ⟨"DearLetters$Machine", "kept", "(J)I"⟩ ∈ z_tbl := z_tbl_in (List.mem_of_getElem? (i := 971) (by decide +kernel)) rfl
theorem w_972 : Cond.static ⟨"DearLetters$Machine", "kept", "(J)I"⟩ ∈ z_tbl := z_tbl_in (List.mem_of_getElem? (i := 972) (by decide +kernel)) rfl
theorem w_973 : Cond.code ⟨"DearLetters$Machine", "kept", "(J)I"⟩ prog_6_method_12_code 2 (Option.some FieldType.int) ∈ z_tbl := z_tbl_in (List.mem_of_getElem? (i := 973) (by decide +kernel)) rfl
theorem w_974 : Cond.constantLong "DearLetters$Machine" 134 (1000000) ∈ z_tbl := z_tbl_in (List.mem_of_getElem? (i := 974) (by decide +kernel)) rfl
theorem w_975 : Cond.constant "DearLetters$Machine" 136 (1000000) ∈ z_tbl := z_tbl_in (List.mem_of_getElem? (i := 975) (by decide +kernel)) rfl
theorem w_976 : Cond.constantLong "DearLetters$Machine" 137 (-1000000) ∈ z_tbl := z_tbl_in (List.mem_of_getElem? (i := 976) (by decide +kernel)) rfl
theorem w_977 : Cond.constant "DearLetters$Machine" 139 (-1000000) ∈ z_tbl := z_tbl_in (List.mem_of_getElem? (i := 977) (by decide +kernel)) rfl
theorem w_978 : Cond.methodLink "DearLetters$Machine" 131 ⟨"java/lang/Math", "floorDiv", "(II)I"⟩ ∈ z_tbl := z_tbl_in (List.mem_of_getElem? (i := 978) (by decide +kernel)) rfl
theorem w_979 : Cond.static ⟨"java/lang/Math", "floorDiv", "(II)I"⟩ ∈ z_tbl := z_tbl_in (List.mem_of_getElem? (i := 979) (by decide +kernel)) rfl
theorem w_980 : Cond.code ⟨"java/lang/Math", "floorDiv", "(II)I"⟩ prog_15_method_47_code 3 (Option.some FieldType.int) ∈ z_tbl := z_tbl_in (List.mem_of_getElem? (i := 980) (by decide +kernel)) rfl
theorem w_981 : Cond.methodLink "DearLetters$Machine" 124 ⟨"DearLetters$Machine", "wishOf", "(I)I"⟩ ∈ z_tbl := z_tbl_in (List.mem_of_getElem? (i := 981) (by decide +kernel)) rfl
theorem w_983 : Cond.instanceMethod ⟨"DearLetters$Machine", "wishOf", "(I)I"⟩ ∈ z_tbl := z_tbl_in (List.mem_of_getElem? (i := 983) (by decide +kernel)) rfl
theorem w_984 : Cond.code ⟨"DearLetters$Machine", "wishOf", "(I)I"⟩ prog_6_method_10_code 2 (Option.some FieldType.int) ∈ z_tbl := z_tbl_in (List.mem_of_getElem? (i := 984) (by decide +kernel)) rfl
theorem w_985 : Cond.methodLink "DearLetters$Machine" 44 ⟨"java/lang/Math", "min", "(II)I"⟩ ∈ z_tbl := z_tbl_in (List.mem_of_getElem? (i := 985) (by decide +kernel)) rfl
theorem w_986 : Cond.static ⟨"java/lang/Math", "min", "(II)I"⟩ ∈ z_tbl := z_tbl_in (List.mem_of_getElem? (i := 986) (by decide +kernel)) rfl
theorem w_987 : Cond.code ⟨"java/lang/Math", "min", "(II)I"⟩ prog_15_method_69_code 2 (Option.some FieldType.int) ∈ z_tbl := z_tbl_in (List.mem_of_getElem? (i := 987) (by decide +kernel)) rfl
theorem w_988 : Cond.methodLink "DearLetters$Machine" 50 ⟨"java/lang/Math", "max", "(II)I"⟩ ∈ z_tbl := z_tbl_in (List.mem_of_getElem? (i := 988) (by decide +kernel)) rfl
theorem w_989 : Cond.static ⟨"java/lang/Math", "max", "(II)I"⟩ ∈ z_tbl := z_tbl_in (List.mem_of_getElem? (i := 989) (by decide +kernel)) rfl
theorem w_990 : Cond.code ⟨"java/lang/Math", "max", "(II)I"⟩ prog_15_method_65_code 2 (Option.some FieldType.int) ∈ z_tbl := z_tbl_in (List.mem_of_getElem? (i := 990) (by decide +kernel)) rfl
theorem w_995 : Cond.constantLong "DearLetters" 227 (-1000000000000000) ∈ z_tbl := z_tbl_in (List.mem_of_getElem? (i := 995) (by decide +kernel)) rfl
theorem w_997 : Cond.instanceMethod ⟨"DearLetters$Machine", "warmthOf", "(LDearLetters$Heap;LDearLetters$State;II)I"⟩ ∈ z_tbl := z_tbl_in (List.mem_of_getElem? (i := 997) (by decide +kernel)) rfl
theorem w_998 : Cond.selects "DearLetters$Machine" ⟨"DearLetters$Machine", "warmthOf", "(LDearLetters$Heap;LDearLetters$State;II)I"⟩ ⟨"DearLetters$Machine", "warmthOf", "(LDearLetters$Heap;LDearLetters$State;II)I"⟩ ∈ z_tbl := z_tbl_in (List.mem_of_getElem? (i := 998) (by decide +kernel)) rfl
theorem w_999 : Cond.code ⟨"DearLetters$Machine", "warmthOf", "(LDearLetters$Heap;LDearLetters$State;II)I"⟩ prog_6_method_3_code 5 (Option.some FieldType.int) ∈ z_tbl := z_tbl_in (List.mem_of_getElem? (i := 999) (by decide +kernel)) rfl
theorem w_1005 : Cond.instanceMethod ⟨"DearLetters$Machine", "timeIfAble", "(LDearLetters$Heap;LDearLetters$State;II)I"⟩ ∈ z_tbl := z_tbl_in (List.mem_of_getElem? (i := 1005) (by decide +kernel)) rfl
theorem w_1006 : Cond.selects "DearLetters$Machine" ⟨"DearLetters$Machine", "timeIfAble", "(LDearLetters$Heap;LDearLetters$State;II)I"⟩ ⟨"DearLetters$Machine", "timeIfAble", "(LDearLetters$Heap;LDearLetters$State;II)I"⟩ ∈ z_tbl := z_tbl_in (List.mem_of_getElem? (i := 1006) (by decide +kernel)) rfl
theorem w_1007 : Cond.code ⟨"DearLetters$Machine", "timeIfAble", "(LDearLetters$Heap;LDearLetters$State;II)I"⟩ prog_6_method_4_code 6 (Option.some FieldType.int) ∈ z_tbl := z_tbl_in (List.mem_of_getElem? (i := 1007) (by decide +kernel)) rfl
theorem w_1008 : Cond.methodLink "DearLetters$Machine" 67 ⟨"DearLetters$Machine", "timeOf", "(LDearLetters$Heap;LDearLetters$State;II)I"⟩ ∈ z_tbl := z_tbl_in (List.mem_of_getElem? (i := 1008) (by decide +kernel)) rfl
theorem w_1017 : Cond.methodLink "DearLetters$Evening" 44 ⟨"DearLetters$Evening", "weigh", "(LDearLetters$Heap;LDearLetters$State;II)Z"⟩ ∈ z_tbl := z_tbl_in (List.mem_of_getElem? (i := 1017) (by decide +kernel)) rfl
theorem w_1019 : Cond.instanceMethod ⟨"DearLetters$Evening", "weigh", "(LDearLetters$Heap;LDearLetters$State;II)Z"⟩ ∈ z_tbl := z_tbl_in (List.mem_of_getElem? (i := 1019) (by decide +kernel)) rfl
theorem w_1020 : Cond.code ⟨"DearLetters$Evening", "weigh", "(LDearLetters$Heap;LDearLetters$State;II)Z"⟩ prog_3_method_4_code 12 (Option.some FieldType.boolean) ∈ z_tbl := z_tbl_in (List.mem_of_getElem? (i := 1020) (by decide +kernel)) rfl
theorem w_1021 : Cond.methodLink "DearLetters$Evening" 90 ⟨"DearLetters$Machine", "timeIfAble", "(LDearLetters$Heap;LDearLetters$State;II)I"⟩ ∈ z_tbl := z_tbl_in (List.mem_of_getElem? (i := 1021) (by decide +kernel)) rfl
theorem w_1022 : Cond.methodLink "DearLetters$Evening" 96 ⟨"DearLetters$Machine", "warmthOf", "(LDearLetters$Heap;LDearLetters$State;II)I"⟩ ∈ z_tbl := z_tbl_in (List.mem_of_getElem? (i := 1022) (by decide +kernel)) rfl
theorem w_1023 : Cond.methodLink "DearLetters$Evening" 99 ⟨"DearLetters$Evening", "rowShift", "(I)I"⟩ ∈ z_tbl := z_tbl_in (List.mem_of_getElem? (i := 1023) (by decide +kernel)) rfl
theorem w_1024 : Cond.static ⟨"DearLetters$Evening", "rowShift", "(I)I"⟩ ∈ z_tbl := z_tbl_in (List.mem_of_getElem? (i := 1024) (by decide +kernel)) rfl
theorem w_1025 : Cond.code ⟨"DearLetters$Evening", "rowShift", "(I)I"⟩ prog_3_method_8_code 1 (Option.some FieldType.int) ∈ z_tbl := z_tbl_in (List.mem_of_getElem? (i := 1025) (by decide +kernel)) rfl
theorem w_1026 : Cond.constantLong "DearLetters$Evening" 103 (268435456) ∈ z_tbl := z_tbl_in (List.mem_of_getElem? (i := 1026) (by decide +kernel)) rfl
theorem w_1027 : Cond.constantLong "DearLetters$Evening" 48 (-1) ∈ z_tbl := z_tbl_in (List.mem_of_getElem? (i := 1027) (by decide +kernel)) rfl
theorem w_1028 : Cond.methodLink "DearLetters$Evening" 50 ⟨"java/util/Arrays", "fill", "([JIIJ)V"⟩ ∈ z_tbl := z_tbl_in (List.mem_of_getElem? (i := 1028) (by decide +kernel)) rfl
theorem w_1029 : Cond.static ⟨"java/util/Arrays", "fill", "([JIIJ)V"⟩ ∈ z_tbl := z_tbl_in (List.mem_of_getElem? (i := 1029) (by decide +kernel)) rfl
theorem w_1030 : Cond.code ⟨"java/util/Arrays", "fill", "([JIIJ)V"⟩ prog_20_method_102_code 6 none ∈ z_tbl := z_tbl_in (List.mem_of_getElem? (i := 1030) (by decide +kernel)) rfl
theorem w_1031 : Cond.methodLink "java/util/Arrays" 13 ⟨"java/util/Arrays", "rangeCheck", "(III)V"⟩ ∈ z_tbl := z_tbl_in (List.mem_of_getElem? (i := 1031) (by decide +kernel)) rfl
theorem w_1032 : Cond.static ⟨"java/util/Arrays", "rangeCheck", "(III)V"⟩ ∈ z_tbl := z_tbl_in (List.mem_of_getElem? (i := 1032) (by decide +kernel)) rfl
theorem w_1033 : Cond.code ⟨"java/util/Arrays", "rangeCheck", "(III)V"⟩ prog_20_method_30_code 3 none ∈ z_tbl := z_tbl_in (List.mem_of_getElem? (i := 1033) (by decide +kernel)) rfl
theorem w_1034 : Cond.methodLink "DearLetters$Evening" 61 ⟨"DearLetters$Evening", "price", "(III)V"⟩ ∈ z_tbl := z_tbl_in (List.mem_of_getElem? (i := 1034) (by decide +kernel)) rfl
theorem w_1036 : Cond.instanceMethod ⟨"DearLetters$Evening", "price", "(III)V"⟩ ∈ z_tbl := z_tbl_in (List.mem_of_getElem? (i := 1036) (by decide +kernel)) rfl
theorem w_1037 : Cond.code ⟨"DearLetters$Evening", "price", "(III)V"⟩ prog_3_method_5_code 9 none ∈ z_tbl := z_tbl_in (List.mem_of_getElem? (i := 1037) (by decide +kernel)) rfl
theorem w_1038 : Cond.methodLink "DearLetters$Evening" 65 ⟨"DearLetters$Evening", "spread", "(I)V"⟩ ∈ z_tbl := z_tbl_in (List.mem_of_getElem? (i := 1038) (by decide +kernel)) rfl
theorem w_1040 : Cond.instanceMethod ⟨"DearLetters$Evening", "spread", "(I)V"⟩ ∈ z_tbl := z_tbl_in (List.mem_of_getElem? (i := 1040) (by decide +kernel)) rfl
theorem w_1041 : Cond.code ⟨"DearLetters$Evening", "spread", "(I)V"⟩ prog_3_method_6_code 5 none ∈ z_tbl := z_tbl_in (List.mem_of_getElem? (i := 1041) (by decide +kernel)) rfl
theorem w_1042 : Cond.methodLink "DearLetters$Evening" 69 ⟨"java/lang/Math", "max", "(JJ)J"⟩ ∈ z_tbl := z_tbl_in (List.mem_of_getElem? (i := 1042) (by decide +kernel)) rfl
theorem w_1043 : Cond.static ⟨"java/lang/Math", "max", "(JJ)J"⟩ ∈ z_tbl := z_tbl_in (List.mem_of_getElem? (i := 1043) (by decide +kernel)) rfl
theorem w_1044 : Cond.code ⟨"java/lang/Math", "max", "(JJ)J"⟩ prog_15_method_66_code 4 (Option.some FieldType.long) ∈ z_tbl := z_tbl_in (List.mem_of_getElem? (i := 1044) (by decide +kernel)) rfl
theorem w_1045 : Cond.methodLink "DearLetters$Evening" 75 ⟨"DearLetters$Evening", "readOff", "(J)V"⟩ ∈ z_tbl := z_tbl_in (List.mem_of_getElem? (i := 1045) (by decide +kernel)) rfl
theorem w_1047 : Cond.instanceMethod ⟨"DearLetters$Evening", "readOff", "(J)V"⟩ ∈ z_tbl := z_tbl_in (List.mem_of_getElem? (i := 1047) (by decide +kernel)) rfl
theorem w_1048 : Cond.code ⟨"DearLetters$Evening", "readOff", "(J)V"⟩ prog_3_method_7_code 5 none ∈ z_tbl := z_tbl_in (List.mem_of_getElem? (i := 1048) (by decide +kernel)) rfl
theorem w_1049 : Cond.constantLong "DearLetters$Evening" 105 (65535) ∈ z_tbl := z_tbl_in (List.mem_of_getElem? (i := 1049) (by decide +kernel)) rfl
theorem w_1058 : Cond.methodLink "DearLetters" 249 ⟨"DearLetters$State", "copyFrom", "(LDearLetters$State;)V"⟩ ∈ z_tbl := z_tbl_in (List.mem_of_getElem? (i := 1058) (by decide +kernel)) rfl
theorem w_1059 : Cond.instanceMethod ⟨"DearLetters$State", "copyFrom", "(LDearLetters$State;)V"⟩ ∈ z_tbl := z_tbl_in (List.mem_of_getElem? (i := 1059) (by decide +kernel)) rfl
theorem w_1060 : Cond.selects "DearLetters$State" ⟨"DearLetters$State", "copyFrom", "(LDearLetters$State;)V"⟩ ⟨"DearLetters$State", "copyFrom", "(LDearLetters$State;)V"⟩ ∈ z_tbl := z_tbl_in (List.mem_of_getElem? (i := 1060) (by decide +kernel)) rfl
theorem w_1061 : Cond.code ⟨"DearLetters$State", "copyFrom", "(LDearLetters$State;)V"⟩ prog_10_method_4_code 2 none ∈ z_tbl := z_tbl_in (List.mem_of_getElem? (i := 1061) (by decide +kernel)) rfl
theorem w_1066 : Cond.methodLink "DearLetters$Evening" 86 ⟨"DearLetters$State", "rest", "(LDearLetters$Heap;)V"⟩ ∈ z_tbl := z_tbl_in (List.mem_of_getElem? (i := 1066) (by decide +kernel)) rfl
theorem w_1071 : Cond.methodLink "DearLetters" 256 ⟨"java/lang/Math", "min", "(II)I"⟩ ∈ z_tbl := z_tbl_in (List.mem_of_getElem? (i := 1071) (by decide +kernel)) rfl
theorem w_1080 : Cond.methodLink "DearLetters$Sorting" 29 ⟨"DearLetters$Sorting", "paint", "(LDearLetters$Heap;III)Z"⟩ ∈ z_tbl := z_tbl_in (List.mem_of_getElem? (i := 1080) (by decide +kernel)) rfl
theorem w_1082 : Cond.instanceMethod ⟨"DearLetters$Sorting", "paint", "(LDearLetters$Heap;III)Z"⟩ ∈ z_tbl := z_tbl_in (List.mem_of_getElem? (i := 1082) (by decide +kernel)) rfl
theorem w_1083 : Cond.code ⟨"DearLetters$Sorting", "paint", "(LDearLetters$Heap;III)Z"⟩ prog_9_method_3_code 6 (Option.some FieldType.boolean) ∈ z_tbl := z_tbl_in (List.mem_of_getElem? (i := 1083) (by decide +kernel)) rfl
theorem w_1084 : Cond.methodLink "DearLetters$Sorting" 38 ⟨"DearLetters$Sorting", "isFree", "(LDearLetters$Heap;II)Z"⟩ ∈ z_tbl := z_tbl_in (List.mem_of_getElem? (i := 1084) (by decide +kernel)) rfl
theorem w_1086 : Cond.instanceMethod ⟨"DearLetters$Sorting", "isFree", "(LDearLetters$Heap;II)Z"⟩ ∈ z_tbl := z_tbl_in (List.mem_of_getElem? (i := 1086) (by decide +kernel)) rfl
theorem w_1087 : Cond.code ⟨"DearLetters$Sorting", "isFree", "(LDearLetters$Heap;II)Z"⟩ prog_9_method_4_code 5 (Option.some FieldType.boolean) ∈ z_tbl := z_tbl_in (List.mem_of_getElem? (i := 1087) (by decide +kernel)) rfl
theorem w_1088 : Cond.methodLink "DearLetters$Sorting" 48 ⟨"DearLetters$Heap", "isNear", "(II)Z"⟩ ∈ z_tbl := z_tbl_in (List.mem_of_getElem? (i := 1088) (by decide +kernel)) rfl
theorem w_1089 : Cond.methodLink "DearLetters$Sorting" 42 ⟨"java/lang/Math", "max", "(II)I"⟩ ∈ z_tbl := z_tbl_in (List.mem_of_getElem? (i := 1089) (by decide +kernel)) rfl
theorem w_1098 : Cond.methodLink "DearLetters$Sharing" 36 ⟨"DearLetters$Heap", "allWishes", "(I)I"⟩ ∈ z_tbl := z_tbl_in (List.mem_of_getElem? (i := 1098) (by decide +kernel)) rfl
theorem w_1099 : Cond.methodLink "DearLetters$Sharing" 43 ⟨"java/util/Arrays", "fill", "([IIII)V"⟩ ∈ z_tbl := z_tbl_in (List.mem_of_getElem? (i := 1099) (by decide +kernel)) rfl
theorem w_1100 : Cond.static ⟨"java/util/Arrays", "fill", "([IIII)V"⟩ ∈ z_tbl := z_tbl_in (List.mem_of_getElem? (i := 1100) (by decide +kernel)) rfl
theorem w_1101 : Cond.code ⟨"java/util/Arrays", "fill", "([IIII)V"⟩ prog_20_method_104_code 5 none ∈ z_tbl := z_tbl_in (List.mem_of_getElem? (i := 1101) (by decide +kernel)) rfl
theorem w_1102 : Cond.methodLink "DearLetters$Sharing" 49 ⟨"DearLetters$Sharing", "isWithin", "(II)Z"⟩ ∈ z_tbl := z_tbl_in (List.mem_of_getElem? (i := 1102) (by decide +kernel)) rfl
theorem w_1103 : Cond.static ⟨"DearLetters$Sharing", "isWithin", "(II)Z"⟩ ∈ z_tbl := z_tbl_in (List.mem_of_getElem? (i := 1103) (by decide +kernel)) rfl
theorem w_1104 : Cond.code ⟨"DearLetters$Sharing", "isWithin", "(II)Z"⟩ prog_8_method_3_code 3 (Option.some FieldType.boolean) ∈ z_tbl := z_tbl_in (List.mem_of_getElem? (i := 1104) (by decide +kernel)) rfl
theorem w_1105 : Cond.methodLink "DearLetters$Sharing" 53 ⟨"DearLetters$Sharing", "mostFrom", "(LDearLetters$Heap;II)I"⟩ ∈ z_tbl := z_tbl_in (List.mem_of_getElem? (i := 1105) (by decide +kernel)) rfl
theorem w_1107 : Cond.instanceMethod ⟨"DearLetters$Sharing", "mostFrom", "(LDearLetters$Heap;II)I"⟩ ∈ z_tbl := z_tbl_in (List.mem_of_getElem? (i := 1107) (by decide +kernel)) rfl
theorem w_1108 : Cond.code ⟨"DearLetters$Sharing", "mostFrom", "(LDearLetters$Heap;II)I"⟩ prog_8_method_4_code 6 (Option.some FieldType.int) ∈ z_tbl := z_tbl_in (List.mem_of_getElem? (i := 1108) (by decide +kernel)) rfl
theorem w_1109 : Cond.methodLink "DearLetters$Sharing" 65 ⟨"DearLetters$Sharing", "mostBy", "(LDearLetters$Heap;III)I"⟩ ∈ z_tbl := z_tbl_in (List.mem_of_getElem? (i := 1109) (by decide +kernel)) rfl
theorem w_1111 : Cond.instanceMethod ⟨"DearLetters$Sharing", "mostBy", "(LDearLetters$Heap;III)I"⟩ ∈ z_tbl := z_tbl_in (List.mem_of_getElem? (i := 1111) (by decide +kernel)) rfl
theorem w_1112 : Cond.code ⟨"DearLetters$Sharing", "mostBy", "(LDearLetters$Heap;III)I"⟩ prog_8_method_5_code 6 (Option.some FieldType.int) ∈ z_tbl := z_tbl_in (List.mem_of_getElem? (i := 1112) (by decide +kernel)) rfl
theorem w_1113 : Cond.methodLink "DearLetters$Sharing" 69 ⟨"java/lang/Math", "max", "(II)I"⟩ ∈ z_tbl := z_tbl_in (List.mem_of_getElem? (i := 1113) (by decide +kernel)) rfl
theorem w_1114 : Cond.methodLink "DearLetters$Sharing" 61 ⟨"DearLetters$Sharing", "choose", "(LDearLetters$Heap;II)V"⟩ ∈ z_tbl := z_tbl_in (List.mem_of_getElem? (i := 1114) (by decide +kernel)) rfl
theorem w_1116 : Cond.instanceMethod ⟨"DearLetters$Sharing", "choose", "(LDearLetters$Heap;II)V"⟩ ∈ z_tbl := z_tbl_in (List.mem_of_getElem? (i := 1116) (by decide +kernel)) rfl
theorem w_1117 : Cond.code ⟨"DearLetters$Sharing", "choose", "(LDearLetters$Heap;II)V"⟩ prog_8_method_6_code 7 none ∈ z_tbl := z_tbl_in (List.mem_of_getElem? (i := 1117) (by decide +kernel)) rfl
theorem w_1134 : Cond.methodLink "DearLetters$Sorting" 52 ⟨"DearLetters$Sorting", "bestOdds", "(LDearLetters$Heap;I)J"⟩ ∈ z_tbl := z_tbl_in (List.mem_of_getElem? (i := 1134) (by decide +kernel)) rfl
theorem w_1136 : Cond.instanceMethod ⟨"DearLetters$Sorting", "bestOdds", "(LDearLetters$Heap;I)J"⟩ ∈ z_tbl := z_tbl_in (List.mem_of_getElem? (i := 1136) (by decide +kernel)) rfl
theorem w_1137 : Cond.code ⟨"DearLetters$Sorting", "bestOdds", "(LDearLetters$Heap;I)J"⟩ prog_9_method_6_code 7 (Option.some FieldType.long) ∈ z_tbl := z_tbl_in (List.mem_of_getElem? (i := 1137) (by decide +kernel)) rfl
theorem w_1138 : Cond.constantLong "DearLetters$Sorting" 56 (-1) ∈ z_tbl := z_tbl_in (List.mem_of_getElem? (i := 1138) (by decide +kernel)) rfl
theorem w_1139 : Cond.methodLink "DearLetters$Sorting" 65 ⟨"DearLetters$Sorting", "place", "(LDearLetters$Heap;IIJ)V"⟩ ∈ z_tbl := z_tbl_in (List.mem_of_getElem? (i := 1139) (by decide +kernel)) rfl
theorem w_1141 : Cond.instanceMethod ⟨"DearLetters$Sorting", "place", "(LDearLetters$Heap;IIJ)V"⟩ ∈ z_tbl := z_tbl_in (List.mem_of_getElem? (i := 1141) (by decide +kernel)) rfl
theorem w_1142 : Cond.code ⟨"DearLetters$Sorting", "place", "(LDearLetters$Heap;IIJ)V"⟩ prog_9_method_7_code 7 none ∈ z_tbl := z_tbl_in (List.mem_of_getElem? (i := 1142) (by decide +kernel)) rfl
theorem w_1143 : Cond.methodLink "DearLetters$Sorting" 73 ⟨"java/lang/System", "arraycopy", "(Ljava/lang/Object;ILjava/lang/Object;II)V"⟩ ∈ z_tbl := z_tbl_in (List.mem_of_getElem? (i := 1143) (by decide +kernel)) rfl
theorem w_1144 : Cond.methodLink "DearLetters$Sorting" 79 ⟨"DearLetters$Sorting", "oddsOf", "(LDearLetters$Heap;I)J"⟩ ∈ z_tbl := z_tbl_in (List.mem_of_getElem? (i := 1144) (by decide +kernel)) rfl
theorem w_1146 : Cond.instanceMethod ⟨"DearLetters$Sorting", "oddsOf", "(LDearLetters$Heap;I)J"⟩ ∈ z_tbl := z_tbl_in (List.mem_of_getElem? (i := 1146) (by decide +kernel)) rfl
theorem w_1147 : Cond.code ⟨"DearLetters$Sorting", "oddsOf", "(LDearLetters$Heap;I)J"⟩ prog_9_method_8_code 7 (Option.some FieldType.long) ∈ z_tbl := z_tbl_in (List.mem_of_getElem? (i := 1147) (by decide +kernel)) rfl
theorem w_1152 : Cond.methodLink "DearLetters" 289 ⟨"DearLetters", "tellsLetters", "(I)Z"⟩ ∈ z_tbl := z_tbl_in (List.mem_of_getElem? (i := 1152) (by decide +kernel)) rfl
theorem w_1154 : Cond.instanceMethod ⟨"DearLetters", "tellsLetters", "(I)Z"⟩ ∈ z_tbl := z_tbl_in (List.mem_of_getElem? (i := 1154) (by decide +kernel)) rfl
theorem w_1155 : Cond.code ⟨"DearLetters", "tellsLetters", "(I)Z"⟩ prog_1_method_42_code 3 (Option.some FieldType.boolean) ∈ z_tbl := z_tbl_in (List.mem_of_getElem? (i := 1155) (by decide +kernel)) rfl
theorem w_1156 : Cond.methodLink "DearLetters" 295 ⟨"DearLetters$Text", "pairAt", "(I)I"⟩ ∈ z_tbl := z_tbl_in (List.mem_of_getElem? (i := 1156) (by decide +kernel)) rfl
theorem w_1157 : Cond.instanceMethod ⟨"DearLetters$Text", "pairAt", "(I)I"⟩ ∈ z_tbl := z_tbl_in (List.mem_of_getElem? (i := 1157) (by decide +kernel)) rfl
theorem w_1158 : Cond.selects "DearLetters$Text" ⟨"DearLetters$Text", "pairAt", "(I)I"⟩ ⟨"DearLetters$Text", "pairAt", "(I)I"⟩ ∈ z_tbl := z_tbl_in (List.mem_of_getElem? (i := 1158) (by decide +kernel)) rfl
theorem w_1159 : Cond.code ⟨"DearLetters$Text", "pairAt", "(I)I"⟩ prog_12_method_4_code 2 (Option.some FieldType.int) ∈ z_tbl := z_tbl_in (List.mem_of_getElem? (i := 1159) (by decide +kernel)) rfl
theorem w_1161 : Cond.instanceMethod ⟨"DearLetters", "whose", "()I"⟩ ∈ z_tbl := z_tbl_in (List.mem_of_getElem? (i := 1161) (by decide +kernel)) rfl
theorem w_1162 : Cond.selects "DearLetters" ⟨"DearLetters", "whose", "()I"⟩ ⟨"DearLetters", "whose", "()I"⟩ ∈ z_tbl := z_tbl_in (List.mem_of_getElem? (i := 1162) (by decide +kernel)) rfl
theorem w_1163 : Cond.code ⟨"DearLetters", "whose", "()I"⟩ prog_1_method_23_code 3 (Option.some FieldType.int) ∈ z_tbl := z_tbl_in (List.mem_of_getElem? (i := 1163) (by decide +kernel)) rfl
theorem w_1172 : Cond.methodLink "DearLetters" 301 ⟨"DearLetters", "whose", "()I"⟩ ∈ z_tbl := z_tbl_in (List.mem_of_getElem? (i := 1172) (by decide +kernel)) rfl
theorem w_1186 : Cond.methodLink "DearLetters" 307 ⟨"DearLetters", "remember", "()V"⟩ ∈ z_tbl := z_tbl_in (List.mem_of_getElem? (i := 1186) (by decide +kernel)) rfl
theorem w_1188 : Cond.instanceMethod ⟨"DearLetters", "remember", "()V"⟩ ∈ z_tbl := z_tbl_in (List.mem_of_getElem? (i := 1188) (by decide +kernel)) rfl
theorem w_1189 : Cond.code ⟨"DearLetters", "remember", "()V"⟩ prog_1_method_46_code 1 none ∈ z_tbl := z_tbl_in (List.mem_of_getElem? (i := 1189) (by decide +kernel)) rfl
theorem w_1195 : Cond.instanceMethod ⟨"DearLetters$State", "hasSheetNear", "(LDearLetters$Heap;II)Z"⟩ ∈ z_tbl := z_tbl_in (List.mem_of_getElem? (i := 1195) (by decide +kernel)) rfl
theorem w_1196 : Cond.selects "DearLetters$State" ⟨"DearLetters$State", "hasSheetNear", "(LDearLetters$Heap;II)Z"⟩ ⟨"DearLetters$State", "hasSheetNear", "(LDearLetters$Heap;II)Z"⟩ ∈ z_tbl := z_tbl_in (List.mem_of_getElem? (i := 1196) (by decide +kernel)) rfl
theorem w_1197 : Cond.code ⟨"DearLetters$State", "hasSheetNear", "(LDearLetters$Heap;II)Z"⟩ prog_10_method_10_code 5 (Option.some FieldType.boolean) ∈ z_tbl := z_tbl_in (List.mem_of_getElem? (i := 1197) (by decide +kernel)) rfl
theorem w_1198 : Cond.methodLink "DearLetters$State" 60 ⟨"DearLetters$Heap", "isNear", "(II)Z"⟩ ∈ z_tbl := z_tbl_in (List.mem_of_getElem? (i := 1198) (by decide +kernel)) rfl
theorem w_1207 : Cond.methodLink "DearLetters" 314 ⟨"DearLetters", "canGoBy", "(I)Z"⟩ ∈ z_tbl := z_tbl_in (List.mem_of_getElem? (i := 1207) (by decide +kernel)) rfl
theorem w_1209 : Cond.instanceMethod ⟨"DearLetters", "canGoBy", "(I)Z"⟩ ∈ z_tbl := z_tbl_in (List.mem_of_getElem? (i := 1209) (by decide +kernel)) rfl
theorem w_1210 : Cond.code ⟨"DearLetters", "canGoBy", "(I)Z"⟩ prog_1_method_47_code 2 (Option.some FieldType.boolean) ∈ z_tbl := z_tbl_in (List.mem_of_getElem? (i := 1210) (by decide +kernel)) rfl
theorem w_1215 : Cond.methodLink "DearLetters" 317 ⟨"DearLetters", "catchColds", "()I"⟩ ∈ z_tbl := z_tbl_in (List.mem_of_getElem? (i := 1215) (by decide +kernel)) rfl
theorem w_1217 : Cond.instanceMethod ⟨"DearLetters", "catchColds", "()I"⟩ ∈ z_tbl := z_tbl_in (List.mem_of_getElem? (i := 1217) (by decide +kernel)) rfl
theorem w_1218 : Cond.code ⟨"DearLetters", "catchColds", "()I"⟩ prog_1_method_48_code 3 (Option.some FieldType.int) ∈ z_tbl := z_tbl_in (List.mem_of_getElem? (i := 1218) (by decide +kernel)) rfl
theorem w_1223 : Cond.constantLong "DearLetters" 355 (1103515245) ∈ z_tbl := z_tbl_in (List.mem_of_getElem? (i := 1223) (by decide +kernel)) rfl
theorem w_1224 : Cond.constantLong "DearLetters" 357 (12345) ∈ z_tbl := z_tbl_in (List.mem_of_getElem? (i := 1224) (by decide +kernel)) rfl
theorem w_1225 : Cond.constantLong "DearLetters" 359 (2147483647) ∈ z_tbl := z_tbl_in (List.mem_of_getElem? (i := 1225) (by decide +kernel)) rfl
theorem w_1238 : Cond.methodLink "DearLetters" 323 ⟨"DearLetters$Question", "read", "()Z"⟩ ∈ z_tbl := z_tbl_in (List.mem_of_getElem? (i := 1238) (by decide +kernel)) rfl
theorem w_1239 : Cond.instanceMethod ⟨"DearLetters$Question", "read", "()Z"⟩ ∈ z_tbl := z_tbl_in (List.mem_of_getElem? (i := 1239) (by decide +kernel)) rfl
theorem w_1240 : Cond.selects "DearLetters$Question" ⟨"DearLetters$Question", "read", "()Z"⟩ ⟨"DearLetters$Question", "read", "()Z"⟩ ∈ z_tbl := z_tbl_in (List.mem_of_getElem? (i := 1240) (by decide +kernel)) rfl
theorem w_1241 : Cond.code ⟨"DearLetters$Question", "read", "()Z"⟩ prog_7_method_2_code 2 (Option.some FieldType.boolean) ∈ z_tbl := z_tbl_in (List.mem_of_getElem? (i := 1241) (by decide +kernel)) rfl
theorem w_1242 : Cond.methodLink "DearLetters$Question" 19 ⟨"DearLetters$Text", "open", "()V"⟩ ∈ z_tbl := z_tbl_in (List.mem_of_getElem? (i := 1242) (by decide +kernel)) rfl
theorem w_1243 : Cond.methodLink "DearLetters$Question" 31 ⟨"DearLetters$Text", "fail", "(I)Z"⟩ ∈ z_tbl := z_tbl_in (List.mem_of_getElem? (i := 1243) (by decide +kernel)) rfl
theorem w_1244 : Cond.methodLink "DearLetters$Question" 35 ⟨"DearLetters$Text", "next", "()V"⟩ ∈ z_tbl := z_tbl_in (List.mem_of_getElem? (i := 1244) (by decide +kernel)) rfl
theorem w_1245 : Cond.methodLink "DearLetters$Question" 38 ⟨"DearLetters$Sums", "readTest", "()Z"⟩ ∈ z_tbl := z_tbl_in (List.mem_of_getElem? (i := 1245) (by decide +kernel)) rfl
theorem w_1246 : Cond.instanceMethod ⟨"DearLetters$Sums", "readTest", "()Z"⟩ ∈ z_tbl := z_tbl_in (List.mem_of_getElem? (i := 1246) (by decide +kernel)) rfl
theorem w_1247 : Cond.selects "DearLetters$Sums" ⟨"DearLetters$Sums", "readTest", "()Z"⟩ ⟨"DearLetters$Sums", "readTest", "()Z"⟩ ∈ z_tbl := z_tbl_in (List.mem_of_getElem? (i := 1247) (by decide +kernel)) rfl
theorem w_1248 : Cond.code ⟨"DearLetters$Sums", "readTest", "()Z"⟩ prog_11_method_4_code 1 (Option.some FieldType.boolean) ∈ z_tbl := z_tbl_in (List.mem_of_getElem? (i := 1248) (by decide +kernel)) rfl
theorem w_1249 : Cond.methodLink "DearLetters$Sums" 40 ⟨"DearLetters$Sums", "test", "(I)Z"⟩ ∈ z_tbl := z_tbl_in (List.mem_of_getElem? (i := 1249) (by decide +kernel)) rfl
theorem w_1251 : Cond.instanceMethod ⟨"DearLetters$Sums", "test", "(I)Z"⟩ ∈ z_tbl := z_tbl_in (List.mem_of_getElem? (i := 1251) (by decide +kernel)) rfl
theorem w_1252 : Cond.code ⟨"DearLetters$Sums", "test", "(I)Z"⟩ prog_11_method_5_code 4 (Option.some FieldType.boolean) ∈ z_tbl := z_tbl_in (List.mem_of_getElem? (i := 1252) (by decide +kernel)) rfl
theorem w_1253 : Cond.methodLink "DearLetters$Sums" 43 ⟨"DearLetters$Sums", "both", "(I)Z"⟩ ∈ z_tbl := z_tbl_in (List.mem_of_getElem? (i := 1253) (by decide +kernel)) rfl
theorem w_1255 : Cond.instanceMethod ⟨"DearLetters$Sums", "both", "(I)Z"⟩ ∈ z_tbl := z_tbl_in (List.mem_of_getElem? (i := 1255) (by decide +kernel)) rfl
theorem w_1256 : Cond.code ⟨"DearLetters$Sums", "both", "(I)Z"⟩ prog_11_method_6_code 4 (Option.some FieldType.boolean) ∈ z_tbl := z_tbl_in (List.mem_of_getElem? (i := 1256) (by decide +kernel)) rfl
theorem w_1257 : Cond.methodLink "DearLetters$Sums" 58 ⟨"DearLetters$Sums", "fact", "(I)Z"⟩ ∈ z_tbl := z_tbl_in (List.mem_of_getElem? (i := 1257) (by decide +kernel)) rfl
theorem w_1259 : Cond.instanceMethod ⟨"DearLetters$Sums", "fact", "(I)Z"⟩ ∈ z_tbl := z_tbl_in (List.mem_of_getElem? (i := 1259) (by decide +kernel)) rfl
theorem w_1260 : Cond.code ⟨"DearLetters$Sums", "fact", "(I)Z"⟩ prog_11_method_7_code 4 (Option.some FieldType.boolean) ∈ z_tbl := z_tbl_in (List.mem_of_getElem? (i := 1260) (by decide +kernel)) rfl
theorem w_1261 : Cond.methodLink "DearLetters$Question" 44 ⟨"DearLetters$Sums", "readQuestionSum", "()Z"⟩ ∈ z_tbl := z_tbl_in (List.mem_of_getElem? (i := 1261) (by decide +kernel)) rfl
theorem w_1262 : Cond.instanceMethod ⟨"DearLetters$Sums", "readQuestionSum", "()Z"⟩ ∈ z_tbl := z_tbl_in (List.mem_of_getElem? (i := 1262) (by decide +kernel)) rfl
theorem w_1263 : Cond.selects "DearLetters$Sums" ⟨"DearLetters$Sums", "readQuestionSum", "()Z"⟩ ⟨"DearLetters$Sums", "readQuestionSum", "()Z"⟩ ∈ z_tbl := z_tbl_in (List.mem_of_getElem? (i := 1263) (by decide +kernel)) rfl
theorem w_1264 : Cond.code ⟨"DearLetters$Sums", "readQuestionSum", "()Z"⟩ prog_11_method_3_code 1 (Option.some FieldType.boolean) ∈ z_tbl := z_tbl_in (List.mem_of_getElem? (i := 1264) (by decide +kernel)) rfl
theorem w_1269 : Cond.constantLong "DearLetters$Question" 50 (-1) ∈ z_tbl := z_tbl_in (List.mem_of_getElem? (i := 1269) (by decide +kernel)) rfl
theorem w_1270 : Cond.methodLink "DearLetters$Question" 62 ⟨"DearLetters$Machine", "valueFor", "(LDearLetters$Heap;LDearLetters$State;ILDearLetters$Code;)I"⟩ ∈ z_tbl := z_tbl_in (List.mem_of_getElem? (i := 1270) (by decide +kernel)) rfl
theorem w_1271 : Cond.instanceMethod ⟨"DearLetters$Machine", "valueFor", "(LDearLetters$Heap;LDearLetters$State;ILDearLetters$Code;)I"⟩ ∈ z_tbl := z_tbl_in (List.mem_of_getElem? (i := 1271) (by decide +kernel)) rfl
theorem w_1272 : Cond.selects "DearLetters$Machine" ⟨"DearLetters$Machine", "valueFor", "(LDearLetters$Heap;LDearLetters$State;ILDearLetters$Code;)I"⟩ ⟨"DearLetters$Machine", "valueFor", "(LDearLetters$Heap;LDearLetters$State;ILDearLetters$Code;)I"⟩ ∈ z_tbl := z_tbl_in (List.mem_of_getElem? (i := 1272) (by decide +kernel)) rfl
theorem w_1273 : Cond.code ⟨"DearLetters$Machine", "valueFor", "(LDearLetters$Heap;LDearLetters$State;ILDearLetters$Code;)I"⟩ prog_6_method_5_code 5 (Option.some FieldType.int) ∈ z_tbl := z_tbl_in (List.mem_of_getElem? (i := 1273) (by decide +kernel)) rfl
theorem w_1274 : Cond.methodLink "DearLetters$Question" 68 ⟨"DearLetters$Question", "with", "(JII)J"⟩ ∈ z_tbl := z_tbl_in (List.mem_of_getElem? (i := 1274) (by decide +kernel)) rfl
theorem w_1276 : Cond.instanceMethod ⟨"DearLetters$Question", "with", "(JII)J"⟩ ∈ z_tbl := z_tbl_in (List.mem_of_getElem? (i := 1276) (by decide +kernel)) rfl
theorem w_1277 : Cond.code ⟨"DearLetters$Question", "with", "(JII)J"⟩ prog_7_method_4_code 5 (Option.some FieldType.long) ∈ z_tbl := z_tbl_in (List.mem_of_getElem? (i := 1277) (by decide +kernel)) rfl
theorem w_1278 : Cond.methodLink "DearLetters$Question" 72 ⟨"java/lang/Math", "max", "(JJ)J"⟩ ∈ z_tbl := z_tbl_in (List.mem_of_getElem? (i := 1278) (by decide +kernel)) rfl
theorem w_1279 : Cond.methodLink "DearLetters$Question" 78 ⟨"java/lang/Math", "min", "(JJ)J"⟩ ∈ z_tbl := z_tbl_in (List.mem_of_getElem? (i := 1279) (by decide +kernel)) rfl
theorem w_1280 : Cond.static ⟨"java/lang/Math", "min", "(JJ)J"⟩ ∈ z_tbl := z_tbl_in (List.mem_of_getElem? (i := 1280) (by decide +kernel)) rfl
theorem w_1281 : Cond.code ⟨"java/lang/Math", "min", "(JJ)J"⟩ prog_15_method_70_code 4 (Option.some FieldType.long) ∈ z_tbl := z_tbl_in (List.mem_of_getElem? (i := 1281) (by decide +kernel)) rfl
theorem w_1305 : Cond.methodLink "DearLetters$State" 64 ⟨"DearLetters$State", "letterCanBe", "(LDearLetters$Heap;I)Z"⟩ ∈ z_tbl := z_tbl_in (List.mem_of_getElem? (i := 1305) (by decide +kernel)) rfl
theorem w_1307 : Cond.instanceMethod ⟨"DearLetters$State", "letterCanBe", "(LDearLetters$Heap;I)Z"⟩ ∈ z_tbl := z_tbl_in (List.mem_of_getElem? (i := 1307) (by decide +kernel)) rfl
theorem w_1308 : Cond.code ⟨"DearLetters$State", "letterCanBe", "(LDearLetters$Heap;I)Z"⟩ prog_10_method_12_code 3 (Option.some FieldType.boolean) ∈ z_tbl := z_tbl_in (List.mem_of_getElem? (i := 1308) (by decide +kernel)) rfl
theorem w_1309 : Cond.methodLink "DearLetters$State" 68 ⟨"DearLetters$State", "hasSheetNear", "(LDearLetters$Heap;II)Z"⟩ ∈ z_tbl := z_tbl_in (List.mem_of_getElem? (i := 1309) (by decide +kernel)) rfl
theorem w_1320 : Cond.fieldLink "DearLettersModel" 7 "DearLettersModel" "tape" "[I" ∈ z_tbl := z_tbl_in (List.mem_of_getElem? (i := 1320) (by decide +kernel)) rfl
theorem w_1321 : Cond.fieldLink "DearLettersModel" 260 "DearLettersModel" "taped" "I" ∈ z_tbl := z_tbl_in (List.mem_of_getElem? (i := 1321) (by decide +kernel)) rfl
theorem w_1322 : Cond.fieldLink "DearLettersModel" 269 "DearLettersModel" "at" "I" ∈ z_tbl := z_tbl_in (List.mem_of_getElem? (i := 1322) (by decide +kernel)) rfl
theorem w_1323 : Cond.fieldLink "DearLettersModel" 272 "DearLettersModel" "end" "I" ∈ z_tbl := z_tbl_in (List.mem_of_getElem? (i := 1323) (by decide +kernel)) rfl
theorem w_1324 : Cond.fieldLink "DearLettersModel" 283 "DearLettersModel" "ended" "I" ∈ z_tbl := z_tbl_in (List.mem_of_getElem? (i := 1324) (by decide +kernel)) rfl
theorem w_1325 : Cond.fieldLink "DearLettersModel" 263 "DearLettersModel" "bad" "I" ∈ z_tbl := z_tbl_in (List.mem_of_getElem? (i := 1325) (by decide +kernel)) rfl
theorem w_1326 : Cond.fieldLink "DearLettersModel" 266 "DearLettersModel" "badPlace" "I" ∈ z_tbl := z_tbl_in (List.mem_of_getElem? (i := 1326) (by decide +kernel)) rfl
theorem w_1327 : Cond.fieldLink "DearLettersModel" 401 "DearLettersModel" "fault" "I" ∈ z_tbl := z_tbl_in (List.mem_of_getElem? (i := 1327) (by decide +kernel)) rfl
theorem w_1328 : Cond.fieldLink "DearLettersModel" 13 "DearLettersModel" "faultPlace" "I" ∈ z_tbl := z_tbl_in (List.mem_of_getElem? (i := 1328) (by decide +kernel)) rfl
theorem w_1329 : Cond.fieldLink "DearLettersModel" 17 "DearLettersModel" "refused" "[I" ∈ z_tbl := z_tbl_in (List.mem_of_getElem? (i := 1329) (by decide +kernel)) rfl
theorem w_1330 : Cond.fieldLink "DearLettersModel" 20 "DearLettersModel" "letterWord" "[C" ∈ z_tbl := z_tbl_in (List.mem_of_getElem? (i := 1330) (by decide +kernel)) rfl
theorem w_1331 : Cond.fieldLink "DearLettersModel" 24 "DearLettersModel" "ageWord" "[C" ∈ z_tbl := z_tbl_in (List.mem_of_getElem? (i := 1331) (by decide +kernel)) rfl
theorem w_1332 : Cond.fieldLink "DearLettersModel" 27 "DearLettersModel" "needWord" "[C" ∈ z_tbl := z_tbl_in (List.mem_of_getElem? (i := 1332) (by decide +kernel)) rfl
theorem w_1333 : Cond.fieldLink "DearLettersModel" 30 "DearLettersModel" "graveWord" "[C" ∈ z_tbl := z_tbl_in (List.mem_of_getElem? (i := 1333) (by decide +kernel)) rfl
theorem w_1334 : Cond.fieldLink "DearLettersModel" 33 "DearLettersModel" "giftWord" "[C" ∈ z_tbl := z_tbl_in (List.mem_of_getElem? (i := 1334) (by decide +kernel)) rfl
theorem w_1335 : Cond.fieldLink "DearLettersModel" 36 "DearLettersModel" "stockWord" "[C" ∈ z_tbl := z_tbl_in (List.mem_of_getElem? (i := 1335) (by decide +kernel)) rfl
theorem w_1336 : Cond.fieldLink "DearLettersModel" 39 "DearLettersModel" "wishWord" "[C" ∈ z_tbl := z_tbl_in (List.mem_of_getElem? (i := 1336) (by decide +kernel)) rfl
theorem w_1337 : Cond.fieldLink "DearLettersModel" 42 "DearLettersModel" "nearWord" "[C" ∈ z_tbl := z_tbl_in (List.mem_of_getElem? (i := 1337) (by decide +kernel)) rfl
theorem w_1338 : Cond.fieldLink "DearLettersModel" 45 "DearLettersModel" "likeWord" "[C" ∈ z_tbl := z_tbl_in (List.mem_of_getElem? (i := 1338) (by decide +kernel)) rfl
theorem w_1339 : Cond.fieldLink "DearLettersModel" 48 "DearLettersModel" "helperWord" "[C" ∈ z_tbl := z_tbl_in (List.mem_of_getElem? (i := 1339) (by decide +kernel)) rfl
theorem w_1340 : Cond.fieldLink "DearLettersModel" 51 "DearLettersModel" "timeWord" "[C" ∈ z_tbl := z_tbl_in (List.mem_of_getElem? (i := 1340) (by decide +kernel)) rfl
theorem w_1341 : Cond.fieldLink "DearLettersModel" 54 "DearLettersModel" "handWord" "[C" ∈ z_tbl := z_tbl_in (List.mem_of_getElem? (i := 1341) (by decide +kernel)) rfl
theorem w_1342 : Cond.fieldLink "DearLettersModel" 57 "DearLettersModel" "bearsWord" "[C" ∈ z_tbl := z_tbl_in (List.mem_of_getElem? (i := 1342) (by decide +kernel)) rfl
theorem w_1343 : Cond.fieldLink "DearLettersModel" 60 "DearLettersModel" "takesWord" "[C" ∈ z_tbl := z_tbl_in (List.mem_of_getElem? (i := 1343) (by decide +kernel)) rfl
theorem w_1344 : Cond.fieldLink "DearLettersModel" 63 "DearLettersModel" "warmWord" "[C" ∈ z_tbl := z_tbl_in (List.mem_of_getElem? (i := 1344) (by decide +kernel)) rfl
theorem w_1345 : Cond.fieldLink "DearLettersModel" 66 "DearLettersModel" "missedWord" "[C" ∈ z_tbl := z_tbl_in (List.mem_of_getElem? (i := 1345) (by decide +kernel)) rfl
theorem w_1346 : Cond.fieldLink "DearLettersModel" 69 "DearLettersModel" "coldWord" "[C" ∈ z_tbl := z_tbl_in (List.mem_of_getElem? (i := 1346) (by decide +kernel)) rfl
theorem w_1347 : Cond.fieldLink "DearLettersModel" 72 "DearLettersModel" "wishesWord" "[C" ∈ z_tbl := z_tbl_in (List.mem_of_getElem? (i := 1347) (by decide +kernel)) rfl
theorem w_1348 : Cond.fieldLink "DearLettersModel" 75 "DearLettersModel" "dayWord" "[C" ∈ z_tbl := z_tbl_in (List.mem_of_getElem? (i := 1348) (by decide +kernel)) rfl
theorem w_1349 : Cond.fieldLink "DearLettersModel" 78 "DearLettersModel" "numberWord" "[C" ∈ z_tbl := z_tbl_in (List.mem_of_getElem? (i := 1349) (by decide +kernel)) rfl
theorem w_1350 : Cond.fieldLink "DearLettersModel" 81 "DearLettersModel" "sheetWord" "[C" ∈ z_tbl := z_tbl_in (List.mem_of_getElem? (i := 1350) (by decide +kernel)) rfl
theorem w_1351 : Cond.fieldLink "DearLettersModel" 84 "DearLettersModel" "doneWord" "[C" ∈ z_tbl := z_tbl_in (List.mem_of_getElem? (i := 1351) (by decide +kernel)) rfl
theorem w_1352 : Cond.fieldLink "DearLettersModel" 87 "DearLettersModel" "orWord" "[C" ∈ z_tbl := z_tbl_in (List.mem_of_getElem? (i := 1352) (by decide +kernel)) rfl
theorem w_1353 : Cond.fieldLink "DearLettersModel" 90 "DearLettersModel" "andWord" "[C" ∈ z_tbl := z_tbl_in (List.mem_of_getElem? (i := 1353) (by decide +kernel)) rfl
theorem w_1354 : Cond.fieldLink "DearLettersModel" 93 "DearLettersModel" "notWord" "[C" ∈ z_tbl := z_tbl_in (List.mem_of_getElem? (i := 1354) (by decide +kernel)) rfl
theorem w_1355 : Cond.fieldLink "DearLettersModel" 96 "DearLettersModel" "allWord" "[C" ∈ z_tbl := z_tbl_in (List.mem_of_getElem? (i := 1355) (by decide +kernel)) rfl
theorem w_1356 : Cond.fieldLink "DearLettersModel" 99 "DearLettersModel" "minWord" "[C" ∈ z_tbl := z_tbl_in (List.mem_of_getElem? (i := 1356) (by decide +kernel)) rfl
theorem w_1357 : Cond.fieldLink "DearLettersModel" 102 "DearLettersModel" "maxWord" "[C" ∈ z_tbl := z_tbl_in (List.mem_of_getElem? (i := 1357) (by decide +kernel)) rfl
theorem w_1358 : Cond.fieldLink "DearLettersModel" 311 "DearLettersModel" "namePlace" "I" ∈ z_tbl := z_tbl_in (List.mem_of_getElem? (i := 1358) (by decide +kernel)) rfl
theorem w_1359 : Cond.fieldLink "DearLettersModel" 105 "DearLettersModel" "many" "[I" ∈ z_tbl := z_tbl_in (List.mem_of_getElem? (i := 1359) (by decide +kernel)) rfl
theorem w_1360 : Cond.fieldLink "DearLettersModel" 108 "DearLettersModel" "names" "[J" ∈ z_tbl := z_tbl_in (List.mem_of_getElem? (i := 1360) (by decide +kernel)) rfl
theorem w_1361 : Cond.fieldLink "DearLettersModel" 112 "DearLettersModel" "letters" "[I" ∈ z_tbl := z_tbl_in (List.mem_of_getElem? (i := 1361) (by decide +kernel)) rfl
theorem w_1362 : Cond.fieldLink "DearLettersModel" 115 "DearLettersModel" "stocks" "[I" ∈ z_tbl := z_tbl_in (List.mem_of_getElem? (i := 1362) (by decide +kernel)) rfl
theorem w_1363 : Cond.fieldLink "DearLettersModel" 118 "DearLettersModel" "wishes0" "[I" ∈ z_tbl := z_tbl_in (List.mem_of_getElem? (i := 1363) (by decide +kernel)) rfl
theorem w_1364 : Cond.fieldLink "DearLettersModel" 121 "DearLettersModel" "nears" "[I" ∈ z_tbl := z_tbl_in (List.mem_of_getElem? (i := 1364) (by decide +kernel)) rfl
theorem w_1365 : Cond.fieldLink "DearLettersModel" 124 "DearLettersModel" "likes" "[I" ∈ z_tbl := z_tbl_in (List.mem_of_getElem? (i := 1365) (by decide +kernel)) rfl
theorem w_1366 : Cond.fieldLink "DearLettersModel" 127 "DearLettersModel" "helpers" "[I" ∈ z_tbl := z_tbl_in (List.mem_of_getElem? (i := 1366) (by decide +kernel)) rfl
theorem w_1367 : Cond.fieldLink "DearLettersModel" 130 "DearLettersModel" "settings" "[I" ∈ z_tbl := z_tbl_in (List.mem_of_getElem? (i := 1367) (by decide +kernel)) rfl
theorem w_1368 : Cond.fieldLink "DearLettersModel" 133 "DearLettersModel" "codeFrom" "[I" ∈ z_tbl := z_tbl_in (List.mem_of_getElem? (i := 1368) (by decide +kernel)) rfl
theorem w_1369 : Cond.fieldLink "DearLettersModel" 136 "DearLettersModel" "codeEnd" "[I" ∈ z_tbl := z_tbl_in (List.mem_of_getElem? (i := 1369) (by decide +kernel)) rfl
theorem w_1370 : Cond.fieldLink "DearLettersModel" 139 "DearLettersModel" "codes" "[I" ∈ z_tbl := z_tbl_in (List.mem_of_getElem? (i := 1370) (by decide +kernel)) rfl
theorem w_1371 : Cond.fieldLink "DearLettersModel" 367 "DearLettersModel" "coded" "I" ∈ z_tbl := z_tbl_in (List.mem_of_getElem? (i := 1371) (by decide +kernel)) rfl
theorem w_1372 : Cond.fieldLink "DearLettersModel" 370 "DearLettersModel" "statements" "I" ∈ z_tbl := z_tbl_in (List.mem_of_getElem? (i := 1372) (by decide +kernel)) rfl
theorem w_1373 : Cond.fieldLink "DearLettersModel" 318 "DearLettersModel" "inLaw" "Z" ∈ z_tbl := z_tbl_in (List.mem_of_getElem? (i := 1373) (by decide +kernel)) rfl
theorem w_1374 : Cond.fieldLink "DearLettersModel" 142 "DearLettersModel" "now" "[I" ∈ z_tbl := z_tbl_in (List.mem_of_getElem? (i := 1374) (by decide +kernel)) rfl
theorem w_1375 : Cond.fieldLink "DearLettersModel" 145 "DearLettersModel" "aside" "[I" ∈ z_tbl := z_tbl_in (List.mem_of_getElem? (i := 1375) (by decide +kernel)) rfl
theorem w_1376 : Cond.fieldLink "DearLettersModel" 428 "DearLettersModel" "askHand" "I" ∈ z_tbl := z_tbl_in (List.mem_of_getElem? (i := 1376) (by decide +kernel)) rfl
theorem w_1377 : Cond.fieldLink "DearLettersModel" 148 "DearLettersModel" "row" "[I" ∈ z_tbl := z_tbl_in (List.mem_of_getElem? (i := 1377) (by decide +kernel)) rfl
theorem w_1378 : Cond.fieldLink "DearLettersModel" 151 "DearLettersModel" "figures" "[I" ∈ z_tbl := z_tbl_in (List.mem_of_getElem? (i := 1378) (by decide +kernel)) rfl
theorem w_1379 : Cond.fieldLink "DearLettersModel" 154 "DearLettersModel" "best" "[I" ∈ z_tbl := z_tbl_in (List.mem_of_getElem? (i := 1379) (by decide +kernel)) rfl
theorem w_1380 : Cond.fieldLink "DearLettersModel" 157 "DearLettersModel" "times" "[I" ∈ z_tbl := z_tbl_in (List.mem_of_getElem? (i := 1380) (by decide +kernel)) rfl
theorem w_1381 : Cond.fieldLink "DearLettersModel" 160 "DearLettersModel" "warmths" "[J" ∈ z_tbl := z_tbl_in (List.mem_of_getElem? (i := 1381) (by decide +kernel)) rfl
theorem w_1382 : Cond.fieldLink "DearLettersModel" 163 "DearLettersModel" "minutes" "[I" ∈ z_tbl := z_tbl_in (List.mem_of_getElem? (i := 1382) (by decide +kernel)) rfl
theorem w_1383 : Cond.fieldLink "DearLettersModel" 470 "DearLettersModel" "bestWarm" "J" ∈ z_tbl := z_tbl_in (List.mem_of_getElem? (i := 1383) (by decide +kernel)) rfl
theorem w_1384 : Cond.fieldLink "DearLettersModel" 166 "DearLettersModel" "given" "[I" ∈ z_tbl := z_tbl_in (List.mem_of_getElem? (i := 1384) (by decide +kernel)) rfl
theorem w_1385 : Cond.fieldLink "DearLettersModel" 416 "DearLettersModel" "rowMany" "I" ∈ z_tbl := z_tbl_in (List.mem_of_getElem? (i := 1385) (by decide +kernel)) rfl
theorem w_1386 : Cond.fieldLink "DearLettersModel" 169 "DearLettersModel" "rows" "[I" ∈ z_tbl := z_tbl_in (List.mem_of_getElem? (i := 1386) (by decide +kernel)) rfl
theorem w_1387 : Cond.fieldLink "DearLettersModel" 172 "DearLettersModel" "kept0" "[I" ∈ z_tbl := z_tbl_in (List.mem_of_getElem? (i := 1387) (by decide +kernel)) rfl
theorem w_1388 : Cond.fieldLink "DearLettersModel" 413 "DearLettersModel" "undoable" "I" ∈ z_tbl := z_tbl_in (List.mem_of_getElem? (i := 1388) (by decide +kernel)) rfl
theorem w_1389 : Cond.fieldLink "DearLettersModel" 572 "DearLettersModel" "newest" "I" ∈ z_tbl := z_tbl_in (List.mem_of_getElem? (i := 1389) (by decide +kernel)) rfl
theorem w_1390 : Cond.fieldLink "DearLettersModel" 175 "DearLettersModel" "seeded" "J" ∈ z_tbl := z_tbl_in (List.mem_of_getElem? (i := 1390) (by decide +kernel)) rfl
theorem w_1391 : Cond.fieldLink "DearLettersModel" 179 "DearLettersModel" "firstAsked" "[C" ∈ z_tbl := z_tbl_in (List.mem_of_getElem? (i := 1391) (by decide +kernel)) rfl
theorem w_1392 : Cond.fieldLink "DearLettersModel" 182 "DearLettersModel" "lastAsked" "[C" ∈ z_tbl := z_tbl_in (List.mem_of_getElem? (i := 1392) (by decide +kernel)) rfl
theorem w_1393 : Cond.fieldLink "DearLettersModel" 185 "DearLettersModel" "oftenAsked" "[C" ∈ z_tbl := z_tbl_in (List.mem_of_getElem? (i := 1393) (by decide +kernel)) rfl
theorem w_1394 : Cond.fieldLink "DearLettersModel" 188 "DearLettersModel" "totalAsked" "[C" ∈ z_tbl := z_tbl_in (List.mem_of_getElem? (i := 1394) (by decide +kernel)) rfl
theorem w_1395 : Cond.fieldLink "DearLettersModel" 191 "DearLettersModel" "mostAsked" "[C" ∈ z_tbl := z_tbl_in (List.mem_of_getElem? (i := 1395) (by decide +kernel)) rfl
theorem w_1396 : Cond.fieldLink "DearLettersModel" 194 "DearLettersModel" "leastAsked" "[C" ∈ z_tbl := z_tbl_in (List.mem_of_getElem? (i := 1396) (by decide +kernel)) rfl
theorem w_1397 : Cond.fieldLink "DearLettersModel" 197 "DearLettersModel" "notAsked" "[C" ∈ z_tbl := z_tbl_in (List.mem_of_getElem? (i := 1397) (by decide +kernel)) rfl
theorem w_1398 : Cond.fieldLink "DearLettersModel" 200 "DearLettersModel" "andAsked" "[C" ∈ z_tbl := z_tbl_in (List.mem_of_getElem? (i := 1398) (by decide +kernel)) rfl
theorem w_1399 : Cond.fieldLink "DearLettersModel" 203 "DearLettersModel" "orAsked" "[C" ∈ z_tbl := z_tbl_in (List.mem_of_getElem? (i := 1399) (by decide +kernel)) rfl
theorem w_1400 : Cond.fieldLink "DearLettersModel" 206 "DearLettersModel" "allAsked" "[C" ∈ z_tbl := z_tbl_in (List.mem_of_getElem? (i := 1400) (by decide +kernel)) rfl
theorem w_1401 : Cond.fieldLink "DearLettersModel" 209 "DearLettersModel" "minAsked" "[C" ∈ z_tbl := z_tbl_in (List.mem_of_getElem? (i := 1401) (by decide +kernel)) rfl
theorem w_1402 : Cond.fieldLink "DearLettersModel" 212 "DearLettersModel" "maxAsked" "[C" ∈ z_tbl := z_tbl_in (List.mem_of_getElem? (i := 1402) (by decide +kernel)) rfl
theorem w_1403 : Cond.fieldLink "DearLettersModel" 215 "DearLettersModel" "ageAsked" "[C" ∈ z_tbl := z_tbl_in (List.mem_of_getElem? (i := 1403) (by decide +kernel)) rfl
theorem w_1404 : Cond.fieldLink "DearLettersModel" 218 "DearLettersModel" "needAsked" "[C" ∈ z_tbl := z_tbl_in (List.mem_of_getElem? (i := 1404) (by decide +kernel)) rfl
theorem w_1405 : Cond.fieldLink "DearLettersModel" 221 "DearLettersModel" "graveAsked" "[C" ∈ z_tbl := z_tbl_in (List.mem_of_getElem? (i := 1405) (by decide +kernel)) rfl
theorem w_1406 : Cond.fieldLink "DearLettersModel" 224 "DearLettersModel" "handAsked" "[C" ∈ z_tbl := z_tbl_in (List.mem_of_getElem? (i := 1406) (by decide +kernel)) rfl
theorem w_1407 : Cond.fieldLink "DearLettersModel" 227 "DearLettersModel" "wishesAsked" "[C" ∈ z_tbl := z_tbl_in (List.mem_of_getElem? (i := 1407) (by decide +kernel)) rfl
theorem w_1408 : Cond.fieldLink "DearLettersModel" 230 "DearLettersModel" "dayAsked" "[C" ∈ z_tbl := z_tbl_in (List.mem_of_getElem? (i := 1408) (by decide +kernel)) rfl
theorem w_1409 : Cond.fieldLink "DearLettersModel" 233 "DearLettersModel" "numberAsked" "[C" ∈ z_tbl := z_tbl_in (List.mem_of_getElem? (i := 1409) (by decide +kernel)) rfl
theorem w_1410 : Cond.fieldLink "DearLettersModel" 236 "DearLettersModel" "sheetAsked" "[C" ∈ z_tbl := z_tbl_in (List.mem_of_getElem? (i := 1410) (by decide +kernel)) rfl
theorem w_1411 : Cond.fieldLink "DearLettersModel" 239 "DearLettersModel" "doneAsked" "[C" ∈ z_tbl := z_tbl_in (List.mem_of_getElem? (i := 1411) (by decide +kernel)) rfl
theorem w_1412 : Cond.fieldLink "DearLettersModel" 242 "DearLettersModel" "giftAsked" "[C" ∈ z_tbl := z_tbl_in (List.mem_of_getElem? (i := 1412) (by decide +kernel)) rfl
theorem w_1413 : Cond.fieldLink "DearLettersModel" 245 "DearLettersModel" "wishAsked" "[C" ∈ z_tbl := z_tbl_in (List.mem_of_getElem? (i := 1413) (by decide +kernel)) rfl
theorem w_1414 : Cond.fieldLink "DearLettersModel" 248 "DearLettersModel" "qCodes" "[I" ∈ z_tbl := z_tbl_in (List.mem_of_getElem? (i := 1414) (by decide +kernel)) rfl
theorem w_1415 : Cond.fieldLink "DearLettersModel" 352 "DearLettersModel" "qCoded" "I" ∈ z_tbl := z_tbl_in (List.mem_of_getElem? (i := 1415) (by decide +kernel)) rfl
theorem w_1416 : Cond.fieldLink "DearLettersModel" 251 "DearLettersModel" "qWait" "[I" ∈ z_tbl := z_tbl_in (List.mem_of_getElem? (i := 1416) (by decide +kernel)) rfl
theorem w_1417 : Cond.fieldLink "DearLettersModel" 355 "DearLettersModel" "qWaits" "I" ∈ z_tbl := z_tbl_in (List.mem_of_getElem? (i := 1417) (by decide +kernel)) rfl
theorem w_1418 : Cond.fieldLink "DearLettersModel" 358 "DearLettersModel" "qOpened" "I" ∈ z_tbl := z_tbl_in (List.mem_of_getElem? (i := 1418) (by decide +kernel)) rfl
theorem w_1419 : Cond.fieldLink "DearLettersModel" 361 "DearLettersModel" "qBase" "I" ∈ z_tbl := z_tbl_in (List.mem_of_getElem? (i := 1419) (by decide +kernel)) rfl
theorem w_1420 : Cond.fieldLink "DearLettersModel" 254 "DearLettersModel" "qPile" "[J" ∈ z_tbl := z_tbl_in (List.mem_of_getElem? (i := 1420) (by decide +kernel)) rfl
theorem w_1421 : Cond.fieldLink "DearLettersModel" 431 "DearLettersModel" "qPiled" "I" ∈ z_tbl := z_tbl_in (List.mem_of_getElem? (i := 1421) (by decide +kernel)) rfl
theorem w_1422 : Cond.fieldLink "DearLettersModel" 664 "DearLettersModel" "qAnswer" "J" ∈ z_tbl := z_tbl_in (List.mem_of_getElem? (i := 1422) (by decide +kernel)) rfl
theorem w_1423 : Cond.fieldLink "DearLettersModel" 669 "DearLettersModel" "qIsNew" "Z" ∈ z_tbl := z_tbl_in (List.mem_of_getElem? (i := 1423) (by decide +kernel)) rfl
theorem w_1424 : Cond.fieldLink "DearLettersModel" 257 "DearLettersModel" "octet" "[I" ∈ z_tbl := z_tbl_in (List.mem_of_getElem? (i := 1424) (by decide +kernel)) rfl
theorem w_1425 : Cond.fieldLink "DearLettersModel" 686 "DearLettersModel" "octets" "I" ∈ z_tbl := z_tbl_in (List.mem_of_getElem? (i := 1425) (by decide +kernel)) rfl
theorem w_1652 : Cond.methodLink "DearLettersModel" 275 ⟨"DearLettersModel", "look", "()I"⟩ ∈ z_tbl := z_tbl_in (List.mem_of_getElem? (i := 1652) (by decide +kernel)) rfl
theorem w_1654 : Cond.instanceMethod ⟨"DearLettersModel", "look", "()I"⟩ ∈ z_tbl := z_tbl_in (List.mem_of_getElem? (i := 1654) (by decide +kernel)) rfl
theorem w_1655 : Cond.code ⟨"DearLettersModel", "look", "()I"⟩ prog_14_method_8_code 1 (Option.some FieldType.int) ∈ z_tbl := z_tbl_in (List.mem_of_getElem? (i := 1655) (by decide +kernel)) rfl
theorem w_1656 : Cond.methodLink "DearLettersModel" 398 ⟨"DearLettersModel", "statementTold", "()V"⟩ ∈ z_tbl := z_tbl_in (List.mem_of_getElem? (i := 1656) (by decide +kernel)) rfl
theorem w_1658 : Cond.instanceMethod ⟨"DearLettersModel", "statementTold", "()V"⟩ ∈ z_tbl := z_tbl_in (List.mem_of_getElem? (i := 1658) (by decide +kernel)) rfl
theorem w_1659 : Cond.code ⟨"DearLettersModel", "statementTold", "()V"⟩ prog_14_method_30_code 2 none ∈ z_tbl := z_tbl_in (List.mem_of_getElem? (i := 1659) (by decide +kernel)) rfl
theorem w_1660 : Cond.methodLink "DearLettersModel" 293 ⟨"DearLettersModel", "fail", "(II)V"⟩ ∈ z_tbl := z_tbl_in (List.mem_of_getElem? (i := 1660) (by decide +kernel)) rfl
theorem w_1662 : Cond.instanceMethod ⟨"DearLettersModel", "fail", "(II)V"⟩ ∈ z_tbl := z_tbl_in (List.mem_of_getElem? (i := 1662) (by decide +kernel)) rfl
theorem w_1663 : Cond.code ⟨"DearLettersModel", "fail", "(II)V"⟩ prog_14_method_5_code 3 none ∈ z_tbl := z_tbl_in (List.mem_of_getElem? (i := 1663) (by decide +kernel)) rfl
theorem w_1664 : Cond.methodLink "DearLettersModel" 290 ⟨"DearLettersModel", "eats", "([C)Z"⟩ ∈ z_tbl := z_tbl_in (List.mem_of_getElem? (i := 1664) (by decide +kernel)) rfl
theorem w_1666 : Cond.instanceMethod ⟨"DearLettersModel", "eats", "([C)Z"⟩ ∈ z_tbl := z_tbl_in (List.mem_of_getElem? (i := 1666) (by decide +kernel)) rfl
theorem w_1667 : Cond.code ⟨"DearLettersModel", "eats", "([C)Z"⟩ prog_14_method_10_code 2 (Option.some FieldType.boolean) ∈ z_tbl := z_tbl_in (List.mem_of_getElem? (i := 1667) (by decide +kernel)) rfl
theorem w_1668 : Cond.methodLink "DearLettersModel" 286 ⟨"DearLettersModel", "isHere", "([C)Z"⟩ ∈ z_tbl := z_tbl_in (List.mem_of_getElem? (i := 1668) (by decide +kernel)) rfl
theorem w_1670 : Cond.instanceMethod ⟨"DearLettersModel", "isHere", "([C)Z"⟩ ∈ z_tbl := z_tbl_in (List.mem_of_getElem? (i := 1670) (by decide +kernel)) rfl
theorem w_1671 : Cond.code ⟨"DearLettersModel", "isHere", "([C)Z"⟩ prog_14_method_9_code 4 (Option.some FieldType.boolean) ∈ z_tbl := z_tbl_in (List.mem_of_getElem? (i := 1671) (by decide +kernel)) rfl
theorem w_1672 : Cond.methodLink "DearLettersModel" 279 ⟨"DearLettersModel", "isLetter", "(I)Z"⟩ ∈ z_tbl := z_tbl_in (List.mem_of_getElem? (i := 1672) (by decide +kernel)) rfl
theorem w_1673 : Cond.static ⟨"DearLettersModel", "isLetter", "(I)Z"⟩ ∈ z_tbl := z_tbl_in (List.mem_of_getElem? (i := 1673) (by decide +kernel)) rfl
theorem w_1674 : Cond.code ⟨"DearLettersModel", "isLetter", "(I)Z"⟩ prog_14_method_6_code 1 (Option.some FieldType.boolean) ∈ z_tbl := z_tbl_in (List.mem_of_getElem? (i := 1674) (by decide +kernel)) rfl
theorem w_1675 : Cond.methodLink "DearLettersModel" 373 ⟨"DearLettersModel", "letterTold", "(I)V"⟩ ∈ z_tbl := z_tbl_in (List.mem_of_getElem? (i := 1675) (by decide +kernel)) rfl
theorem w_1677 : Cond.instanceMethod ⟨"DearLettersModel", "letterTold", "(I)V"⟩ ∈ z_tbl := z_tbl_in (List.mem_of_getElem? (i := 1677) (by decide +kernel)) rfl
theorem w_1678 : Cond.code ⟨"DearLettersModel", "letterTold", "(I)V"⟩ prog_14_method_23_code 8 none ∈ z_tbl := z_tbl_in (List.mem_of_getElem? (i := 1678) (by decide +kernel)) rfl
theorem w_1679 : Cond.methodLink "DearLettersModel" 330 ⟨"DearLettersModel", "isFull", "(III)Z"⟩ ∈ z_tbl := z_tbl_in (List.mem_of_getElem? (i := 1679) (by decide +kernel)) rfl
theorem w_1681 : Cond.instanceMethod ⟨"DearLettersModel", "isFull", "(III)Z"⟩ ∈ z_tbl := z_tbl_in (List.mem_of_getElem? (i := 1681) (by decide +kernel)) rfl
theorem w_1682 : Cond.code ⟨"DearLettersModel", "isFull", "(III)Z"⟩ prog_14_method_18_code 4 (Option.some FieldType.boolean) ∈ z_tbl := z_tbl_in (List.mem_of_getElem? (i := 1682) (by decide +kernel)) rfl
theorem w_1683 : Cond.methodLink "DearLettersModel" 334 ⟨"DearLettersModel", "newName", "()J"⟩ ∈ z_tbl := z_tbl_in (List.mem_of_getElem? (i := 1683) (by decide +kernel)) rfl
theorem w_1685 : Cond.instanceMethod ⟨"DearLettersModel", "newName", "()J"⟩ ∈ z_tbl := z_tbl_in (List.mem_of_getElem? (i := 1685) (by decide +kernel)) rfl
theorem w_1686 : Cond.code ⟨"DearLettersModel", "newName", "()J"⟩ prog_14_method_20_code 4 (Option.some FieldType.long) ∈ z_tbl := z_tbl_in (List.mem_of_getElem? (i := 1686) (by decide +kernel)) rfl
theorem w_1687 : Cond.methodLink "DearLettersModel" 322 ⟨"DearLettersModel", "name", "()J"⟩ ∈ z_tbl := z_tbl_in (List.mem_of_getElem? (i := 1687) (by decide +kernel)) rfl
theorem w_1689 : Cond.instanceMethod ⟨"DearLettersModel", "name", "()J"⟩ ∈ z_tbl := z_tbl_in (List.mem_of_getElem? (i := 1689) (by decide +kernel)) rfl
theorem w_1690 : Cond.code ⟨"DearLettersModel", "name", "()J"⟩ prog_14_method_16_code 3 (Option.some FieldType.long) ∈ z_tbl := z_tbl_in (List.mem_of_getElem? (i := 1690) (by decide +kernel)) rfl
theorem w_1691 : Cond.methodLink "DearLettersModel" 307 ⟨"DearLettersModel", "isOwnHere", "()Z"⟩ ∈ z_tbl := z_tbl_in (List.mem_of_getElem? (i := 1691) (by decide +kernel)) rfl
theorem w_1693 : Cond.instanceMethod ⟨"DearLettersModel", "isOwnHere", "()Z"⟩ ∈ z_tbl := z_tbl_in (List.mem_of_getElem? (i := 1693) (by decide +kernel)) rfl
theorem w_1694 : Cond.code ⟨"DearLettersModel", "isOwnHere", "()Z"⟩ prog_14_method_15_code 2 (Option.some FieldType.boolean) ∈ z_tbl := z_tbl_in (List.mem_of_getElem? (i := 1694) (by decide +kernel)) rfl
theorem w_1695 : Cond.constantLong "DearLettersModel" 314 (27) ∈ z_tbl := z_tbl_in (List.mem_of_getElem? (i := 1695) (by decide +kernel)) rfl
theorem w_1696 : Cond.constantLong "DearLettersModel" 316 (97) ∈ z_tbl := z_tbl_in (List.mem_of_getElem? (i := 1696) (by decide +kernel)) rfl
theorem w_1697 : Cond.methodLink "DearLettersModel" 326 ⟨"DearLettersModel", "nameOf", "(IJ)I"⟩ ∈ z_tbl := z_tbl_in (List.mem_of_getElem? (i := 1697) (by decide +kernel)) rfl
theorem w_1699 : Cond.instanceMethod ⟨"DearLettersModel", "nameOf", "(IJ)I"⟩ ∈ z_tbl := z_tbl_in (List.mem_of_getElem? (i := 1699) (by decide +kernel)) rfl
theorem w_1700 : Cond.code ⟨"DearLettersModel", "nameOf", "(IJ)I"⟩ prog_14_method_19_code 5 (Option.some FieldType.int) ∈ z_tbl := z_tbl_in (List.mem_of_getElem? (i := 1700) (by decide +kernel)) rfl
theorem w_1701 : Cond.methodLink "DearLettersModel" 337 ⟨"DearLettersModel", "asks", "([C)V"⟩ ∈ z_tbl := z_tbl_in (List.mem_of_getElem? (i := 1701) (by decide +kernel)) rfl
theorem w_1703 : Cond.instanceMethod ⟨"DearLettersModel", "asks", "([C)V"⟩ ∈ z_tbl := z_tbl_in (List.mem_of_getElem? (i := 1703) (by decide +kernel)) rfl
theorem w_1704 : Cond.code ⟨"DearLettersModel", "asks", "([C)V"⟩ prog_14_method_11_code 2 none ∈ z_tbl := z_tbl_in (List.mem_of_getElem? (i := 1704) (by decide +kernel)) rfl
theorem w_1705 : Cond.methodLink "DearLettersModel" 341 ⟨"DearLettersModel", "number", "(II)I"⟩ ∈ z_tbl := z_tbl_in (List.mem_of_getElem? (i := 1705) (by decide +kernel)) rfl
theorem w_1707 : Cond.instanceMethod ⟨"DearLettersModel", "number", "(II)I"⟩ ∈ z_tbl := z_tbl_in (List.mem_of_getElem? (i := 1707) (by decide +kernel)) rfl
theorem w_1708 : Cond.code ⟨"DearLettersModel", "number", "(II)I"⟩ prog_14_method_14_code 5 (Option.some FieldType.int) ∈ z_tbl := z_tbl_in (List.mem_of_getElem? (i := 1708) (by decide +kernel)) rfl
theorem w_1709 : Cond.methodLink "DearLettersModel" 300 ⟨"DearLettersModel", "isDigit", "(I)Z"⟩ ∈ z_tbl := z_tbl_in (List.mem_of_getElem? (i := 1709) (by decide +kernel)) rfl
theorem w_1710 : Cond.static ⟨"DearLettersModel", "isDigit", "(I)Z"⟩ ∈ z_tbl := z_tbl_in (List.mem_of_getElem? (i := 1710) (by decide +kernel)) rfl
theorem w_1711 : Cond.code ⟨"DearLettersModel", "isDigit", "(I)Z"⟩ prog_14_method_7_code 1 (Option.some FieldType.boolean) ∈ z_tbl := z_tbl_in (List.mem_of_getElem? (i := 1711) (by decide +kernel)) rfl
theorem w_1712 : Cond.methodLink "DearLettersModel" 303 ⟨"DearLettersModel", "isIn", "(JJJ)Z"⟩ ∈ z_tbl := z_tbl_in (List.mem_of_getElem? (i := 1712) (by decide +kernel)) rfl
theorem w_1713 : Cond.static ⟨"DearLettersModel", "isIn", "(JJJ)Z"⟩ ∈ z_tbl := z_tbl_in (List.mem_of_getElem? (i := 1713) (by decide +kernel)) rfl
theorem w_1714 : Cond.code ⟨"DearLettersModel", "isIn", "(JJJ)Z"⟩ prog_14_method_2_code 6 (Option.some FieldType.boolean) ∈ z_tbl := z_tbl_in (List.mem_of_getElem? (i := 1714) (by decide +kernel)) rfl
theorem w_1715 : Cond.methodLink "DearLettersModel" 345 ⟨"DearLettersModel", "adds", "(IJ)I"⟩ ∈ z_tbl := z_tbl_in (List.mem_of_getElem? (i := 1715) (by decide +kernel)) rfl
theorem w_1717 : Cond.instanceMethod ⟨"DearLettersModel", "adds", "(IJ)I"⟩ ∈ z_tbl := z_tbl_in (List.mem_of_getElem? (i := 1717) (by decide +kernel)) rfl
theorem w_1718 : Cond.code ⟨"DearLettersModel", "adds", "(IJ)I"⟩ prog_14_method_22_code 4 (Option.some FieldType.int) ∈ z_tbl := z_tbl_in (List.mem_of_getElem? (i := 1718) (by decide +kernel)) rfl
theorem w_1719 : Cond.methodLink "DearLettersModel" 377 ⟨"DearLettersModel", "giftTold", "(I)V"⟩ ∈ z_tbl := z_tbl_in (List.mem_of_getElem? (i := 1719) (by decide +kernel)) rfl
theorem w_1721 : Cond.instanceMethod ⟨"DearLettersModel", "giftTold", "(I)V"⟩ ∈ z_tbl := z_tbl_in (List.mem_of_getElem? (i := 1721) (by decide +kernel)) rfl
theorem w_1722 : Cond.code ⟨"DearLettersModel", "giftTold", "(I)V"⟩ prog_14_method_24_code 5 none ∈ z_tbl := z_tbl_in (List.mem_of_getElem? (i := 1722) (by decide +kernel)) rfl
theorem w_1723 : Cond.methodLink "DearLettersModel" 380 ⟨"DearLettersModel", "wishTold", "()V"⟩ ∈ z_tbl := z_tbl_in (List.mem_of_getElem? (i := 1723) (by decide +kernel)) rfl
theorem w_1725 : Cond.instanceMethod ⟨"DearLettersModel", "wishTold", "()V"⟩ ∈ z_tbl := z_tbl_in (List.mem_of_getElem? (i := 1725) (by decide +kernel)) rfl
theorem w_1726 : Cond.code ⟨"DearLettersModel", "wishTold", "()V"⟩ prog_14_method_25_code 4 none ∈ z_tbl := z_tbl_in (List.mem_of_getElem? (i := 1726) (by decide +kernel)) rfl
theorem w_1727 : Cond.methodLink "DearLettersModel" 348 ⟨"DearLettersModel", "oneOf", "(I)I"⟩ ∈ z_tbl := z_tbl_in (List.mem_of_getElem? (i := 1727) (by decide +kernel)) rfl
theorem w_1729 : Cond.instanceMethod ⟨"DearLettersModel", "oneOf", "(I)I"⟩ ∈ z_tbl := z_tbl_in (List.mem_of_getElem? (i := 1729) (by decide +kernel)) rfl
theorem w_1730 : Cond.code ⟨"DearLettersModel", "oneOf", "(I)I"⟩ prog_14_method_21_code 5 (Option.some FieldType.int) ∈ z_tbl := z_tbl_in (List.mem_of_getElem? (i := 1730) (by decide +kernel)) rfl
theorem w_1731 : Cond.methodLink "DearLettersModel" 383 ⟨"DearLettersModel", "nearTold", "(I)V"⟩ ∈ z_tbl := z_tbl_in (List.mem_of_getElem? (i := 1731) (by decide +kernel)) rfl
theorem w_1733 : Cond.instanceMethod ⟨"DearLettersModel", "nearTold", "(I)V"⟩ ∈ z_tbl := z_tbl_in (List.mem_of_getElem? (i := 1733) (by decide +kernel)) rfl
theorem w_1734 : Cond.code ⟨"DearLettersModel", "nearTold", "(I)V"⟩ prog_14_method_26_code 4 none ∈ z_tbl := z_tbl_in (List.mem_of_getElem? (i := 1734) (by decide +kernel)) rfl
theorem w_1735 : Cond.methodLink "DearLettersModel" 386 ⟨"DearLettersModel", "likeTold", "(I)V"⟩ ∈ z_tbl := z_tbl_in (List.mem_of_getElem? (i := 1735) (by decide +kernel)) rfl
theorem w_1737 : Cond.instanceMethod ⟨"DearLettersModel", "likeTold", "(I)V"⟩ ∈ z_tbl := z_tbl_in (List.mem_of_getElem? (i := 1737) (by decide +kernel)) rfl
theorem w_1738 : Cond.code ⟨"DearLettersModel", "likeTold", "(I)V"⟩ prog_14_method_27_code 5 none ∈ z_tbl := z_tbl_in (List.mem_of_getElem? (i := 1738) (by decide +kernel)) rfl
theorem w_1739 : Cond.methodLink "DearLettersModel" 389 ⟨"DearLettersModel", "helperTold", "(I)V"⟩ ∈ z_tbl := z_tbl_in (List.mem_of_getElem? (i := 1739) (by decide +kernel)) rfl
theorem w_1741 : Cond.instanceMethod ⟨"DearLettersModel", "helperTold", "(I)V"⟩ ∈ z_tbl := z_tbl_in (List.mem_of_getElem? (i := 1741) (by decide +kernel)) rfl
theorem w_1742 : Cond.code ⟨"DearLettersModel", "helperTold", "(I)V"⟩ prog_14_method_28_code 8 none ∈ z_tbl := z_tbl_in (List.mem_of_getElem? (i := 1742) (by decide +kernel)) rfl
theorem w_1743 : Cond.methodLink "DearLettersModel" 392 ⟨"DearLettersModel", "codesTold", "(II)V"⟩ ∈ z_tbl := z_tbl_in (List.mem_of_getElem? (i := 1743) (by decide +kernel)) rfl
theorem w_1745 : Cond.instanceMethod ⟨"DearLettersModel", "codesTold", "(II)V"⟩ ∈ z_tbl := z_tbl_in (List.mem_of_getElem? (i := 1745) (by decide +kernel)) rfl
theorem w_1746 : Cond.code ⟨"DearLettersModel", "codesTold", "(II)V"⟩ prog_14_method_29_code 4 none ∈ z_tbl := z_tbl_in (List.mem_of_getElem? (i := 1746) (by decide +kernel)) rfl
theorem w_1747 : Cond.methodLink "DearLettersModel" 364 ⟨"DearLettersModel", "qSums", "()V"⟩ ∈ z_tbl := z_tbl_in (List.mem_of_getElem? (i := 1747) (by decide +kernel)) rfl
theorem w_1749 : Cond.instanceMethod ⟨"DearLettersModel", "qSums", "()V"⟩ ∈ z_tbl := z_tbl_in (List.mem_of_getElem? (i := 1749) (by decide +kernel)) rfl
theorem w_1750 : Cond.code ⟨"DearLettersModel", "qSums", "()V"⟩ prog_14_method_118_code 3 none ∈ z_tbl := z_tbl_in (List.mem_of_getElem? (i := 1750) (by decide +kernel)) rfl
theorem w_1751 : Cond.methodLink "DearLettersModel" 630 ⟨"DearLettersModel", "qPartTold", "()V"⟩ ∈ z_tbl := z_tbl_in (List.mem_of_getElem? (i := 1751) (by decide +kernel)) rfl
theorem w_1753 : Cond.instanceMethod ⟨"DearLettersModel", "qPartTold", "()V"⟩ ∈ z_tbl := z_tbl_in (List.mem_of_getElem? (i := 1753) (by decide +kernel)) rfl
theorem w_1754 : Cond.code ⟨"DearLettersModel", "qPartTold", "()V"⟩ prog_14_method_116_code 6 none ∈ z_tbl := z_tbl_in (List.mem_of_getElem? (i := 1754) (by decide +kernel)) rfl
theorem w_1755 : Cond.methodLink "DearLettersModel" 609 ⟨"DearLettersModel", "qWordOf", "(II)I"⟩ ∈ z_tbl := z_tbl_in (List.mem_of_getElem? (i := 1755) (by decide +kernel)) rfl
theorem w_1757 : Cond.instanceMethod ⟨"DearLettersModel", "qWordOf", "(II)I"⟩ ∈ z_tbl := z_tbl_in (List.mem_of_getElem? (i := 1757) (by decide +kernel)) rfl
theorem w_1758 : Cond.code ⟨"DearLettersModel", "qWordOf", "(II)I"⟩ prog_14_method_113_code 4 (Option.some FieldType.int) ∈ z_tbl := z_tbl_in (List.mem_of_getElem? (i := 1758) (by decide +kernel)) rfl
theorem w_1759 : Cond.methodLink "DearLettersModel" 603 ⟨"DearLettersModel", "qWordHere", "()I"⟩ ∈ z_tbl := z_tbl_in (List.mem_of_getElem? (i := 1759) (by decide +kernel)) rfl
theorem w_1761 : Cond.instanceMethod ⟨"DearLettersModel", "qWordHere", "()I"⟩ ∈ z_tbl := z_tbl_in (List.mem_of_getElem? (i := 1761) (by decide +kernel)) rfl
theorem w_1762 : Cond.code ⟨"DearLettersModel", "qWordHere", "()I"⟩ prog_14_method_112_code 1 (Option.some FieldType.int) ∈ z_tbl := z_tbl_in (List.mem_of_getElem? (i := 1762) (by decide +kernel)) rfl
theorem w_1763 : Cond.methodLink "DearLettersModel" 606 ⟨"DearLettersModel", "isAllowed", "(I)Z"⟩ ∈ z_tbl := z_tbl_in (List.mem_of_getElem? (i := 1763) (by decide +kernel)) rfl
theorem w_1765 : Cond.instanceMethod ⟨"DearLettersModel", "isAllowed", "(I)Z"⟩ ∈ z_tbl := z_tbl_in (List.mem_of_getElem? (i := 1765) (by decide +kernel)) rfl
