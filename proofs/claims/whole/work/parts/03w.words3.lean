theorem w_2175 : Cond.instanceMethod ⟨"DearLettersModel", "qTakes", "(IJI)V"⟩ ∈ z_tbl := z_tbl_in (List.mem_of_getElem? (i := 2175) (by decide +kernel)) rfl
theorem w_2176 : Cond.code ⟨"DearLettersModel", "qTakes", "(IJI)V"⟩ prog_14_method_132_code 6 none ∈ z_tbl := z_tbl_in (List.mem_of_getElem? (i := 2176) (by decide +kernel)) rfl
theorem w_2181 : Cond.methodLink "DearLettersModel" 689 ⟨"DearLettersModel", "writes", "(I)V"⟩ ∈ z_tbl := z_tbl_in (List.mem_of_getElem? (i := 2181) (by decide +kernel)) rfl
theorem w_2183 : Cond.instanceMethod ⟨"DearLettersModel", "writes", "(I)V"⟩ ∈ z_tbl := z_tbl_in (List.mem_of_getElem? (i := 2183) (by decide +kernel)) rfl
theorem w_2184 : Cond.code ⟨"DearLettersModel", "writes", "(I)V"⟩ prog_14_method_135_code 2 none ∈ z_tbl := z_tbl_in (List.mem_of_getElem? (i := 2184) (by decide +kernel)) rfl
theorem w_2185 : Cond.methodLink "DearLettersModel" 692 ⟨"DearLettersModel", "checked", "([II)I"⟩ ∈ z_tbl := z_tbl_in (List.mem_of_getElem? (i := 2185) (by decide +kernel)) rfl
theorem w_2186 : Cond.static ⟨"DearLettersModel", "checked", "([II)I"⟩ ∈ z_tbl := z_tbl_in (List.mem_of_getElem? (i := 2186) (by decide +kernel)) rfl
theorem w_2187 : Cond.code ⟨"DearLettersModel", "checked", "([II)I"⟩ prog_14_method_134_code 4 (Option.some FieldType.int) ∈ z_tbl := z_tbl_in (List.mem_of_getElem? (i := 2187) (by decide +kernel)) rfl
theorem w_2196 : Cond.methodLink "DearLettersModel" 699 ⟨"DearLettersModel", "isImage", "(I)Z"⟩ ∈ z_tbl := z_tbl_in (List.mem_of_getElem? (i := 2196) (by decide +kernel)) rfl
theorem w_2198 : Cond.instanceMethod ⟨"DearLettersModel", "isImage", "(I)Z"⟩ ∈ z_tbl := z_tbl_in (List.mem_of_getElem? (i := 2198) (by decide +kernel)) rfl
theorem w_2199 : Cond.code ⟨"DearLettersModel", "isImage", "(I)Z"⟩ prog_14_method_139_code 5 (Option.some FieldType.boolean) ∈ z_tbl := z_tbl_in (List.mem_of_getElem? (i := 2199) (by decide +kernel)) rfl
theorem w_2200 : Cond.methodLink "DearLettersModel" 696 ⟨"DearLettersModel", "areLettersTold", "(I)Z"⟩ ∈ z_tbl := z_tbl_in (List.mem_of_getElem? (i := 2200) (by decide +kernel)) rfl
theorem w_2202 : Cond.instanceMethod ⟨"DearLettersModel", "areLettersTold", "(I)Z"⟩ ∈ z_tbl := z_tbl_in (List.mem_of_getElem? (i := 2202) (by decide +kernel)) rfl
theorem w_2203 : Cond.code ⟨"DearLettersModel", "areLettersTold", "(I)Z"⟩ prog_14_method_138_code 5 (Option.some FieldType.boolean) ∈ z_tbl := z_tbl_in (List.mem_of_getElem? (i := 2203) (by decide +kernel)) rfl
