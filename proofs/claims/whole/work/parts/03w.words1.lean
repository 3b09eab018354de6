theorem w_767 : Cond.code ⟨"DearLetters$HeapReader", "newName", "(I)Z"⟩ prog_5_method_11_code 4 (Option.some FieldType.boolean) ∈ z_tbl := z_tbl_in (List.mem_of_getElem? (i := 767) (by decide +kernel)) rfl
theorem w_768 : Cond.methodLink "DearLetters$HeapReader" 151 ⟨"DearLetters$Text", "nameHere", "()I"⟩ ∈ z_tbl := z_tbl_in (List.mem_of_getElem? (i := 768) (by decide +kernel)) rfl
theorem w_769 : Cond.instanceMethod ⟨"DearLetters$Text", "nameHere", "()I"⟩ ∈ z_tbl := z_tbl_in (List.mem_of_getElem? (i := 769) (by decide +kernel)) rfl
theorem w_770 : Cond.selects "DearLetters$Text" ⟨"DearLetters$Text", "nameHere", "()I"⟩ ⟨"DearLetters$Text", "nameHere", "()I"⟩ ∈ z_tbl := z_tbl_in (List.mem_of_getElem? (i := 770) (by decide +kernel)) rfl
theorem w_771 : Cond.code ⟨"DearLetters$Text", "nameHere", "()I"⟩ prog_12_method_12_code 2 (Option.some FieldType.int) ∈ z_tbl := z_tbl_in (List.mem_of_getElem? (i := 771) (by decide +kernel)) rfl
theorem w_772 : Cond.methodLink "DearLetters$HeapReader" 155 ⟨"DearLetters$Heap", "find", "(II)I"⟩ ∈ z_tbl := z_tbl_in (List.mem_of_getElem? (i := 772) (by decide +kernel)) rfl
theorem w_773 : Cond.instanceMethod ⟨"DearLetters$Heap", "find", "(II)I"⟩ ∈ z_tbl := z_tbl_in (List.mem_of_getElem? (i := 773) (by decide +kernel)) rfl
theorem w_774 : Cond.selects "DearLetters$Heap" ⟨"DearLetters$Heap", "find", "(II)I"⟩ ⟨"DearLetters$Heap", "find", "(II)I"⟩ ∈ z_tbl := z_tbl_in (List.mem_of_getElem? (i := 774) (by decide +kernel)) rfl
theorem w_775 : Cond.code ⟨"DearLetters$Heap", "find", "(II)I"⟩ prog_4_method_4_code 4 (Option.some FieldType.int) ∈ z_tbl := z_tbl_in (List.mem_of_getElem? (i := 775) (by decide +kernel)) rfl
theorem w_776 : Cond.methodLink "DearLetters$HeapReader" 109 ⟨"DearLetters$HeapReader", "measure", "(III[II)Z"⟩ ∈ z_tbl := z_tbl_in (List.mem_of_getElem? (i := 776) (by decide +kernel)) rfl
theorem w_778 : Cond.instanceMethod ⟨"DearLetters$HeapReader", "measure", "(III[II)Z"⟩ ∈ z_tbl := z_tbl_in (List.mem_of_getElem? (i := 778) (by decide +kernel)) rfl
theorem w_779 : Cond.code ⟨"DearLetters$HeapReader", "measure", "(III[II)Z"⟩ prog_5_method_14_code 6 (Option.some FieldType.boolean) ∈ z_tbl := z_tbl_in (List.mem_of_getElem? (i := 779) (by decide +kernel)) rfl
theorem w_780 : Cond.methodLink "DearLetters$HeapReader" 93 ⟨"DearLetters$Text", "takeNumber", "(II)I"⟩ ∈ z_tbl := z_tbl_in (List.mem_of_getElem? (i := 780) (by decide +kernel)) rfl
theorem w_781 : Cond.instanceMethod ⟨"DearLetters$Text", "takeNumber", "(II)I"⟩ ∈ z_tbl := z_tbl_in (List.mem_of_getElem? (i := 781) (by decide +kernel)) rfl
theorem w_782 : Cond.selects "DearLetters$Text" ⟨"DearLetters$Text", "takeNumber", "(II)I"⟩ ⟨"DearLetters$Text", "takeNumber", "(II)I"⟩ ∈ z_tbl := z_tbl_in (List.mem_of_getElem? (i := 782) (by decide +kernel)) rfl
theorem w_783 : Cond.code ⟨"DearLetters$Text", "takeNumber", "(II)I"⟩ prog_12_method_13_code 4 (Option.some FieldType.int) ∈ z_tbl := z_tbl_in (List.mem_of_getElem? (i := 783) (by decide +kernel)) rfl
theorem w_784 : Cond.methodLink "DearLetters$Text" 75 ⟨"DearLetters$Text", "fail", "(I)Z"⟩ ∈ z_tbl := z_tbl_in (List.mem_of_getElem? (i := 784) (by decide +kernel)) rfl
theorem w_785 : Cond.methodLink "DearLetters$HeapReader" 72 ⟨"DearLetters$HeapReader", "giftContent", "()Z"⟩ ∈ z_tbl := z_tbl_in (List.mem_of_getElem? (i := 785) (by decide +kernel)) rfl
theorem w_787 : Cond.instanceMethod ⟨"DearLetters$HeapReader", "giftContent", "()Z"⟩ ∈ z_tbl := z_tbl_in (List.mem_of_getElem? (i := 787) (by decide +kernel)) rfl
theorem w_788 : Cond.code ⟨"DearLetters$HeapReader", "giftContent", "()Z"⟩ prog_5_method_6_code 1 (Option.some FieldType.boolean) ∈ z_tbl := z_tbl_in (List.mem_of_getElem? (i := 788) (by decide +kernel)) rfl
theorem w_789 : Cond.methodLink "DearLetters$HeapReader" 75 ⟨"DearLetters$HeapReader", "helperContent", "()Z"⟩ ∈ z_tbl := z_tbl_in (List.mem_of_getElem? (i := 789) (by decide +kernel)) rfl
theorem w_791 : Cond.instanceMethod ⟨"DearLetters$HeapReader", "helperContent", "()Z"⟩ ∈ z_tbl := z_tbl_in (List.mem_of_getElem? (i := 791) (by decide +kernel)) rfl
theorem w_792 : Cond.code ⟨"DearLetters$HeapReader", "helperContent", "()Z"⟩ prog_5_method_7_code 2 (Option.some FieldType.boolean) ∈ z_tbl := z_tbl_in (List.mem_of_getElem? (i := 792) (by decide +kernel)) rfl
theorem w_793 : Cond.methodLink "DearLetters$HeapReader" 78 ⟨"DearLetters$HeapReader", "nearContent", "()Z"⟩ ∈ z_tbl := z_tbl_in (List.mem_of_getElem? (i := 793) (by decide +kernel)) rfl
theorem w_795 : Cond.instanceMethod ⟨"DearLetters$HeapReader", "nearContent", "()Z"⟩ ∈ z_tbl := z_tbl_in (List.mem_of_getElem? (i := 795) (by decide +kernel)) rfl
theorem w_796 : Cond.code ⟨"DearLetters$HeapReader", "nearContent", "()Z"⟩ prog_5_method_8_code 3 (Option.some FieldType.boolean) ∈ z_tbl := z_tbl_in (List.mem_of_getElem? (i := 796) (by decide +kernel)) rfl
theorem w_797 : Cond.methodLink "DearLetters$HeapReader" 131 ⟨"DearLetters$HeapReader", "takeName", "(I)I"⟩ ∈ z_tbl := z_tbl_in (List.mem_of_getElem? (i := 797) (by decide +kernel)) rfl
theorem w_799 : Cond.instanceMethod ⟨"DearLetters$HeapReader", "takeName", "(I)I"⟩ ∈ z_tbl := z_tbl_in (List.mem_of_getElem? (i := 799) (by decide +kernel)) rfl
theorem w_800 : Cond.code ⟨"DearLetters$HeapReader", "takeName", "(I)I"⟩ prog_5_method_13_code 3 (Option.some FieldType.int) ∈ z_tbl := z_tbl_in (List.mem_of_getElem? (i := 800) (by decide +kernel)) rfl
theorem w_801 : Cond.methodLink "DearLetters$HeapReader" 134 ⟨"DearLetters$HeapReader", "knownHere", "(I)I"⟩ ∈ z_tbl := z_tbl_in (List.mem_of_getElem? (i := 801) (by decide +kernel)) rfl
theorem w_803 : Cond.instanceMethod ⟨"DearLetters$HeapReader", "knownHere", "(I)I"⟩ ∈ z_tbl := z_tbl_in (List.mem_of_getElem? (i := 803) (by decide +kernel)) rfl
theorem w_804 : Cond.code ⟨"DearLetters$HeapReader", "knownHere", "(I)I"⟩ prog_5_method_12_code 4 (Option.some FieldType.int) ∈ z_tbl := z_tbl_in (List.mem_of_getElem? (i := 804) (by decide +kernel)) rfl
theorem w_805 : Cond.methodLink "DearLetters$HeapReader" 137 ⟨"DearLetters$Heap", "isNear", "(II)Z"⟩ ∈ z_tbl := z_tbl_in (List.mem_of_getElem? (i := 805) (by decide +kernel)) rfl
theorem w_806 : Cond.instanceMethod ⟨"DearLetters$Heap", "isNear", "(II)Z"⟩ ∈ z_tbl := z_tbl_in (List.mem_of_getElem? (i := 806) (by decide +kernel)) rfl
theorem w_807 : Cond.selects "DearLetters$Heap" ⟨"DearLetters$Heap", "isNear", "(II)Z"⟩ ⟨"DearLetters$Heap", "isNear", "(II)Z"⟩ ∈ z_tbl := z_tbl_in (List.mem_of_getElem? (i := 807) (by decide +kernel)) rfl
theorem w_808 : Cond.code ⟨"DearLetters$Heap", "isNear", "(II)Z"⟩ prog_4_method_5_code 3 (Option.some FieldType.boolean) ∈ z_tbl := z_tbl_in (List.mem_of_getElem? (i := 808) (by decide +kernel)) rfl
theorem w_809 : Cond.methodLink "DearLetters$HeapReader" 81 ⟨"DearLetters$HeapReader", "likeContent", "()Z"⟩ ∈ z_tbl := z_tbl_in (List.mem_of_getElem? (i := 809) (by decide +kernel)) rfl
theorem w_811 : Cond.instanceMethod ⟨"DearLetters$HeapReader", "likeContent", "()Z"⟩ ∈ z_tbl := z_tbl_in (List.mem_of_getElem? (i := 811) (by decide +kernel)) rfl
theorem w_812 : Cond.code ⟨"DearLetters$HeapReader", "likeContent", "()Z"⟩ prog_5_method_9_code 4 (Option.some FieldType.boolean) ∈ z_tbl := z_tbl_in (List.mem_of_getElem? (i := 812) (by decide +kernel)) rfl
theorem w_813 : Cond.methodLink "DearLetters$HeapReader" 84 ⟨"DearLetters$Sums", "readHeapSum", "(LDearLetters$Heap;I)Z"⟩ ∈ z_tbl := z_tbl_in (List.mem_of_getElem? (i := 813) (by decide +kernel)) rfl
theorem w_814 : Cond.instanceMethod ⟨"DearLetters$Sums", "readHeapSum", "(LDearLetters$Heap;I)Z"⟩ ∈ z_tbl := z_tbl_in (List.mem_of_getElem? (i := 814) (by decide +kernel)) rfl
theorem w_815 : Cond.selects "DearLetters$Sums" ⟨"DearLetters$Sums", "readHeapSum", "(LDearLetters$Heap;I)Z"⟩ ⟨"DearLetters$Sums", "readHeapSum", "(LDearLetters$Heap;I)Z"⟩ ∈ z_tbl := z_tbl_in (List.mem_of_getElem? (i := 815) (by decide +kernel)) rfl
theorem w_816 : Cond.code ⟨"DearLetters$Sums", "readHeapSum", "(LDearLetters$Heap;I)Z"⟩ prog_11_method_2_code 4 (Option.some FieldType.boolean) ∈ z_tbl := z_tbl_in (List.mem_of_getElem? (i := 816) (by decide +kernel)) rfl
theorem w_817 : Cond.methodLink "DearLetters$Sums" 30 ⟨"DearLetters$Sums", "sum", "(I)Z"⟩ ∈ z_tbl := z_tbl_in (List.mem_of_getElem? (i := 817) (by decide +kernel)) rfl
theorem w_819 : Cond.instanceMethod ⟨"DearLetters$Sums", "sum", "(I)Z"⟩ ∈ z_tbl := z_tbl_in (List.mem_of_getElem? (i := 819) (by decide +kernel)) rfl
theorem w_820 : Cond.code ⟨"DearLetters$Sums", "sum", "(I)Z"⟩ prog_11_method_8_code 5 (Option.some FieldType.boolean) ∈ z_tbl := z_tbl_in (List.mem_of_getElem? (i := 820) (by decide +kernel)) rfl
theorem w_821 : Cond.methodLink "DearLetters$Sums" 73 ⟨"DearLetters$Sums", "product", "(I)Z"⟩ ∈ z_tbl := z_tbl_in (List.mem_of_getElem? (i := 821) (by decide +kernel)) rfl
theorem w_823 : Cond.instanceMethod ⟨"DearLetters$Sums", "product", "(I)Z"⟩ ∈ z_tbl := z_tbl_in (List.mem_of_getElem? (i := 823) (by decide +kernel)) rfl
theorem w_824 : Cond.code ⟨"DearLetters$Sums", "product", "(I)Z"⟩ prog_11_method_9_code 5 (Option.some FieldType.boolean) ∈ z_tbl := z_tbl_in (List.mem_of_getElem? (i := 824) (by decide +kernel)) rfl
theorem w_825 : Cond.methodLink "DearLetters$Sums" 76 ⟨"DearLetters$Sums", "part", "(I)Z"⟩ ∈ z_tbl := z_tbl_in (List.mem_of_getElem? (i := 825) (by decide +kernel)) rfl
theorem w_827 : Cond.instanceMethod ⟨"DearLetters$Sums", "part", "(I)Z"⟩ ∈ z_tbl := z_tbl_in (List.mem_of_getElem? (i := 827) (by decide +kernel)) rfl
theorem w_828 : Cond.code ⟨"DearLetters$Sums", "part", "(I)Z"⟩ prog_11_method_10_code 3 (Option.some FieldType.boolean) ∈ z_tbl := z_tbl_in (List.mem_of_getElem? (i := 828) (by decide +kernel)) rfl
theorem w_829 : Cond.methodLink "DearLetters$Sums" 82 ⟨"DearLetters$Text", "takeNumber", "(II)I"⟩ ∈ z_tbl := z_tbl_in (List.mem_of_getElem? (i := 829) (by decide +kernel)) rfl
theorem w_830 : Cond.methodLink "DearLetters$Sums" 54 ⟨"DearLetters$Code", "add", "(I)V"⟩ ∈ z_tbl := z_tbl_in (List.mem_of_getElem? (i := 830) (by decide +kernel)) rfl
theorem w_831 : Cond.methodLink "DearLetters$Sums" 64 ⟨"DearLetters$Sums", "opens", "(I)Z"⟩ ∈ z_tbl := z_tbl_in (List.mem_of_getElem? (i := 831) (by decide +kernel)) rfl
theorem w_833 : Cond.instanceMethod ⟨"DearLetters$Sums", "opens", "(I)Z"⟩ ∈ z_tbl := z_tbl_in (List.mem_of_getElem? (i := 833) (by decide +kernel)) rfl
theorem w_834 : Cond.code ⟨"DearLetters$Sums", "opens", "(I)Z"⟩ prog_11_method_12_code 2 (Option.some FieldType.boolean) ∈ z_tbl := z_tbl_in (List.mem_of_getElem? (i := 834) (by decide +kernel)) rfl
theorem w_835 : Cond.methodLink "DearLetters$Sums" 70 ⟨"DearLetters$Text", "fail", "(I)Z"⟩ ∈ z_tbl := z_tbl_in (List.mem_of_getElem? (i := 835) (by decide +kernel)) rfl
theorem w_836 : Cond.methodLink "DearLetters$Sums" 51 ⟨"DearLetters$Text", "next", "()V"⟩ ∈ z_tbl := z_tbl_in (List.mem_of_getElem? (i := 836) (by decide +kernel)) rfl
theorem w_837 : Cond.methodLink "DearLetters$Sums" 67 ⟨"DearLetters$Text", "takeSign", "(I)Z"⟩ ∈ z_tbl := z_tbl_in (List.mem_of_getElem? (i := 837) (by decide +kernel)) rfl
theorem w_838 : Cond.instanceMethod ⟨"DearLetters$Text", "takeSign", "(I)Z"⟩ ∈ z_tbl := z_tbl_in (List.mem_of_getElem? (i := 838) (by decide +kernel)) rfl
theorem w_839 : Cond.selects "DearLetters$Text" ⟨"DearLetters$Text", "takeSign", "(I)Z"⟩ ⟨"DearLetters$Text", "takeSign", "(I)Z"⟩ ∈ z_tbl := z_tbl_in (List.mem_of_getElem? (i := 839) (by decide +kernel)) rfl
theorem w_840 : Cond.code ⟨"DearLetters$Text", "takeSign", "(I)Z"⟩ prog_12_method_11_code 2 (Option.some FieldType.boolean) ∈ z_tbl := z_tbl_in (List.mem_of_getElem? (i := 840) (by decide +kernel)) rfl
theorem w_841 : Cond.methodLink "DearLetters$Sums" 89 ⟨"DearLetters$Sums", "choice", "(I)Z"⟩ ∈ z_tbl := z_tbl_in (List.mem_of_getElem? (i := 841) (by decide +kernel)) rfl
theorem w_843 : Cond.instanceMethod ⟨"DearLetters$Sums", "choice", "(I)Z"⟩ ∈ z_tbl := z_tbl_in (List.mem_of_getElem? (i := 843) (by decide +kernel)) rfl
theorem w_844 : Cond.code ⟨"DearLetters$Sums", "choice", "(I)Z"⟩ prog_11_method_11_code 4 (Option.some FieldType.boolean) ∈ z_tbl := z_tbl_in (List.mem_of_getElem? (i := 844) (by decide +kernel)) rfl
theorem w_845 : Cond.methodLink "DearLetters$Sums" 92 ⟨"DearLetters$Sums", "questionValue", "(I)I"⟩ ∈ z_tbl := z_tbl_in (List.mem_of_getElem? (i := 845) (by decide +kernel)) rfl
theorem w_846 : Cond.static ⟨"DearLetters$Sums", "questionValue", "(I)I"⟩ ∈ z_tbl := z_tbl_in (List.mem_of_getElem? (i := 846) (by decide +kernel)) rfl
theorem w_847 : Cond.code ⟨"DearLetters$Sums", "questionValue", "(I)I"⟩ prog_11_method_14_code 1 (Option.some FieldType.int) ∈ z_tbl := z_tbl_in (List.mem_of_getElem? (i := 847) (by decide +kernel)) rfl
theorem w_848 : Cond.methodLink "DearLetters$Sums" 99 ⟨"DearLetters$Sums", "commonValue", "(I)I"⟩ ∈ z_tbl := z_tbl_in (List.mem_of_getElem? (i := 848) (by decide +kernel)) rfl
theorem w_849 : Cond.static ⟨"DearLetters$Sums", "commonValue", "(I)I"⟩ ∈ z_tbl := z_tbl_in (List.mem_of_getElem? (i := 849) (by decide +kernel)) rfl
theorem w_850 : Cond.code ⟨"DearLetters$Sums", "commonValue", "(I)I"⟩ prog_11_method_15_code 1 (Option.some FieldType.int) ∈ z_tbl := z_tbl_in (List.mem_of_getElem? (i := 850) (by decide +kernel)) rfl
theorem w_851 : Cond.methodLink "DearLetters$Sums" 96 ⟨"DearLetters$Sums", "heapValue", "(I)I"⟩ ∈ z_tbl := z_tbl_in (List.mem_of_getElem? (i := 851) (by decide +kernel)) rfl
theorem w_852 : Cond.static ⟨"DearLetters$Sums", "heapValue", "(I)I"⟩ ∈ z_tbl := z_tbl_in (List.mem_of_getElem? (i := 852) (by decide +kernel)) rfl
theorem w_853 : Cond.code ⟨"DearLetters$Sums", "heapValue", "(I)I"⟩ prog_11_method_13_code 1 (Option.some FieldType.int) ∈ z_tbl := z_tbl_in (List.mem_of_getElem? (i := 853) (by decide +kernel)) rfl
theorem w_854 : Cond.methodLink "DearLetters$Sums" 34 ⟨"DearLetters$Heap", "keep", "(ILDearLetters$Code;)V"⟩ ∈ z_tbl := z_tbl_in (List.mem_of_getElem? (i := 854) (by decide +kernel)) rfl
theorem w_855 : Cond.instanceMethod ⟨"DearLetters$Heap", "keep", "(ILDearLetters$Code;)V"⟩ ∈ z_tbl := z_tbl_in (List.mem_of_getElem? (i := 855) (by decide +kernel)) rfl
theorem w_856 : Cond.selects "DearLetters$Heap" ⟨"DearLetters$Heap", "keep", "(ILDearLetters$Code;)V"⟩ ⟨"DearLetters$Heap", "keep", "(ILDearLetters$Code;)V"⟩ ∈ z_tbl := z_tbl_in (List.mem_of_getElem? (i := 856) (by decide +kernel)) rfl
theorem w_857 : Cond.code ⟨"DearLetters$Heap", "keep", "(ILDearLetters$Code;)V"⟩ prog_4_method_3_code 3 none ∈ z_tbl := z_tbl_in (List.mem_of_getElem? (i := 857) (by decide +kernel)) rfl
theorem w_858 : Cond.methodLink "DearLetters$Heap" 89 ⟨"DearLetters$Code", "addAll", "(LDearLetters$Code;)V"⟩ ∈ z_tbl := z_tbl_in (List.mem_of_getElem? (i := 858) (by decide +kernel)) rfl
theorem w_859 : Cond.instanceMethod ⟨"DearLetters$Code", "addAll", "(LDearLetters$Code;)V"⟩ ∈ z_tbl := z_tbl_in (List.mem_of_getElem? (i := 859) (by decide +kernel)) rfl
theorem w_860 : Cond.selects "DearLetters$Code" ⟨"DearLetters$Code", "addAll", "(LDearLetters$Code;)V"⟩ ⟨"DearLetters$Code", "addAll", "(LDearLetters$Code;)V"⟩ ∈ z_tbl := z_tbl_in (List.mem_of_getElem? (i := 860) (by decide +kernel)) rfl
theorem w_861 : Cond.code ⟨"DearLetters$Code", "addAll", "(LDearLetters$Code;)V"⟩ prog_2_method_3_code 3 none ∈ z_tbl := z_tbl_in (List.mem_of_getElem? (i := 861) (by decide +kernel)) rfl
theorem w_862 : Cond.methodLink "DearLetters$Code" 19 ⟨"DearLetters$Code", "add", "(I)V"⟩ ∈ z_tbl := z_tbl_in (List.mem_of_getElem? (i := 862) (by decide +kernel)) rfl
theorem w_863 : Cond.methodLink "DearLetters$HeapReader" 90 ⟨"DearLetters$HeapReader", "wishContent", "()Z"⟩ ∈ z_tbl := z_tbl_in (List.mem_of_getElem? (i := 863) (by decide +kernel)) rfl
theorem w_865 : Cond.instanceMethod ⟨"DearLetters$HeapReader", "wishContent", "()Z"⟩ ∈ z_tbl := z_tbl_in (List.mem_of_getElem? (i := 865) (by decide +kernel)) rfl
theorem w_866 : Cond.code ⟨"DearLetters$HeapReader", "wishContent", "()Z"⟩ prog_5_method_10_code 4 (Option.some FieldType.boolean) ∈ z_tbl := z_tbl_in (List.mem_of_getElem? (i := 866) (by decide +kernel)) rfl
theorem w_867 : Cond.methodLink "DearLetters$HeapReader" 45 ⟨"DearLetters$Text", "takeSign", "(I)Z"⟩ ∈ z_tbl := z_tbl_in (List.mem_of_getElem? (i := 867) (by decide +kernel)) rfl
theorem w_868 : Cond.methodLink "DearLetters" 127 ⟨"DearLetters$State", "begin", "(LDearLetters$Heap;)V"⟩ ∈ z_tbl := z_tbl_in (List.mem_of_getElem? (i := 868) (by decide +kernel)) rfl
theorem w_869 : Cond.instanceMethod ⟨"DearLetters$State", "begin", "(LDearLetters$Heap;)V"⟩ ∈ z_tbl := z_tbl_in (List.mem_of_getElem? (i := 869) (by decide +kernel)) rfl
theorem w_870 : Cond.selects "DearLetters$State" ⟨"DearLetters$State", "begin", "(LDearLetters$Heap;)V"⟩ ⟨"DearLetters$State", "begin", "(LDearLetters$Heap;)V"⟩ ∈ z_tbl := z_tbl_in (List.mem_of_getElem? (i := 870) (by decide +kernel)) rfl
theorem w_871 : Cond.code ⟨"DearLetters$State", "begin", "(LDearLetters$Heap;)V"⟩ prog_10_method_2_code 2 none ∈ z_tbl := z_tbl_in (List.mem_of_getElem? (i := 871) (by decide +kernel)) rfl
theorem w_872 : Cond.methodLink "DearLetters$State" 43 ⟨"java/lang/System", "arraycopy", "(Ljava/lang/Object;ILjava/lang/Object;II)V"⟩ ∈ z_tbl := z_tbl_in (List.mem_of_getElem? (i := 872) (by decide +kernel)) rfl
theorem w_873 : Cond.static ⟨"java/lang/System", "arraycopy", "(Ljava/lang/Object;ILjava/lang/Object;II)V"⟩ ∈ z_tbl := z_tbl_in (List.mem_of_getElem? (i := 873) (by decide +kernel)) rfl
theorem w_874 : Cond.native ⟨"java/lang/System", "arraycopy", "(Ljava/lang/Object;ILjava/lang/Object;II)V"⟩ ∈ z_tbl := z_tbl_in (List.mem_of_getElem? (i := 874) (by decide +kernel)) rfl
theorem w_875 : Cond.methodLink "DearLetters$State" 49 ⟨"DearLetters$State", "rest", "(LDearLetters$Heap;)V"⟩ ∈ z_tbl := z_tbl_in (List.mem_of_getElem? (i := 875) (by decide +kernel)) rfl
theorem w_876 : Cond.instanceMethod ⟨"DearLetters$State", "rest", "(LDearLetters$Heap;)V"⟩ ∈ z_tbl := z_tbl_in (List.mem_of_getElem? (i := 876) (by decide +kernel)) rfl
theorem w_877 : Cond.selects "DearLetters$State" ⟨"DearLetters$State", "rest", "(LDearLetters$Heap;)V"⟩ ⟨"DearLetters$State", "rest", "(LDearLetters$Heap;)V"⟩ ∈ z_tbl := z_tbl_in (List.mem_of_getElem? (i := 877) (by decide +kernel)) rfl
theorem w_878 : Cond.code ⟨"DearLetters$State", "rest", "(LDearLetters$Heap;)V"⟩ prog_10_method_3_code 2 none ∈ z_tbl := z_tbl_in (List.mem_of_getElem? (i := 878) (by decide +kernel)) rfl
theorem w_887 : Cond.methodLink "DearLetters" 152 ⟨"DearLetters$State", "countDone", "()I"⟩ ∈ z_tbl := z_tbl_in (List.mem_of_getElem? (i := 887) (by decide +kernel)) rfl
theorem w_888 : Cond.instanceMethod ⟨"DearLetters$State", "countDone", "()I"⟩ ∈ z_tbl := z_tbl_in (List.mem_of_getElem? (i := 888) (by decide +kernel)) rfl
theorem w_889 : Cond.selects "DearLetters$State" ⟨"DearLetters$State", "countDone", "()I"⟩ ⟨"DearLetters$State", "countDone", "()I"⟩ ∈ z_tbl := z_tbl_in (List.mem_of_getElem? (i := 889) (by decide +kernel)) rfl
theorem w_890 : Cond.code ⟨"DearLetters$State", "countDone", "()I"⟩ prog_10_method_5_code 1 (Option.some FieldType.int) ∈ z_tbl := z_tbl_in (List.mem_of_getElem? (i := 890) (by decide +kernel)) rfl
theorem w_891 : Cond.methodLink "DearLetters$State" 56 ⟨"DearLetters$State", "countOf", "([II)I"⟩ ∈ z_tbl := z_tbl_in (List.mem_of_getElem? (i := 891) (by decide +kernel)) rfl
theorem w_892 : Cond.static ⟨"DearLetters$State", "countOf", "([II)I"⟩ ∈ z_tbl := z_tbl_in (List.mem_of_getElem? (i := 892) (by decide +kernel)) rfl
theorem w_893 : Cond.code ⟨"DearLetters$State", "countOf", "([II)I"⟩ prog_10_method_13_code 7 (Option.some FieldType.int) ∈ z_tbl := z_tbl_in (List.mem_of_getElem? (i := 893) (by decide +kernel)) rfl
theorem w_894 : Cond.methodLink "DearLetters" 156 ⟨"DearLetters$State", "countSheets", "()I"⟩ ∈ z_tbl := z_tbl_in (List.mem_of_getElem? (i := 894) (by decide +kernel)) rfl
theorem w_895 : Cond.instanceMethod ⟨"DearLetters$State", "countSheets", "()I"⟩ ∈ z_tbl := z_tbl_in (List.mem_of_getElem? (i := 895) (by decide +kernel)) rfl
theorem w_896 : Cond.selects "DearLetters$State" ⟨"DearLetters$State", "countSheets", "()I"⟩ ⟨"DearLetters$State", "countSheets", "()I"⟩ ∈ z_tbl := z_tbl_in (List.mem_of_getElem? (i := 896) (by decide +kernel)) rfl
theorem w_897 : Cond.code ⟨"DearLetters$State", "countSheets", "()I"⟩ prog_10_method_6_code 1 (Option.some FieldType.int) ∈ z_tbl := z_tbl_in (List.mem_of_getElem? (i := 897) (by decide +kernel)) rfl
theorem w_898 : Cond.methodLink "DearLetters" 159 ⟨"DearLetters$State", "countGiven", "()I"⟩ ∈ z_tbl := z_tbl_in (List.mem_of_getElem? (i := 898) (by decide +kernel)) rfl
theorem w_899 : Cond.instanceMethod ⟨"DearLetters$State", "countGiven", "()I"⟩ ∈ z_tbl := z_tbl_in (List.mem_of_getElem? (i := 899) (by decide +kernel)) rfl
theorem w_900 : Cond.selects "DearLetters$State" ⟨"DearLetters$State", "countGiven", "()I"⟩ ⟨"DearLetters$State", "countGiven", "()I"⟩ ∈ z_tbl := z_tbl_in (List.mem_of_getElem? (i := 900) (by decide +kernel)) rfl
theorem w_901 : Cond.code ⟨"DearLetters$State", "countGiven", "()I"⟩ prog_10_method_7_code 1 (Option.some FieldType.int) ∈ z_tbl := z_tbl_in (List.mem_of_getElem? (i := 901) (by decide +kernel)) rfl
theorem w_902 : Cond.methodLink "DearLetters" 162 ⟨"DearLetters$State", "countLeft", "()I"⟩ ∈ z_tbl := z_tbl_in (List.mem_of_getElem? (i := 902) (by decide +kernel)) rfl
theorem w_903 : Cond.instanceMethod ⟨"DearLetters$State", "countLeft", "()I"⟩ ∈ z_tbl := z_tbl_in (List.mem_of_getElem? (i := 903) (by decide +kernel)) rfl
theorem w_904 : Cond.selects "DearLetters$State" ⟨"DearLetters$State", "countLeft", "()I"⟩ ⟨"DearLetters$State", "countLeft", "()I"⟩ ∈ z_tbl := z_tbl_in (List.mem_of_getElem? (i := 904) (by decide +kernel)) rfl
theorem w_905 : Cond.code ⟨"DearLetters$State", "countLeft", "()I"⟩ prog_10_method_8_code 6 (Option.some FieldType.int) ∈ z_tbl := z_tbl_in (List.mem_of_getElem? (i := 905) (by decide +kernel)) rfl
theorem w_914 : Cond.methodLink "DearLetters" 169 ⟨"DearLetters", "isLetter", "(I)Z"⟩ ∈ z_tbl := z_tbl_in (List.mem_of_getElem? (i := 914) (by decide +kernel)) rfl
theorem w_916 : Cond.instanceMethod ⟨"DearLetters", "isLetter", "(I)Z"⟩ ∈ z_tbl := z_tbl_in (List.mem_of_getElem? (i := 916) (by decide +kernel)) rfl
theorem w_917 : Cond.code ⟨"DearLetters", "isLetter", "(I)Z"⟩ prog_1_method_39_code 2 (Option.some FieldType.boolean) ∈ z_tbl := z_tbl_in (List.mem_of_getElem? (i := 917) (by decide +kernel)) rfl
theorem w_918 : Cond.methodLink "DearLetters" 190 ⟨"DearLetters$Heap", "allWishes", "(I)I"⟩ ∈ z_tbl := z_tbl_in (List.mem_of_getElem? (i := 918) (by decide +kernel)) rfl
theorem w_919 : Cond.instanceMethod ⟨"DearLetters$Heap", "allWishes", "(I)I"⟩ ∈ z_tbl := z_tbl_in (List.mem_of_getElem? (i := 919) (by decide +kernel)) rfl
theorem w_920 : Cond.selects "DearLetters$Heap" ⟨"DearLetters$Heap", "allWishes", "(I)I"⟩ ⟨"DearLetters$Heap", "allWishes", "(I)I"⟩ ∈ z_tbl := z_tbl_in (List.mem_of_getElem? (i := 920) (by decide +kernel)) rfl
theorem w_921 : Cond.code ⟨"DearLetters$Heap", "allWishes", "(I)I"⟩ prog_4_method_6_code 4 (Option.some FieldType.int) ∈ z_tbl := z_tbl_in (List.mem_of_getElem? (i := 921) (by decide +kernel)) rfl
theorem w_926 : Cond.methodLink "DearLetters" 196 ⟨"DearLetters", "isGift", "(I)Z"⟩ ∈ z_tbl := z_tbl_in (List.mem_of_getElem? (i := 926) (by decide +kernel)) rfl
theorem w_928 : Cond.instanceMethod ⟨"DearLetters", "isGift", "(I)Z"⟩ ∈ z_tbl := z_tbl_in (List.mem_of_getElem? (i := 928) (by decide +kernel)) rfl
theorem w_929 : Cond.code ⟨"DearLetters", "isGift", "(I)Z"⟩ prog_1_method_40_code 2 (Option.some FieldType.boolean) ∈ z_tbl := z_tbl_in (List.mem_of_getElem? (i := 929) (by decide +kernel)) rfl
theorem w_934 : Cond.methodLink "DearLetters" 205 ⟨"DearLetters", "isHelper", "(I)Z"⟩ ∈ z_tbl := z_tbl_in (List.mem_of_getElem? (i := 934) (by decide +kernel)) rfl
theorem w_936 : Cond.instanceMethod ⟨"DearLetters", "isHelper", "(I)Z"⟩ ∈ z_tbl := z_tbl_in (List.mem_of_getElem? (i := 936) (by decide +kernel)) rfl
theorem w_937 : Cond.code ⟨"DearLetters", "isHelper", "(I)Z"⟩ prog_1_method_41_code 2 (Option.some FieldType.boolean) ∈ z_tbl := z_tbl_in (List.mem_of_getElem? (i := 937) (by decide +kernel)) rfl
theorem w_938 : Cond.methodLink "DearLetters" 220 ⟨"DearLetters$State", "doneByHelper", "(I)I"⟩ ∈ z_tbl := z_tbl_in (List.mem_of_getElem? (i := 938) (by decide +kernel)) rfl
theorem w_939 : Cond.instanceMethod ⟨"DearLetters$State", "doneByHelper", "(I)I"⟩ ∈ z_tbl := z_tbl_in (List.mem_of_getElem? (i := 939) (by decide +kernel)) rfl
theorem w_940 : Cond.selects "DearLetters$State" ⟨"DearLetters$State", "doneByHelper", "(I)I"⟩ ⟨"DearLetters$State", "doneByHelper", "(I)I"⟩ ∈ z_tbl := z_tbl_in (List.mem_of_getElem? (i := 940) (by decide +kernel)) rfl
theorem w_941 : Cond.code ⟨"DearLetters$State", "doneByHelper", "(I)I"⟩ prog_10_method_9_code 4 (Option.some FieldType.int) ∈ z_tbl := z_tbl_in (List.mem_of_getElem? (i := 941) (by decide +kernel)) rfl
theorem w_946 : Cond.methodLink "DearLetters" 223 ⟨"DearLetters$Machine", "timeOf", "(LDearLetters$Heap;LDearLetters$State;II)I"⟩ ∈ z_tbl := z_tbl_in (List.mem_of_getElem? (i := 946) (by decide +kernel)) rfl
theorem w_947 : Cond.instanceMethod ⟨"DearLetters$Machine", "timeOf", "(LDearLetters$Heap;LDearLetters$State;II)I"⟩ ∈ z_tbl := z_tbl_in (List.mem_of_getElem? (i := 947) (by decide +kernel)) rfl
theorem w_948 : Cond.selects "DearLetters$Machine" ⟨"DearLetters$Machine", "timeOf", "(LDearLetters$Heap;LDearLetters$State;II)I"⟩ ⟨"DearLetters$Machine", "timeOf", "(LDearLetters$Heap;LDearLetters$State;II)I"⟩ ∈ z_tbl := z_tbl_in (List.mem_of_getElem? (i := 948) (by decide +kernel)) rfl
theorem w_949 : Cond.code ⟨"DearLetters$Machine", "timeOf", "(LDearLetters$Heap;LDearLetters$State;II)I"⟩ prog_6_method_2_code 6 (Option.some FieldType.int) ∈ z_tbl := z_tbl_in (List.mem_of_getElem? (i := 949) (by decide +kernel)) rfl
theorem w_950 : Cond.methodLink "DearLetters$Machine" 21 ⟨"DearLetters$Machine", "lookAt", "(LDearLetters$Heap;LDearLetters$State;I)V"⟩ ∈ z_tbl := z_tbl_in (List.mem_of_getElem? (i := 950) (by decide +kernel)) rfl
theorem w_952 : Cond.instanceMethod ⟨"DearLetters$Machine", "lookAt", "(LDearLetters$Heap;LDearLetters$State;I)V"⟩ ∈ z_tbl := z_tbl_in (List.mem_of_getElem? (i := 952) (by decide +kernel)) rfl
theorem w_953 : Cond.code ⟨"DearLetters$Machine", "lookAt", "(LDearLetters$Heap;LDearLetters$State;I)V"⟩ prog_6_method_6_code 4 none ∈ z_tbl := z_tbl_in (List.mem_of_getElem? (i := 953) (by decide +kernel)) rfl
theorem w_954 : Cond.methodLink "DearLetters$Machine" 81 ⟨"java/lang/System", "arraycopy", "(Ljava/lang/Object;ILjava/lang/Object;II)V"⟩ ∈ z_tbl := z_tbl_in (List.mem_of_getElem? (i := 954) (by decide +kernel)) rfl
theorem w_955 : Cond.methodLink "DearLetters$Machine" 93 ⟨"DearLetters$Heap", "allWishes", "(I)I"⟩ ∈ z_tbl := z_tbl_in (List.mem_of_getElem? (i := 955) (by decide +kernel)) rfl
theorem w_956 : Cond.methodLink "DearLetters$Machine" 40 ⟨"DearLetters$Machine", "run", "(LDearLetters$Code;II)I"⟩ ∈ z_tbl := z_tbl_in (List.mem_of_getElem? (i := 956) (by decide +kernel)) rfl
theorem w_958 : Cond.instanceMethod ⟨"DearLetters$Machine", "run", "(LDearLetters$Code;II)I"⟩ ∈ z_tbl := z_tbl_in (List.mem_of_getElem? (i := 958) (by decide +kernel)) rfl
theorem w_959 : Cond.code ⟨"DearLetters$Machine", "run", "(LDearLetters$Code;II)I"⟩ prog_6_method_7_code 7 (Option.some FieldType.int) ∈ z_tbl := z_tbl_in (List.mem_of_getElem? (i := 959) (by decide +kernel)) rfl
theorem w_960 : Cond.methodLink "DearLetters$Machine" 112 ⟨"DearLetters$Machine", "push", "(I)V"⟩ ∈ z_tbl := z_tbl_in (List.mem_of_getElem? (i := 960) (by decide +kernel)) rfl
theorem w_962 : Cond.instanceMethod ⟨"DearLetters$Machine", "push", "(I)V"⟩ ∈ z_tbl := z_tbl_in (List.mem_of_getElem? (i := 962) (by decide +kernel)) rfl
theorem w_963 : Cond.code ⟨"DearLetters$Machine", "push", "(I)V"⟩ prog_6_method_8_code 2 none ∈ z_tbl := z_tbl_in (List.mem_of_getElem? (i := 963) (by decide +kernel)) rfl
theorem w_964 : Cond.methodLink "DearLetters$Machine" 116 ⟨"DearLetters$Machine", "pop", "()I"⟩ ∈ z_tbl := z_tbl_in (List.mem_of_getElem? (i := 964) (by decide +kernel)) rfl
theorem w_966 : Cond.instanceMethod ⟨"DearLetters$Machine", "pop", "()I"⟩ ∈ z_tbl := z_tbl_in (List.mem_of_getElem? (i := 966) (by decide +kernel)) rfl
theorem w_967 : Cond.code ⟨"DearLetters$Machine", "pop", "()I"⟩ prog_6_method_9_code 1 (Option.some FieldType.int) ∈ z_tbl := z_tbl_in (List.mem_of_getElem? (i := 967) (by decide +kernel)) rfl
theorem w_968 : Cond.methodLink "DearLetters$Machine" 120 ⟨"DearLetters$Machine", "pair", "(III)I"⟩ ∈ z_tbl := z_tbl_in (List.mem_of_getElem? (i := 968) (by decide +kernel)) rfl
theorem w_969 : Cond.static ⟨"DearLetters$Machine", "pair", "(III)I"⟩ ∈ z_tbl := z_tbl_in (List.mem_of_getElem? (i := 969) (by decide +kernel)) rfl
theorem w_970 : Cond.code ⟨"DearLetters$Machine", "pair", "(III)I"⟩ prog_6_method_11_code 3 (Option.some FieldType.int) ∈ z_tbl := z_tbl_in (List.mem_of_getElem? (i := 970) (by decide +kernel)) rfl
theorem w_971 : Cond.methodLink "DearLetters$Machine" 127 ⟨"DearLetters$Machine", "kept", "(J)I"⟩ ∈ z_tbl := z_tbl_in (List.mem_of_getElem? (i := 971) (by decide +kernel)) rfl
theorem w_972 : Cond.static ⟨"DearLetters$Machine", "kept", "(J)I"⟩ ∈ z_tbl := z_tbl_in (List.mem_of_getElem? (i := 972) (by decide +kernel)) rfl
theorem w_973 : Cond.code ⟨"DearLetters$Machine", "kept", "(J)I"⟩ prog_6_method_12_code 2 (Option.some FieldType.int) ∈ z_tbl := z_tbl_in (List.mem_of_getElem? (i := 973) (by decide +kernel)) rfl
theorem w_974 : Cond.constantLong "DearLetters$Machine" 134 (1000000) ∈ z_tbl := z_tbl_in (List.mem_of_getElem? (i := 974) (by decide +kernel)) rfl
theorem w_975 : Cond.constant "DearLetters$Machine" 136 (1000000) ∈ z_tbl := z_tbl_in (List.mem_of_getElem? (i := 975) (by decide +kernel)) rfl
theorem w_976 : Cond.constantLong "DearLetters$Machine" 137 (-1000000) ∈ z_tbl := z_tbl_in (List.mem_of_getElem? (i := 976) (by decide +kernel)) rfl
theorem w_977 : Cond.constant "DearLetters$Machine" 139 (-1000000) ∈ z_tbl := z_tbl_in (List.mem_of_getElem? (i := 977) (by decide +kernel)) rfl
theorem w_978 : Cond.methodLink "DearLetters$Machine" 131 ⟨"java/lang/Math", "floorDiv", "(II)I"⟩ ∈ z_tbl := z_tbl_in (List.mem_of_getElem? (i := 978) (by decide +kernel)) rfl
theorem w_979 : Cond.static ⟨"java/lang/Math", "floorDiv", "(II)I"⟩ ∈ z_tbl := z_tbl_in (List.mem_of_getElem? (i := 979) (by decide +kernel)) rfl
theorem w_980 : Cond.code ⟨"java/lang/Math", "floorDiv", "(II)I"⟩ prog_15_method_47_code 3 (Option.some FieldType.int) ∈ z_tbl := z_tbl_in (List.mem_of_getElem? (i := 980) (by decide +kernel)) rfl
theorem w_981 : Cond.methodLink "DearLetters$Machine" 124 ⟨"DearLetters$Machine", "wishOf", "(I)I"⟩ ∈ z_tbl := z_tbl_in (List.mem_of_getElem? (i := 981) (by decide +kernel)) rfl
theorem w_983 : Cond.instanceMethod ⟨"DearLetters$Machine", "wishOf", "(I)I"⟩ ∈ z_tbl := z_tbl_in (List.mem_of_getElem? (i := 983) (by decide +kernel)) rfl
theorem w_984 : Cond.code ⟨"DearLetters$Machine", "wishOf", "(I)I"⟩ prog_6_method_10_code 2 (Option.some FieldType.int) ∈ z_tbl := z_tbl_in (List.mem_of_getElem? (i := 984) (by decide +kernel)) rfl
theorem w_985 : Cond.methodLink "DearLetters$Machine" 44 ⟨"java/lang/Math", "min", "(II)I"⟩ ∈ z_tbl := z_tbl_in (List.mem_of_getElem? (i := 985) (by decide +kernel)) rfl
theorem w_986 : Cond.static ⟨"java/lang/Math", "min", "(II)I"⟩ ∈ z_tbl := z_tbl_in (List.mem_of_getElem? (i := 986) (by decide +kernel)) rfl
theorem w_987 : Cond.code ⟨"java/lang/Math", "min", "(II)I"⟩ prog_15_method_69_code 2 (Option.some FieldType.int) ∈ z_tbl := z_tbl_in (List.mem_of_getElem? (i := 987) (by decide +kernel)) rfl
theorem w_988 : Cond.methodLink "DearLetters$Machine" 50 ⟨"java/lang/Math", "max", "(II)I"⟩ ∈ z_tbl := z_tbl_in (List.mem_of_getElem? (i := 988) (by decide +kernel)) rfl
theorem w_989 : Cond.static ⟨"java/lang/Math", "max", "(II)I"⟩ ∈ z_tbl := z_tbl_in (List.mem_of_getElem? (i := 989) (by decide +kernel)) rfl
theorem w_990 : Cond.code ⟨"java/lang/Math", "max", "(II)I"⟩ prog_15_method_65_code 2 (Option.some FieldType.int) ∈ z_tbl := z_tbl_in (List.mem_of_getElem? (i := 990) (by decide +kernel)) rfl
theorem w_995 : Cond.constantLong "DearLetters" 227 (-1000000000000000) ∈ z_tbl := z_tbl_in (List.mem_of_getElem? (i := 995) (by decide +kernel)) rfl
theorem w_996 : Cond.methodLink "DearLetters" 229 ⟨"DearLetters$Machine", "warmthOf", "(LDearLetters$Heap;LDearLetters$State;II)I"⟩ ∈ z_tbl := z_tbl_in (List.mem_of_getElem? (i := 996) (by decide +kernel)) rfl
theorem w_997 : Cond.instanceMethod ⟨"DearLetters$Machine", "warmthOf", "(LDearLetters$Heap;LDearLetters$State;II)I"⟩ ∈ z_tbl := z_tbl_in (List.mem_of_getElem? (i := 997) (by decide +kernel)) rfl
theorem w_998 : Cond.selects "DearLetters$Machine" ⟨"DearLetters$Machine", "warmthOf", "(LDearLetters$Heap;LDearLetters$State;II)I"⟩ ⟨"DearLetters$Machine", "warmthOf", "(LDearLetters$Heap;LDearLetters$State;II)I"⟩ ∈ z_tbl := z_tbl_in (List.mem_of_getElem? (i := 998) (by decide +kernel)) rfl
theorem w_999 : Cond.code ⟨"DearLetters$Machine", "warmthOf", "(LDearLetters$Heap;LDearLetters$State;II)I"⟩ prog_6_method_3_code 5 (Option.some FieldType.int) ∈ z_tbl := z_tbl_in (List.mem_of_getElem? (i := 999) (by decide +kernel)) rfl
theorem w_1004 : Cond.methodLink "DearLetters" 232 ⟨"DearLetters$Machine", "timeIfAble", "(LDearLetters$Heap;LDearLetters$State;II)I"⟩ ∈ z_tbl := z_tbl_in (List.mem_of_getElem? (i := 1004) (by decide +kernel)) rfl
theorem w_1005 : Cond.instanceMethod ⟨"DearLetters$Machine", "timeIfAble", "(LDearLetters$Heap;LDearLetters$State;II)I"⟩ ∈ z_tbl := z_tbl_in (List.mem_of_getElem? (i := 1005) (by decide +kernel)) rfl
theorem w_1006 : Cond.selects "DearLetters$Machine" ⟨"DearLetters$Machine", "timeIfAble", "(LDearLetters$Heap;LDearLetters$State;II)I"⟩ ⟨"DearLetters$Machine", "timeIfAble", "(LDearLetters$Heap;LDearLetters$State;II)I"⟩ ∈ z_tbl := z_tbl_in (List.mem_of_getElem? (i := 1006) (by decide +kernel)) rfl
theorem w_1007 : Cond.code ⟨"DearLetters$Machine", "timeIfAble", "(LDearLetters$Heap;LDearLetters$State;II)I"⟩ prog_6_method_4_code 6 (Option.some FieldType.int) ∈ z_tbl := z_tbl_in (List.mem_of_getElem? (i := 1007) (by decide +kernel)) rfl
theorem w_1008 : Cond.methodLink "DearLetters$Machine" 67 ⟨"DearLetters$Machine", "timeOf", "(LDearLetters$Heap;LDearLetters$State;II)I"⟩ ∈ z_tbl := z_tbl_in (List.mem_of_getElem? (i := 1008) (by decide +kernel)) rfl
theorem w_1013 : Cond.methodLink "DearLetters" 235 ⟨"DearLetters$Evening", "plan", "(LDearLetters$Heap;LDearLetters$State;)V"⟩ ∈ z_tbl := z_tbl_in (List.mem_of_getElem? (i := 1013) (by decide +kernel)) rfl
theorem w_1014 : Cond.instanceMethod ⟨"DearLetters$Evening", "plan", "(LDearLetters$Heap;LDearLetters$State;)V"⟩ ∈ z_tbl := z_tbl_in (List.mem_of_getElem? (i := 1014) (by decide +kernel)) rfl
theorem w_1015 : Cond.selects "DearLetters$Evening" ⟨"DearLetters$Evening", "plan", "(LDearLetters$Heap;LDearLetters$State;)V"⟩ ⟨"DearLetters$Evening", "plan", "(LDearLetters$Heap;LDearLetters$State;)V"⟩ ∈ z_tbl := z_tbl_in (List.mem_of_getElem? (i := 1015) (by decide +kernel)) rfl
theorem w_1016 : Cond.code ⟨"DearLetters$Evening", "plan", "(LDearLetters$Heap;LDearLetters$State;)V"⟩ prog_3_method_2_code 8 none ∈ z_tbl := z_tbl_in (List.mem_of_getElem? (i := 1016) (by decide +kernel)) rfl
theorem w_1017 : Cond.methodLink "DearLetters$Evening" 44 ⟨"DearLetters$Evening", "weigh", "(LDearLetters$Heap;LDearLetters$State;II)Z"⟩ ∈ z_tbl := z_tbl_in (List.mem_of_getElem? (i := 1017) (by decide +kernel)) rfl
theorem w_1019 : Cond.instanceMethod ⟨"DearLetters$Evening", "weigh", "(LDearLetters$Heap;LDearLetters$State;II)Z"⟩ ∈ z_tbl := z_tbl_in (List.mem_of_getElem? (i := 1019) (by decide +kernel)) rfl
theorem w_1020 : Cond.code ⟨"DearLetters$Evening", "weigh", "(LDearLetters$Heap;LDearLetters$State;II)Z"⟩ prog_3_method_4_code 12 (Option.some FieldType.boolean) ∈ z_tbl := z_tbl_in (List.mem_of_getElem? (i := 1020) (by decide +kernel)) rfl
theorem w_1021 : Cond.methodLink "DearLetters$Evening" 90 ⟨"DearLetters$Machine", "timeIfAble", "(LDearLetters$Heap;LDearLetters$State;II)I"⟩ ∈ z_tbl := z_tbl_in (List.mem_of_getElem? (i := 1021) (by decide +kernel)) rfl
theorem w_1022 : Cond.methodLink "DearLetters$Evening" 96 ⟨"DearLetters$Machine", "warmthOf", "(LDearLetters$Heap;LDearLetters$State;II)I"⟩ ∈ z_tbl := z_tbl_in (List.mem_of_getElem? (i := 1022) (by decide +kernel)) rfl
theorem w_1023 : Cond.methodLink "DearLetters$Evening" 99 ⟨"DearLetters$Evening", "rowShift", "(I)I"⟩ ∈ z_tbl := z_tbl_in (List.mem_of_getElem? (i := 1023) (by decide +kernel)) rfl
theorem w_1024 : Cond.static ⟨"DearLetters$Evening", "rowShift", "(I)I"⟩ ∈ z_tbl := z_tbl_in (List.mem_of_getElem? (i := 1024) (by decide +kernel)) rfl
theorem w_1025 : Cond.code ⟨"DearLetters$Evening", "rowShift", "(I)I"⟩ prog_3_method_8_code 1 (Option.some FieldType.int) ∈ z_tbl := z_tbl_in (List.mem_of_getElem? (i := 1025) (by decide +kernel)) rfl
theorem w_1026 : Cond.constantLong "DearLetters$Evening" 103 (268435456) ∈ z_tbl := z_tbl_in (List.mem_of_getElem? (i := 1026) (by decide +kernel)) rfl
theorem w_1027 : Cond.constantLong "DearLetters$Evening" 48 (-1) ∈ z_tbl := z_tbl_in (List.mem_of_getElem? (i := 1027) (by decide +kernel)) rfl
theorem w_1028 : Cond.methodLink "DearLetters$Evening" 50 ⟨"java/util/Arrays", "fill", "([JIIJ)V"⟩ ∈ z_tbl := z_tbl_in (List.mem_of_getElem? (i := 1028) (by decide +kernel)) rfl
theorem w_1029 : Cond.static ⟨"java/util/Arrays", "fill", "([JIIJ)V"⟩ ∈ z_tbl := z_tbl_in (List.mem_of_getElem? (i := 1029) (by decide +kernel)) rfl
theorem w_1030 : Cond.code ⟨"java/util/Arrays", "fill", "([JIIJ)V"⟩ prog_20_method_102_code 6 none ∈ z_tbl := z_tbl_in (List.mem_of_getElem? (i := 1030) (by decide +kernel)) rfl
theorem w_1031 : Cond.methodLink "java/util/Arrays" 13 ⟨"java/util/Arrays", "rangeCheck", "(III)V"⟩ ∈ z_tbl := z_tbl_in (List.mem_of_getElem? (i := 1031) (by decide +kernel)) rfl
theorem w_1032 : Cond.static ⟨"java/util/Arrays", "rangeCheck", "(III)V"⟩ ∈ z_tbl := z_tbl_in (List.mem_of_getElem? (i := 1032) (by decide +kernel)) rfl
theorem w_1033 : Cond.code ⟨"java/util/Arrays", "rangeCheck", "(III)V"⟩ prog_20_method_30_code 3 none ∈ z_tbl := z_tbl_in (List.mem_of_getElem? (i := 1033) (by decide +kernel)) rfl
theorem w_1034 : Cond.methodLink "DearLetters$Evening" 61 ⟨"DearLetters$Evening", "price", "(III)V"⟩ ∈ z_tbl := z_tbl_in (List.mem_of_getElem? (i := 1034) (by decide +kernel)) rfl
theorem w_1036 : Cond.instanceMethod ⟨"DearLetters$Evening", "price", "(III)V"⟩ ∈ z_tbl := z_tbl_in (List.mem_of_getElem? (i := 1036) (by decide +kernel)) rfl
theorem w_1037 : Cond.code ⟨"DearLetters$Evening", "price", "(III)V"⟩ prog_3_method_5_code 9 none ∈ z_tbl := z_tbl_in (List.mem_of_getElem? (i := 1037) (by decide +kernel)) rfl
theorem w_1038 : Cond.methodLink "DearLetters$Evening" 65 ⟨"DearLetters$Evening", "spread", "(I)V"⟩ ∈ z_tbl := z_tbl_in (List.mem_of_getElem? (i := 1038) (by decide +kernel)) rfl
theorem w_1040 : Cond.instanceMethod ⟨"DearLetters$Evening", "spread", "(I)V"⟩ ∈ z_tbl := z_tbl_in (List.mem_of_getElem? (i := 1040) (by decide +kernel)) rfl
theorem w_1041 : Cond.code ⟨"DearLetters$Evening", "spread", "(I)V"⟩ prog_3_method_6_code 5 none ∈ z_tbl := z_tbl_in (List.mem_of_getElem? (i := 1041) (by decide +kernel)) rfl
theorem w_1042 : Cond.methodLink "DearLetters$Evening" 69 ⟨"java/lang/Math", "max", "(JJ)J"⟩ ∈ z_tbl := z_tbl_in (List.mem_of_getElem? (i := 1042) (by decide +kernel)) rfl
theorem w_1043 : Cond.static ⟨"java/lang/Math", "max", "(JJ)J"⟩ ∈ z_tbl := z_tbl_in (List.mem_of_getElem? (i := 1043) (by decide +kernel)) rfl
theorem w_1044 : Cond.code ⟨"java/lang/Math", "max", "(JJ)J"⟩ prog_15_method_66_code 4 (Option.some FieldType.long) ∈ z_tbl := z_tbl_in (List.mem_of_getElem? (i := 1044) (by decide +kernel)) rfl
theorem w_1045 : Cond.methodLink "DearLetters$Evening" 75 ⟨"DearLetters$Evening", "readOff", "(J)V"⟩ ∈ z_tbl := z_tbl_in (List.mem_of_getElem? (i := 1045) (by decide +kernel)) rfl
theorem w_1047 : Cond.instanceMethod ⟨"DearLetters$Evening", "readOff", "(J)V"⟩ ∈ z_tbl := z_tbl_in (List.mem_of_getElem? (i := 1047) (by decide +kernel)) rfl
theorem w_1048 : Cond.code ⟨"DearLetters$Evening", "readOff", "(J)V"⟩ prog_3_method_7_code 5 none ∈ z_tbl := z_tbl_in (List.mem_of_getElem? (i := 1048) (by decide +kernel)) rfl
theorem w_1049 : Cond.constantLong "DearLetters$Evening" 105 (65535) ∈ z_tbl := z_tbl_in (List.mem_of_getElem? (i := 1049) (by decide +kernel)) rfl
theorem w_1058 : Cond.methodLink "DearLetters" 249 ⟨"DearLetters$State", "copyFrom", "(LDearLetters$State;)V"⟩ ∈ z_tbl := z_tbl_in (List.mem_of_getElem? (i := 1058) (by decide +kernel)) rfl
theorem w_1059 : Cond.instanceMethod ⟨"DearLetters$State", "copyFrom", "(LDearLetters$State;)V"⟩ ∈ z_tbl := z_tbl_in (List.mem_of_getElem? (i := 1059) (by decide +kernel)) rfl
theorem w_1060 : Cond.selects "DearLetters$State" ⟨"DearLetters$State", "copyFrom", "(LDearLetters$State;)V"⟩ ⟨"DearLetters$State", "copyFrom", "(LDearLetters$State;)V"⟩ ∈ z_tbl := z_tbl_in (List.mem_of_getElem? (i := 1060) (by decide +kernel)) rfl
theorem w_1061 : Cond.code ⟨"DearLetters$State", "copyFrom", "(LDearLetters$State;)V"⟩ prog_10_method_4_code 2 none ∈ z_tbl := z_tbl_in (List.mem_of_getElem? (i := 1061) (by decide +kernel)) rfl
theorem w_1062 : Cond.methodLink "DearLetters" 253 ⟨"DearLetters$Evening", "close", "(LDearLetters$Heap;LDearLetters$State;)V"⟩ ∈ z_tbl := z_tbl_in (List.mem_of_getElem? (i := 1062) (by decide +kernel)) rfl
theorem w_1063 : Cond.instanceMethod ⟨"DearLetters$Evening", "close", "(LDearLetters$Heap;LDearLetters$State;)V"⟩ ∈ z_tbl := z_tbl_in (List.mem_of_getElem? (i := 1063) (by decide +kernel)) rfl
theorem w_1064 : Cond.selects "DearLetters$Evening" ⟨"DearLetters$Evening", "close", "(LDearLetters$Heap;LDearLetters$State;)V"⟩ ⟨"DearLetters$Evening", "close", "(LDearLetters$Heap;LDearLetters$State;)V"⟩ ∈ z_tbl := z_tbl_in (List.mem_of_getElem? (i := 1064) (by decide +kernel)) rfl
theorem w_1065 : Cond.code ⟨"DearLetters$Evening", "close", "(LDearLetters$Heap;LDearLetters$State;)V"⟩ prog_3_method_3_code 4 none ∈ z_tbl := z_tbl_in (List.mem_of_getElem? (i := 1065) (by decide +kernel)) rfl
theorem w_1066 : Cond.methodLink "DearLetters$Evening" 86 ⟨"DearLetters$State", "rest", "(LDearLetters$Heap;)V"⟩ ∈ z_tbl := z_tbl_in (List.mem_of_getElem? (i := 1066) (by decide +kernel)) rfl
theorem w_1071 : Cond.methodLink "DearLetters" 256 ⟨"java/lang/Math", "min", "(II)I"⟩ ∈ z_tbl := z_tbl_in (List.mem_of_getElem? (i := 1071) (by decide +kernel)) rfl
theorem w_1076 : Cond.methodLink "DearLetters" 262 ⟨"DearLetters$Sorting", "chooseSheets", "(LDearLetters$Heap;)V"⟩ ∈ z_tbl := z_tbl_in (List.mem_of_getElem? (i := 1076) (by decide +kernel)) rfl
theorem w_1077 : Cond.instanceMethod ⟨"DearLetters$Sorting", "chooseSheets", "(LDearLetters$Heap;)V"⟩ ∈ z_tbl := z_tbl_in (List.mem_of_getElem? (i := 1077) (by decide +kernel)) rfl
theorem w_1078 : Cond.selects "DearLetters$Sorting" ⟨"DearLetters$Sorting", "chooseSheets", "(LDearLetters$Heap;)V"⟩ ⟨"DearLetters$Sorting", "chooseSheets", "(LDearLetters$Heap;)V"⟩ ∈ z_tbl := z_tbl_in (List.mem_of_getElem? (i := 1078) (by decide +kernel)) rfl
theorem w_1079 : Cond.code ⟨"DearLetters$Sorting", "chooseSheets", "(LDearLetters$Heap;)V"⟩ prog_9_method_2_code 3 none ∈ z_tbl := z_tbl_in (List.mem_of_getElem? (i := 1079) (by decide +kernel)) rfl
theorem w_1080 : Cond.methodLink "DearLetters$Sorting" 29 ⟨"DearLetters$Sorting", "paint", "(LDearLetters$Heap;III)Z"⟩ ∈ z_tbl := z_tbl_in (List.mem_of_getElem? (i := 1080) (by decide +kernel)) rfl
theorem w_1082 : Cond.instanceMethod ⟨"DearLetters$Sorting", "paint", "(LDearLetters$Heap;III)Z"⟩ ∈ z_tbl := z_tbl_in (List.mem_of_getElem? (i := 1082) (by decide +kernel)) rfl
theorem w_1083 : Cond.code ⟨"DearLetters$Sorting", "paint", "(LDearLetters$Heap;III)Z"⟩ prog_9_method_3_code 6 (Option.some FieldType.boolean) ∈ z_tbl := z_tbl_in (List.mem_of_getElem? (i := 1083) (by decide +kernel)) rfl
theorem w_1084 : Cond.methodLink "DearLetters$Sorting" 38 ⟨"DearLetters$Sorting", "isFree", "(LDearLetters$Heap;II)Z"⟩ ∈ z_tbl := z_tbl_in (List.mem_of_getElem? (i := 1084) (by decide +kernel)) rfl
theorem w_1086 : Cond.instanceMethod ⟨"DearLetters$Sorting", "isFree", "(LDearLetters$Heap;II)Z"⟩ ∈ z_tbl := z_tbl_in (List.mem_of_getElem? (i := 1086) (by decide +kernel)) rfl
theorem w_1087 : Cond.code ⟨"DearLetters$Sorting", "isFree", "(LDearLetters$Heap;II)Z"⟩ prog_9_method_4_code 5 (Option.some FieldType.boolean) ∈ z_tbl := z_tbl_in (List.mem_of_getElem? (i := 1087) (by decide +kernel)) rfl
theorem w_1088 : Cond.methodLink "DearLetters$Sorting" 48 ⟨"DearLetters$Heap", "isNear", "(II)Z"⟩ ∈ z_tbl := z_tbl_in (List.mem_of_getElem? (i := 1088) (by decide +kernel)) rfl
theorem w_1089 : Cond.methodLink "DearLetters$Sorting" 42 ⟨"java/lang/Math", "max", "(II)I"⟩ ∈ z_tbl := z_tbl_in (List.mem_of_getElem? (i := 1089) (by decide +kernel)) rfl
theorem w_1094 : Cond.methodLink "DearLetters" 271 ⟨"DearLetters$Sharing", "plan", "(LDearLetters$Heap;LDearLetters$State;)V"⟩ ∈ z_tbl := z_tbl_in (List.mem_of_getElem? (i := 1094) (by decide +kernel)) rfl
theorem w_1095 : Cond.instanceMethod ⟨"DearLetters$Sharing", "plan", "(LDearLetters$Heap;LDearLetters$State;)V"⟩ ∈ z_tbl := z_tbl_in (List.mem_of_getElem? (i := 1095) (by decide +kernel)) rfl
theorem w_1096 : Cond.selects "DearLetters$Sharing" ⟨"DearLetters$Sharing", "plan", "(LDearLetters$Heap;LDearLetters$State;)V"⟩ ⟨"DearLetters$Sharing", "plan", "(LDearLetters$Heap;LDearLetters$State;)V"⟩ ∈ z_tbl := z_tbl_in (List.mem_of_getElem? (i := 1096) (by decide +kernel)) rfl
theorem w_1097 : Cond.code ⟨"DearLetters$Sharing", "plan", "(LDearLetters$Heap;LDearLetters$State;)V"⟩ prog_8_method_2_code 7 none ∈ z_tbl := z_tbl_in (List.mem_of_getElem? (i := 1097) (by decide +kernel)) rfl
theorem w_1098 : Cond.methodLink "DearLetters$Sharing" 36 ⟨"DearLetters$Heap", "allWishes", "(I)I"⟩ ∈ z_tbl := z_tbl_in (List.mem_of_getElem? (i := 1098) (by decide +kernel)) rfl
theorem w_1099 : Cond.methodLink "DearLetters$Sharing" 43 ⟨"java/util/Arrays", "fill", "([IIII)V"⟩ ∈ z_tbl := z_tbl_in (List.mem_of_getElem? (i := 1099) (by decide +kernel)) rfl
theorem w_1100 : Cond.static ⟨"java/util/Arrays", "fill", "([IIII)V"⟩ ∈ z_tbl := z_tbl_in (List.mem_of_getElem? (i := 1100) (by decide +kernel)) rfl
theorem w_1101 : Cond.code ⟨"java/util/Arrays", "fill", "([IIII)V"⟩ prog_20_method_104_code 5 none ∈ z_tbl := z_tbl_in (List.mem_of_getElem? (i := 1101) (by decide +kernel)) rfl
theorem w_1102 : Cond.methodLink "DearLetters$Sharing" 49 ⟨"DearLetters$Sharing", "isWithin", "(II)Z"⟩ ∈ z_tbl := z_tbl_in (List.mem_of_getElem? (i := 1102) (by decide +kernel)) rfl
theorem w_1103 : Cond.static ⟨"DearLetters$Sharing", "isWithin", "(II)Z"⟩ ∈ z_tbl := z_tbl_in (List.mem_of_getElem? (i := 1103) (by decide +kernel)) rfl
theorem w_1104 : Cond.code ⟨"DearLetters$Sharing", "isWithin", "(II)Z"⟩ prog_8_method_3_code 3 (Option.some FieldType.boolean) ∈ z_tbl := z_tbl_in (List.mem_of_getElem? (i := 1104) (by decide +kernel)) rfl
theorem w_1105 : Cond.methodLink "DearLetters$Sharing" 53 ⟨"DearLetters$Sharing", "mostFrom", "(LDearLetters$Heap;II)I"⟩ ∈ z_tbl := z_tbl_in (List.mem_of_getElem? (i := 1105) (by decide +kernel)) rfl
theorem w_1107 : Cond.instanceMethod ⟨"DearLetters$Sharing", "mostFrom", "(LDearLetters$Heap;II)I"⟩ ∈ z_tbl := z_tbl_in (List.mem_of_getElem? (i := 1107) (by decide +kernel)) rfl
theorem w_1108 : Cond.code ⟨"DearLetters$Sharing", "mostFrom", "(LDearLetters$Heap;II)I"⟩ prog_8_method_4_code 6 (Option.some FieldType.int) ∈ z_tbl := z_tbl_in (List.mem_of_getElem? (i := 1108) (by decide +kernel)) rfl
theorem w_1109 : Cond.methodLink "DearLetters$Sharing" 65 ⟨"DearLetters$Sharing", "mostBy", "(LDearLetters$Heap;III)I"⟩ ∈ z_tbl := z_tbl_in (List.mem_of_getElem? (i := 1109) (by decide +kernel)) rfl
theorem w_1111 : Cond.instanceMethod ⟨"DearLetters$Sharing", "mostBy", "(LDearLetters$Heap;III)I"⟩ ∈ z_tbl := z_tbl_in (List.mem_of_getElem? (i := 1111) (by decide +kernel)) rfl
theorem w_1112 : Cond.code ⟨"DearLetters$Sharing", "mostBy", "(LDearLetters$Heap;III)I"⟩ prog_8_method_5_code 6 (Option.some FieldType.int) ∈ z_tbl := z_tbl_in (List.mem_of_getElem? (i := 1112) (by decide +kernel)) rfl
theorem w_1113 : Cond.methodLink "DearLetters$Sharing" 69 ⟨"java/lang/Math", "max", "(II)I"⟩ ∈ z_tbl := z_tbl_in (List.mem_of_getElem? (i := 1113) (by decide +kernel)) rfl
theorem w_1114 : Cond.methodLink "DearLetters$Sharing" 61 ⟨"DearLetters$Sharing", "choose", "(LDearLetters$Heap;II)V"⟩ ∈ z_tbl := z_tbl_in (List.mem_of_getElem? (i := 1114) (by decide +kernel)) rfl
theorem w_1116 : Cond.instanceMethod ⟨"DearLetters$Sharing", "choose", "(LDearLetters$Heap;II)V"⟩ ∈ z_tbl := z_tbl_in (List.mem_of_getElem? (i := 1116) (by decide +kernel)) rfl
theorem w_1117 : Cond.code ⟨"DearLetters$Sharing", "choose", "(LDearLetters$Heap;II)V"⟩ prog_8_method_6_code 7 none ∈ z_tbl := z_tbl_in (List.mem_of_getElem? (i := 1117) (by decide +kernel)) rfl
theorem w_1122 : Cond.methodLink "DearLetters" 277 ⟨"DearLetters$Heap", "lossFrom", "(I)I"⟩ ∈ z_tbl := z_tbl_in (List.mem_of_getElem? (i := 1122) (by decide +kernel)) rfl
theorem w_1123 : Cond.instanceMethod ⟨"DearLetters$Heap", "lossFrom", "(I)I"⟩ ∈ z_tbl := z_tbl_in (List.mem_of_getElem? (i := 1123) (by decide +kernel)) rfl
theorem w_1124 : Cond.selects "DearLetters$Heap" ⟨"DearLetters$Heap", "lossFrom", "(I)I"⟩ ⟨"DearLetters$Heap", "lossFrom", "(I)I"⟩ ∈ z_tbl := z_tbl_in (List.mem_of_getElem? (i := 1124) (by decide +kernel)) rfl
theorem w_1125 : Cond.code ⟨"DearLetters$Heap", "lossFrom", "(I)I"⟩ prog_4_method_7_code 4 (Option.some FieldType.int) ∈ z_tbl := z_tbl_in (List.mem_of_getElem? (i := 1125) (by decide +kernel)) rfl
theorem w_1130 : Cond.methodLink "DearLetters" 280 ⟨"DearLetters$Sorting", "chooseGroups", "(LDearLetters$Heap;)V"⟩ ∈ z_tbl := z_tbl_in (List.mem_of_getElem? (i := 1130) (by decide +kernel)) rfl
theorem w_1131 : Cond.instanceMethod ⟨"DearLetters$Sorting", "chooseGroups", "(LDearLetters$Heap;)V"⟩ ∈ z_tbl := z_tbl_in (List.mem_of_getElem? (i := 1131) (by decide +kernel)) rfl
theorem w_1132 : Cond.selects "DearLetters$Sorting" ⟨"DearLetters$Sorting", "chooseGroups", "(LDearLetters$Heap;)V"⟩ ⟨"DearLetters$Sorting", "chooseGroups", "(LDearLetters$Heap;)V"⟩ ∈ z_tbl := z_tbl_in (List.mem_of_getElem? (i := 1132) (by decide +kernel)) rfl
theorem w_1133 : Cond.code ⟨"DearLetters$Sorting", "chooseGroups", "(LDearLetters$Heap;)V"⟩ prog_9_method_5_code 4 none ∈ z_tbl := z_tbl_in (List.mem_of_getElem? (i := 1133) (by decide +kernel)) rfl
theorem w_1134 : Cond.methodLink "DearLetters$Sorting" 52 ⟨"DearLetters$Sorting", "bestOdds", "(LDearLetters$Heap;I)J"⟩ ∈ z_tbl := z_tbl_in (List.mem_of_getElem? (i := 1134) (by decide +kernel)) rfl
theorem w_1136 : Cond.instanceMethod ⟨"DearLetters$Sorting", "bestOdds", "(LDearLetters$Heap;I)J"⟩ ∈ z_tbl := z_tbl_in (List.mem_of_getElem? (i := 1136) (by decide +kernel)) rfl
theorem w_1137 : Cond.code ⟨"DearLetters$Sorting", "bestOdds", "(LDearLetters$Heap;I)J"⟩ prog_9_method_6_code 7 (Option.some FieldType.long) ∈ z_tbl := z_tbl_in (List.mem_of_getElem? (i := 1137) (by decide +kernel)) rfl
theorem w_1138 : Cond.constantLong "DearLetters$Sorting" 56 (-1) ∈ z_tbl := z_tbl_in (List.mem_of_getElem? (i := 1138) (by decide +kernel)) rfl
theorem w_1139 : Cond.methodLink "DearLetters$Sorting" 65 ⟨"DearLetters$Sorting", "place", "(LDearLetters$Heap;IIJ)V"⟩ ∈ z_tbl := z_tbl_in (List.mem_of_getElem? (i := 1139) (by decide +kernel)) rfl
theorem w_1141 : Cond.instanceMethod ⟨"DearLetters$Sorting", "place", "(LDearLetters$Heap;IIJ)V"⟩ ∈ z_tbl := z_tbl_in (List.mem_of_getElem? (i := 1141) (by decide +kernel)) rfl
theorem w_1142 : Cond.code ⟨"DearLetters$Sorting", "place", "(LDearLetters$Heap;IIJ)V"⟩ prog_9_method_7_code 7 none ∈ z_tbl := z_tbl_in (List.mem_of_getElem? (i := 1142) (by decide +kernel)) rfl
theorem w_1143 : Cond.methodLink "DearLetters$Sorting" 73 ⟨"java/lang/System", "arraycopy", "(Ljava/lang/Object;ILjava/lang/Object;II)V"⟩ ∈ z_tbl := z_tbl_in (List.mem_of_getElem? (i := 1143) (by decide +kernel)) rfl
theorem w_1144 : Cond.methodLink "DearLetters$Sorting" 79 ⟨"DearLetters$Sorting", "oddsOf", "(LDearLetters$Heap;I)J"⟩ ∈ z_tbl := z_tbl_in (List.mem_of_getElem? (i := 1144) (by decide +kernel)) rfl
theorem w_1146 : Cond.instanceMethod ⟨"DearLetters$Sorting", "oddsOf", "(LDearLetters$Heap;I)J"⟩ ∈ z_tbl := z_tbl_in (List.mem_of_getElem? (i := 1146) (by decide +kernel)) rfl
theorem w_1147 : Cond.code ⟨"DearLetters$Sorting", "oddsOf", "(LDearLetters$Heap;I)J"⟩ prog_9_method_8_code 7 (Option.some FieldType.long) ∈ z_tbl := z_tbl_in (List.mem_of_getElem? (i := 1147) (by decide +kernel)) rfl
theorem w_1152 : Cond.methodLink "DearLetters" 289 ⟨"DearLetters", "tellsLetters", "(I)Z"⟩ ∈ z_tbl := z_tbl_in (List.mem_of_getElem? (i := 1152) (by decide +kernel)) rfl
theorem w_1154 : Cond.instanceMethod ⟨"DearLetters", "tellsLetters", "(I)Z"⟩ ∈ z_tbl := z_tbl_in (List.mem_of_getElem? (i := 1154) (by decide +kernel)) rfl
theorem w_1155 : Cond.code ⟨"DearLetters", "tellsLetters", "(I)Z"⟩ prog_1_method_42_code 3 (Option.some FieldType.boolean) ∈ z_tbl := z_tbl_in (List.mem_of_getElem? (i := 1155) (by decide +kernel)) rfl
theorem w_1156 : Cond.methodLink "DearLetters" 295 ⟨"DearLetters$Text", "pairAt", "(I)I"⟩ ∈ z_tbl := z_tbl_in (List.mem_of_getElem? (i := 1156) (by decide +kernel)) rfl
theorem w_1157 : Cond.instanceMethod ⟨"DearLetters$Text", "pairAt", "(I)I"⟩ ∈ z_tbl := z_tbl_in (List.mem_of_getElem? (i := 1157) (by decide +kernel)) rfl
theorem w_1158 : Cond.selects "DearLetters$Text" ⟨"DearLetters$Text", "pairAt", "(I)I"⟩ ⟨"DearLetters$Text", "pairAt", "(I)I"⟩ ∈ z_tbl := z_tbl_in (List.mem_of_getElem? (i := 1158) (by decide +kernel)) rfl
theorem w_1159 : Cond.code ⟨"DearLetters$Text", "pairAt", "(I)I"⟩ prog_12_method_4_code 2 (Option.some FieldType.int) ∈ z_tbl := z_tbl_in (List.mem_of_getElem? (i := 1159) (by decide +kernel)) rfl
theorem w_1161 : Cond.instanceMethod ⟨"DearLetters", "whose", "()I"⟩ ∈ z_tbl := z_tbl_in (List.mem_of_getElem? (i := 1161) (by decide +kernel)) rfl
theorem w_1162 : Cond.selects "DearLetters" ⟨"DearLetters", "whose", "()I"⟩ ⟨"DearLetters", "whose", "()I"⟩ ∈ z_tbl := z_tbl_in (List.mem_of_getElem? (i := 1162) (by decide +kernel)) rfl
theorem w_1163 : Cond.code ⟨"DearLetters", "whose", "()I"⟩ prog_1_method_23_code 3 (Option.some FieldType.int) ∈ z_tbl := z_tbl_in (List.mem_of_getElem? (i := 1163) (by decide +kernel)) rfl
theorem w_1164 : Cond.methodLink "DearLetters" 298 ⟨"DearLetters", "fitsSeen", "(I)Z"⟩ ∈ z_tbl := z_tbl_in (List.mem_of_getElem? (i := 1164) (by decide +kernel)) rfl
theorem w_1166 : Cond.instanceMethod ⟨"DearLetters", "fitsSeen", "(I)Z"⟩ ∈ z_tbl := z_tbl_in (List.mem_of_getElem? (i := 1166) (by decide +kernel)) rfl
theorem w_1167 : Cond.code ⟨"DearLetters", "fitsSeen", "(I)Z"⟩ prog_1_method_43_code 3 (Option.some FieldType.boolean) ∈ z_tbl := z_tbl_in (List.mem_of_getElem? (i := 1167) (by decide +kernel)) rfl
theorem w_1172 : Cond.methodLink "DearLetters" 301 ⟨"DearLetters", "whose", "()I"⟩ ∈ z_tbl := z_tbl_in (List.mem_of_getElem? (i := 1172) (by decide +kernel)) rfl
theorem w_1173 : Cond.methodLink "DearLetters" 304 ⟨"DearLetters", "mostAlike", "(II)I"⟩ ∈ z_tbl := z_tbl_in (List.mem_of_getElem? (i := 1173) (by decide +kernel)) rfl
theorem w_1175 : Cond.instanceMethod ⟨"DearLetters", "mostAlike", "(II)I"⟩ ∈ z_tbl := z_tbl_in (List.mem_of_getElem? (i := 1175) (by decide +kernel)) rfl
theorem w_1176 : Cond.code ⟨"DearLetters", "mostAlike", "(II)I"⟩ prog_1_method_44_code 5 (Option.some FieldType.int) ∈ z_tbl := z_tbl_in (List.mem_of_getElem? (i := 1176) (by decide +kernel)) rfl
theorem w_1177 : Cond.methodLink "DearLetters" 342 ⟨"DearLetters", "alike", "(III)I"⟩ ∈ z_tbl := z_tbl_in (List.mem_of_getElem? (i := 1177) (by decide +kernel)) rfl
theorem w_1179 : Cond.instanceMethod ⟨"DearLetters", "alike", "(III)I"⟩ ∈ z_tbl := z_tbl_in (List.mem_of_getElem? (i := 1179) (by decide +kernel)) rfl
theorem w_1180 : Cond.code ⟨"DearLetters", "alike", "(III)I"⟩ prog_1_method_45_code 7 (Option.some FieldType.int) ∈ z_tbl := z_tbl_in (List.mem_of_getElem? (i := 1180) (by decide +kernel)) rfl
theorem w_1181 : Cond.methodLink "DearLetters" 346 ⟨"java/lang/Math", "max", "(II)I"⟩ ∈ z_tbl := z_tbl_in (List.mem_of_getElem? (i := 1181) (by decide +kernel)) rfl
theorem w_1186 : Cond.methodLink "DearLetters" 307 ⟨"DearLetters", "remember", "()V"⟩ ∈ z_tbl := z_tbl_in (List.mem_of_getElem? (i := 1186) (by decide +kernel)) rfl
theorem w_1188 : Cond.instanceMethod ⟨"DearLetters", "remember", "()V"⟩ ∈ z_tbl := z_tbl_in (List.mem_of_getElem? (i := 1188) (by decide +kernel)) rfl
theorem w_1189 : Cond.code ⟨"DearLetters", "remember", "()V"⟩ prog_1_method_46_code 1 none ∈ z_tbl := z_tbl_in (List.mem_of_getElem? (i := 1189) (by decide +kernel)) rfl
theorem w_1194 : Cond.methodLink "DearLetters" 310 ⟨"DearLetters$State", "hasSheetNear", "(LDearLetters$Heap;II)Z"⟩ ∈ z_tbl := z_tbl_in (List.mem_of_getElem? (i := 1194) (by decide +kernel)) rfl
theorem w_1195 : Cond.instanceMethod ⟨"DearLetters$State", "hasSheetNear", "(LDearLetters$Heap;II)Z"⟩ ∈ z_tbl := z_tbl_in (List.mem_of_getElem? (i := 1195) (by decide +kernel)) rfl
theorem w_1196 : Cond.selects "DearLetters$State" ⟨"DearLetters$State", "hasSheetNear", "(LDearLetters$Heap;II)Z"⟩ ⟨"DearLetters$State", "hasSheetNear", "(LDearLetters$Heap;II)Z"⟩ ∈ z_tbl := z_tbl_in (List.mem_of_getElem? (i := 1196) (by decide +kernel)) rfl
theorem w_1197 : Cond.code ⟨"DearLetters$State", "hasSheetNear", "(LDearLetters$Heap;II)Z"⟩ prog_10_method_10_code 5 (Option.some FieldType.boolean) ∈ z_tbl := z_tbl_in (List.mem_of_getElem? (i := 1197) (by decide +kernel)) rfl
theorem w_1198 : Cond.methodLink "DearLetters$State" 60 ⟨"DearLetters$Heap", "isNear", "(II)Z"⟩ ∈ z_tbl := z_tbl_in (List.mem_of_getElem? (i := 1198) (by decide +kernel)) rfl
theorem w_1207 : Cond.methodLink "DearLetters" 314 ⟨"DearLetters", "canGoBy", "(I)Z"⟩ ∈ z_tbl := z_tbl_in (List.mem_of_getElem? (i := 1207) (by decide +kernel)) rfl
theorem w_1209 : Cond.instanceMethod ⟨"DearLetters", "canGoBy", "(I)Z"⟩ ∈ z_tbl := z_tbl_in (List.mem_of_getElem? (i := 1209) (by decide +kernel)) rfl
theorem w_1210 : Cond.code ⟨"DearLetters", "canGoBy", "(I)Z"⟩ prog_1_method_47_code 2 (Option.some FieldType.boolean) ∈ z_tbl := z_tbl_in (List.mem_of_getElem? (i := 1210) (by decide +kernel)) rfl
theorem w_1215 : Cond.methodLink "DearLetters" 317 ⟨"DearLetters", "catchColds", "()I"⟩ ∈ z_tbl := z_tbl_in (List.mem_of_getElem? (i := 1215) (by decide +kernel)) rfl
theorem w_1217 : Cond.instanceMethod ⟨"DearLetters", "catchColds", "()I"⟩ ∈ z_tbl := z_tbl_in (List.mem_of_getElem? (i := 1217) (by decide +kernel)) rfl
theorem w_1218 : Cond.code ⟨"DearLetters", "catchColds", "()I"⟩ prog_1_method_48_code 3 (Option.some FieldType.int) ∈ z_tbl := z_tbl_in (List.mem_of_getElem? (i := 1218) (by decide +kernel)) rfl
theorem w_1219 : Cond.methodLink "DearLetters" 349 ⟨"DearLetters", "drawOfHundred", "()I"⟩ ∈ z_tbl := z_tbl_in (List.mem_of_getElem? (i := 1219) (by decide +kernel)) rfl
theorem w_1221 : Cond.instanceMethod ⟨"DearLetters", "drawOfHundred", "()I"⟩ ∈ z_tbl := z_tbl_in (List.mem_of_getElem? (i := 1221) (by decide +kernel)) rfl
theorem w_1222 : Cond.code ⟨"DearLetters", "drawOfHundred", "()I"⟩ prog_1_method_49_code 1 (Option.some FieldType.int) ∈ z_tbl := z_tbl_in (List.mem_of_getElem? (i := 1222) (by decide +kernel)) rfl
theorem w_1223 : Cond.constantLong "DearLetters" 355 (1103515245) ∈ z_tbl := z_tbl_in (List.mem_of_getElem? (i := 1223) (by decide +kernel)) rfl
theorem w_1224 : Cond.constantLong "DearLetters" 357 (12345) ∈ z_tbl := z_tbl_in (List.mem_of_getElem? (i := 1224) (by decide +kernel)) rfl
theorem w_1225 : Cond.constantLong "DearLetters" 359 (2147483647) ∈ z_tbl := z_tbl_in (List.mem_of_getElem? (i := 1225) (by decide +kernel)) rfl
theorem w_1238 : Cond.methodLink "DearLetters" 323 ⟨"DearLetters$Question", "read", "()Z"⟩ ∈ z_tbl := z_tbl_in (List.mem_of_getElem? (i := 1238) (by decide +kernel)) rfl
theorem w_1239 : Cond.instanceMethod ⟨"DearLetters$Question", "read", "()Z"⟩ ∈ z_tbl := z_tbl_in (List.mem_of_getElem? (i := 1239) (by decide +kernel)) rfl
theorem w_1240 : Cond.selects "DearLetters$Question" ⟨"DearLetters$Question", "read", "()Z"⟩ ⟨"DearLetters$Question", "read", "()Z"⟩ ∈ z_tbl := z_tbl_in (List.mem_of_getElem? (i := 1240) (by decide +kernel)) rfl
theorem w_1241 : Cond.code ⟨"DearLetters$Question", "read", "()Z"⟩ prog_7_method_2_code 2 (Option.some FieldType.boolean) ∈ z_tbl := z_tbl_in (List.mem_of_getElem? (i := 1241) (by decide +kernel)) rfl
theorem w_1242 : Cond.methodLink "DearLetters$Question" 19 ⟨"DearLetters$Text", "open", "()V"⟩ ∈ z_tbl := z_tbl_in (List.mem_of_getElem? (i := 1242) (by decide +kernel)) rfl
theorem w_1243 : Cond.methodLink "DearLetters$Question" 31 ⟨"DearLetters$Text", "fail", "(I)Z"⟩ ∈ z_tbl := z_tbl_in (List.mem_of_getElem? (i := 1243) (by decide +kernel)) rfl
theorem w_1244 : Cond.methodLink "DearLetters$Question" 35 ⟨"DearLetters$Text", "next", "()V"⟩ ∈ z_tbl := z_tbl_in (List.mem_of_getElem? (i := 1244) (by decide +kernel)) rfl
theorem w_1245 : Cond.methodLink "DearLetters$Question" 38 ⟨"DearLetters$Sums", "readTest", "()Z"⟩ ∈ z_tbl := z_tbl_in (List.mem_of_getElem? (i := 1245) (by decide +kernel)) rfl
theorem w_1246 : Cond.instanceMethod ⟨"DearLetters$Sums", "readTest", "()Z"⟩ ∈ z_tbl := z_tbl_in (List.mem_of_getElem? (i := 1246) (by decide +kernel)) rfl
theorem w_1247 : Cond.selects "DearLetters$Sums" ⟨"DearLetters$Sums", "readTest", "()Z"⟩ ⟨"DearLetters$Sums", "readTest", "()Z"⟩ ∈ z_tbl := z_tbl_in (List.mem_of_getElem? (i := 1247) (by decide +kernel)) rfl
theorem w_1248 : Cond.code ⟨"DearLetters$Sums", "readTest", "()Z"⟩ prog_11_method_4_code 1 (Option.some FieldType.boolean) ∈ z_tbl := z_tbl_in (List.mem_of_getElem? (i := 1248) (by decide +kernel)) rfl
theorem w_1249 : Cond.methodLink "DearLetters$Sums" 40 ⟨"DearLetters$Sums", "test", "(I)Z"⟩ ∈ z_tbl := z_tbl_in (List.mem_of_getElem? (i := 1249) (by decide +kernel)) rfl
theorem w_1251 : Cond.instanceMethod ⟨"DearLetters$Sums", "test", "(I)Z"⟩ ∈ z_tbl := z_tbl_in (List.mem_of_getElem? (i := 1251) (by decide +kernel)) rfl
theorem w_1252 : Cond.code ⟨"DearLetters$Sums", "test", "(I)Z"⟩ prog_11_method_5_code 4 (Option.some FieldType.boolean) ∈ z_tbl := z_tbl_in (List.mem_of_getElem? (i := 1252) (by decide +kernel)) rfl
theorem w_1253 : Cond.methodLink "DearLetters$Sums" 43 ⟨"DearLetters$Sums", "both", "(I)Z"⟩ ∈ z_tbl := z_tbl_in (List.mem_of_getElem? (i := 1253) (by decide +kernel)) rfl
theorem w_1255 : Cond.instanceMethod ⟨"DearLetters$Sums", "both", "(I)Z"⟩ ∈ z_tbl := z_tbl_in (List.mem_of_getElem? (i := 1255) (by decide +kernel)) rfl
theorem w_1256 : Cond.code ⟨"DearLetters$Sums", "both", "(I)Z"⟩ prog_11_method_6_code 4 (Option.some FieldType.boolean) ∈ z_tbl := z_tbl_in (List.mem_of_getElem? (i := 1256) (by decide +kernel)) rfl
theorem w_1257 : Cond.methodLink "DearLetters$Sums" 58 ⟨"DearLetters$Sums", "fact", "(I)Z"⟩ ∈ z_tbl := z_tbl_in (List.mem_of_getElem? (i := 1257) (by decide +kernel)) rfl
theorem w_1259 : Cond.instanceMethod ⟨"DearLetters$Sums", "fact", "(I)Z"⟩ ∈ z_tbl := z_tbl_in (List.mem_of_getElem? (i := 1259) (by decide +kernel)) rfl
theorem w_1260 : Cond.code ⟨"DearLetters$Sums", "fact", "(I)Z"⟩ prog_11_method_7_code 4 (Option.some FieldType.boolean) ∈ z_tbl := z_tbl_in (List.mem_of_getElem? (i := 1260) (by decide +kernel)) rfl
theorem w_1261 : Cond.methodLink "DearLetters$Question" 44 ⟨"DearLetters$Sums", "readQuestionSum", "()Z"⟩ ∈ z_tbl := z_tbl_in (List.mem_of_getElem? (i := 1261) (by decide +kernel)) rfl
theorem w_1262 : Cond.instanceMethod ⟨"DearLetters$Sums", "readQuestionSum", "()Z"⟩ ∈ z_tbl := z_tbl_in (List.mem_of_getElem? (i := 1262) (by decide +kernel)) rfl
theorem w_1263 : Cond.selects "DearLetters$Sums" ⟨"DearLetters$Sums", "readQuestionSum", "()Z"⟩ ⟨"DearLetters$Sums", "readQuestionSum", "()Z"⟩ ∈ z_tbl := z_tbl_in (List.mem_of_getElem? (i := 1263) (by decide +kernel)) rfl
theorem w_1264 : Cond.code ⟨"DearLetters$Sums", "readQuestionSum", "()Z"⟩ prog_11_method_3_code 1 (Option.some FieldType.boolean) ∈ z_tbl := z_tbl_in (List.mem_of_getElem? (i := 1264) (by decide +kernel)) rfl
theorem w_1265 : Cond.methodLink "DearLetters" 324 ⟨"DearLetters$Question", "over", "(LDearLetters$Heap;LDearLetters$State;LDearLetters$Machine;)J"⟩ ∈ z_tbl := z_tbl_in (List.mem_of_getElem? (i := 1265) (by decide +kernel)) rfl
theorem w_1266 : Cond.instanceMethod ⟨"DearLetters$Question", "over", "(LDearLetters$Heap;LDearLetters$State;LDearLetters$Machine;)J"⟩ ∈ z_tbl := z_tbl_in (List.mem_of_getElem? (i := 1266) (by decide +kernel)) rfl
theorem w_1267 : Cond.selects "DearLetters$Question" ⟨"DearLetters$Question", "over", "(LDearLetters$Heap;LDearLetters$State;LDearLetters$Machine;)J"⟩ ⟨"DearLetters$Question", "over", "(LDearLetters$Heap;LDearLetters$State;LDearLetters$Machine;)J"⟩ ∈ z_tbl := z_tbl_in (List.mem_of_getElem? (i := 1267) (by decide +kernel)) rfl
theorem w_1268 : Cond.code ⟨"DearLetters$Question", "over", "(LDearLetters$Heap;LDearLetters$State;LDearLetters$Machine;)J"⟩ prog_7_method_3_code 8 (Option.some FieldType.long) ∈ z_tbl := z_tbl_in (List.mem_of_getElem? (i := 1268) (by decide +kernel)) rfl
theorem w_1269 : Cond.constantLong "DearLetters$Question" 50 (-1) ∈ z_tbl := z_tbl_in (List.mem_of_getElem? (i := 1269) (by decide +kernel)) rfl
theorem w_1270 : Cond.methodLink "DearLetters$Question" 62 ⟨"DearLetters$Machine", "valueFor", "(LDearLetters$Heap;LDearLetters$State;ILDearLetters$Code;)I"⟩ ∈ z_tbl := z_tbl_in (List.mem_of_getElem? (i := 1270) (by decide +kernel)) rfl
theorem w_1271 : Cond.instanceMethod ⟨"DearLetters$Machine", "valueFor", "(LDearLetters$Heap;LDearLetters$State;ILDearLetters$Code;)I"⟩ ∈ z_tbl := z_tbl_in (List.mem_of_getElem? (i := 1271) (by decide +kernel)) rfl
theorem w_1272 : Cond.selects "DearLetters$Machine" ⟨"DearLetters$Machine", "valueFor", "(LDearLetters$Heap;LDearLetters$State;ILDearLetters$Code;)I"⟩ ⟨"DearLetters$Machine", "valueFor", "(LDearLetters$Heap;LDearLetters$State;ILDearLetters$Code;)I"⟩ ∈ z_tbl := z_tbl_in (List.mem_of_getElem? (i := 1272) (by decide +kernel)) rfl
theorem w_1273 : Cond.code ⟨"DearLetters$Machine", "valueFor", "(LDearLetters$Heap;LDearLetters$State;ILDearLetters$Code;)I"⟩ prog_6_method_5_code 5 (Option.some FieldType.int) ∈ z_tbl := z_tbl_in (List.mem_of_getElem? (i := 1273) (by decide +kernel)) rfl
theorem w_1274 : Cond.methodLink "DearLetters$Question" 68 ⟨"DearLetters$Question", "with", "(JII)J"⟩ ∈ z_tbl := z_tbl_in (List.mem_of_getElem? (i := 1274) (by decide +kernel)) rfl
theorem w_1276 : Cond.instanceMethod ⟨"DearLetters$Question", "with", "(JII)J"⟩ ∈ z_tbl := z_tbl_in (List.mem_of_getElem? (i := 1276) (by decide +kernel)) rfl
theorem w_1277 : Cond.code ⟨"DearLetters$Question", "with", "(JII)J"⟩ prog_7_method_4_code 5 (Option.some FieldType.long) ∈ z_tbl := z_tbl_in (List.mem_of_getElem? (i := 1277) (by decide +kernel)) rfl
theorem w_1278 : Cond.methodLink "DearLetters$Question" 72 ⟨"java/lang/Math", "max", "(JJ)J"⟩ ∈ z_tbl := z_tbl_in (List.mem_of_getElem? (i := 1278) (by decide +kernel)) rfl
theorem w_1279 : Cond.methodLink "DearLetters$Question" 78 ⟨"java/lang/Math", "min", "(JJ)J"⟩ ∈ z_tbl := z_tbl_in (List.mem_of_getElem? (i := 1279) (by decide +kernel)) rfl
theorem w_1280 : Cond.static ⟨"java/lang/Math", "min", "(JJ)J"⟩ ∈ z_tbl := z_tbl_in (List.mem_of_getElem? (i := 1280) (by decide +kernel)) rfl
theorem w_1281 : Cond.code ⟨"java/lang/Math", "min", "(JJ)J"⟩ prog_15_method_70_code 4 (Option.some FieldType.long) ∈ z_tbl := z_tbl_in (List.mem_of_getElem? (i := 1281) (by decide +kernel)) rfl
theorem w_1286 : Cond.methodLink "DearLetters" 328 ⟨"DearLetters", "checkByte", "([II)I"⟩ ∈ z_tbl := z_tbl_in (List.mem_of_getElem? (i := 1286) (by decide +kernel)) rfl
theorem w_1287 : Cond.static ⟨"DearLetters", "checkByte", "([II)I"⟩ ∈ z_tbl := z_tbl_in (List.mem_of_getElem? (i := 1287) (by decide +kernel)) rfl
theorem w_1288 : Cond.code ⟨"DearLetters", "checkByte", "([II)I"⟩ prog_1_method_50_code 4 (Option.some FieldType.int) ∈ z_tbl := z_tbl_in (List.mem_of_getElem? (i := 1288) (by decide +kernel)) rfl
theorem w_1297 : Cond.methodLink "DearLetters" 335 ⟨"DearLetters", "loadScratch", "()V"⟩ ∈ z_tbl := z_tbl_in (List.mem_of_getElem? (i := 1297) (by decide +kernel)) rfl
theorem w_1299 : Cond.instanceMethod ⟨"DearLetters", "loadScratch", "()V"⟩ ∈ z_tbl := z_tbl_in (List.mem_of_getElem? (i := 1299) (by decide +kernel)) rfl
theorem w_1300 : Cond.code ⟨"DearLetters", "loadScratch", "()V"⟩ prog_1_method_51_code 3 none ∈ z_tbl := z_tbl_in (List.mem_of_getElem? (i := 1300) (by decide +kernel)) rfl
theorem w_1301 : Cond.methodLink "DearLetters" 338 ⟨"DearLetters$State", "canBe", "(LDearLetters$Heap;)Z"⟩ ∈ z_tbl := z_tbl_in (List.mem_of_getElem? (i := 1301) (by decide +kernel)) rfl
theorem w_1302 : Cond.instanceMethod ⟨"DearLetters$State", "canBe", "(LDearLetters$Heap;)Z"⟩ ∈ z_tbl := z_tbl_in (List.mem_of_getElem? (i := 1302) (by decide +kernel)) rfl
theorem w_1303 : Cond.selects "DearLetters$State" ⟨"DearLetters$State", "canBe", "(LDearLetters$Heap;)Z"⟩ ⟨"DearLetters$State", "canBe", "(LDearLetters$Heap;)Z"⟩ ∈ z_tbl := z_tbl_in (List.mem_of_getElem? (i := 1303) (by decide +kernel)) rfl
theorem w_1304 : Cond.code ⟨"DearLetters$State", "canBe", "(LDearLetters$Heap;)Z"⟩ prog_10_method_11_code 4 (Option.some FieldType.boolean) ∈ z_tbl := z_tbl_in (List.mem_of_getElem? (i := 1304) (by decide +kernel)) rfl
theorem w_1305 : Cond.methodLink "DearLetters$State" 64 ⟨"DearLetters$State", "letterCanBe", "(LDearLetters$Heap;I)Z"⟩ ∈ z_tbl := z_tbl_in (List.mem_of_getElem? (i := 1305) (by decide +kernel)) rfl
theorem w_1307 : Cond.instanceMethod ⟨"DearLetters$State", "letterCanBe", "(LDearLetters$Heap;I)Z"⟩ ∈ z_tbl := z_tbl_in (List.mem_of_getElem? (i := 1307) (by decide +kernel)) rfl
theorem w_1308 : Cond.code ⟨"DearLetters$State", "letterCanBe", "(LDearLetters$Heap;I)Z"⟩ prog_10_method_12_code 3 (Option.some FieldType.boolean) ∈ z_tbl := z_tbl_in (List.mem_of_getElem? (i := 1308) (by decide +kernel)) rfl
theorem w_1309 : Cond.methodLink "DearLetters$State" 68 ⟨"DearLetters$State", "hasSheetNear", "(LDearLetters$Heap;II)Z"⟩ ∈ z_tbl := z_tbl_in (List.mem_of_getElem? (i := 1309) (by decide +kernel)) rfl
theorem w_1320 : Cond.fieldLink "DearLettersModel" 7 "DearLettersModel" "tape" "[I" ∈ z_tbl := z_tbl_in (List.mem_of_getElem? (i := 1320) (by decide +kernel)) rfl
theorem w_1321 : Cond.fieldLink "DearLettersModel" 260 "DearLettersModel" "taped" "I" ∈ z_tbl := z_tbl_in (List.mem_of_getElem? (i := 1321) (by decide +kernel)) rfl
theorem w_1322 : Cond.fieldLink "DearLettersModel" 269 "DearLettersModel" "at" "I" ∈ z_tbl := z_tbl_in (List.mem_of_getElem? (i := 1322) (by decide +kernel)) rfl
theorem w_1323 : Cond.fieldLink "DearLettersModel" 272 "DearLettersModel" "end" "I" ∈ z_tbl := z_tbl_in (List.mem_of_getElem? (i := 1323) (by decide +kernel)) rfl
theorem w_1324 : Cond.fieldLink "DearLettersModel" 283 "DearLettersModel" "ended" "I" ∈ z_tbl := z_tbl_in (List.mem_of_getElem? (i := 1324) (by decide +kernel)) rfl
theorem w_1325 : Cond.fieldLink "DearLettersModel" 263 "DearLettersModel" "bad" "I" ∈ z_tbl := z_tbl_in (List.mem_of_getElem? (i := 1325) (by decide +kernel)) rfl
theorem w_1326 : Cond.fieldLink "DearLettersModel" 266 "DearLettersModel" "badPlace" "I" ∈ z_tbl := z_tbl_in (List.mem_of_getElem? (i := 1326) (by decide +kernel)) rfl
theorem w_1327 : Cond.fieldLink "DearLettersModel" 401 "DearLettersModel" "fault" "I" ∈ z_tbl := z_tbl_in (List.mem_of_getElem? (i := 1327) (by decide +kernel)) rfl
theorem w_1328 : Cond.fieldLink "DearLettersModel" 13 "DearLettersModel" "faultPlace" "I" ∈ z_tbl := z_tbl_in (List.mem_of_getElem? (i := 1328) (by decide +kernel)) rfl
theorem w_1329 : Cond.fieldLink "DearLettersModel" 17 "DearLettersModel" "refused" "[I" ∈ z_tbl := z_tbl_in (List.mem_of_getElem? (i := 1329) (by decide +kernel)) rfl
theorem w_1330 : Cond.fieldLink "DearLettersModel" 20 "DearLettersModel" "letterWord" "[C" ∈ z_tbl := z_tbl_in (List.mem_of_getElem? (i := 1330) (by decide +kernel)) rfl
theorem w_1331 : Cond.fieldLink "DearLettersModel" 24 "DearLettersModel" "ageWord" "[C" ∈ z_tbl := z_tbl_in (List.mem_of_getElem? (i := 1331) (by decide +kernel)) rfl
theorem w_1332 : Cond.fieldLink "DearLettersModel" 27 "DearLettersModel" "needWord" "[C" ∈ z_tbl := z_tbl_in (List.mem_of_getElem? (i := 1332) (by decide +kernel)) rfl
theorem w_1333 : Cond.fieldLink "DearLettersModel" 30 "DearLettersModel" "graveWord" "[C" ∈ z_tbl := z_tbl_in (List.mem_of_getElem? (i := 1333) (by decide +kernel)) rfl
theorem w_1334 : Cond.fieldLink "DearLettersModel" 33 "DearLettersModel" "giftWord" "[C" ∈ z_tbl := z_tbl_in (List.mem_of_getElem? (i := 1334) (by decide +kernel)) rfl
theorem w_1335 : Cond.fieldLink "DearLettersModel" 36 "DearLettersModel" "stockWord" "[C" ∈ z_tbl := z_tbl_in (List.mem_of_getElem? (i := 1335) (by decide +kernel)) rfl
theorem w_1336 : Cond.fieldLink "DearLettersModel" 39 "DearLettersModel" "wishWord" "[C" ∈ z_tbl := z_tbl_in (List.mem_of_getElem? (i := 1336) (by decide +kernel)) rfl
theorem w_1337 : Cond.fieldLink "DearLettersModel" 42 "DearLettersModel" "nearWord" "[C" ∈ z_tbl := z_tbl_in (List.mem_of_getElem? (i := 1337) (by decide +kernel)) rfl
theorem w_1338 : Cond.fieldLink "DearLettersModel" 45 "DearLettersModel" "likeWord" "[C" ∈ z_tbl := z_tbl_in (List.mem_of_getElem? (i := 1338) (by decide +kernel)) rfl
theorem w_1339 : Cond.fieldLink "DearLettersModel" 48 "DearLettersModel" "helperWord" "[C" ∈ z_tbl := z_tbl_in (List.mem_of_getElem? (i := 1339) (by decide +kernel)) rfl
theorem w_1340 : Cond.fieldLink "DearLettersModel" 51 "DearLettersModel" "timeWord" "[C" ∈ z_tbl := z_tbl_in (List.mem_of_getElem? (i := 1340) (by decide +kernel)) rfl
theorem w_1341 : Cond.fieldLink "DearLettersModel" 54 "DearLettersModel" "handWord" "[C" ∈ z_tbl := z_tbl_in (List.mem_of_getElem? (i := 1341) (by decide +kernel)) rfl
theorem w_1342 : Cond.fieldLink "DearLettersModel" 57 "DearLettersModel" "bearsWord" "[C" ∈ z_tbl := z_tbl_in (List.mem_of_getElem? (i := 1342) (by decide +kernel)) rfl
theorem w_1343 : Cond.fieldLink "DearLettersModel" 60 "DearLettersModel" "takesWord" "[C" ∈ z_tbl := z_tbl_in (List.mem_of_getElem? (i := 1343) (by decide +kernel)) rfl
theorem w_1344 : Cond.fieldLink "DearLettersModel" 63 "DearLettersModel" "warmWord" "[C" ∈ z_tbl := z_tbl_in (List.mem_of_getElem? (i := 1344) (by decide +kernel)) rfl
