theorem d_law_856 : decode code 856 = .ok (.aload_n 0, 1) := by decide +kernel
theorem d_law_857 : decode code 857 = .ok (.iload_n 3, 1) := by decide +kernel
theorem d_law_858 : decode code 858 = .ok (.iconst 1, 1) := by decide +kernel
theorem d_law_859 : decode code 859 = .ok (.iadd, 1) := by decide +kernel
theorem d_law_860 : decode code 860 = .ok (.iaload, 1) := by decide +kernel
theorem d_law_861 : decode code 861 = .ok (.aload_n 0, 1) := by decide +kernel
theorem d_law_862 : decode code 862 = .ok (.iload_n 3, 1) := by decide +kernel
theorem d_law_863 : decode code 863 = .ok (.iconst 2, 1) := by decide +kernel
theorem d_law_864 : decode code 864 = .ok (.iadd, 1) := by decide +kernel
theorem d_law_865 : decode code 865 = .ok (.iaload, 1) := by decide +kernel
theorem d_law_866 : decode code 866 = .ok (.invokevirtual 122, 3) := by decide +kernel
theorem d_law_869 : decode code 869 = .ok (.aload_n 2, 1) := by decide +kernel
theorem d_law_870 : decode code 870 = .ok (.aload_n 0, 1) := by decide +kernel
theorem d_law_871 : decode code 871 = .ok (.iload_n 3, 1) := by decide +kernel
theorem d_law_872 : decode code 872 = .ok (.iconst 1, 1) := by decide +kernel
theorem d_law_873 : decode code 873 = .ok (.iadd, 1) := by decide +kernel
theorem d_law_874 : decode code 874 = .ok (.iaload, 1) := by decide +kernel
theorem d_law_875 : decode code 875 = .ok (.aload_n 0, 1) := by decide +kernel
theorem d_law_876 : decode code 876 = .ok (.iload_n 3, 1) := by decide +kernel
theorem d_law_877 : decode code 877 = .ok (.iconst 2, 1) := by decide +kernel
theorem d_law_878 : decode code 878 = .ok (.iadd, 1) := by decide +kernel
theorem d_law_879 : decode code 879 = .ok (.iaload, 1) := by decide +kernel
theorem d_law_880 : decode code 880 = .ok (.invokevirtual 125, 3) := by decide +kernel
theorem d_law_883 : decode code 883 = .ok (.if_icmp .eq 173, 3) := by decide +kernel
theorem d_law_886 : decode code 886 = .ok (.iconst 0, 1) := by decide +kernel
theorem d_law_887 : decode code 887 = .ok (.ireturn, 1) := by decide +kernel
theorem d_law_888 : decode code 888 = .ok (.aload_n 1, 1) := by decide +kernel
theorem d_law_889 : decode code 889 = .ok (.aload_n 0, 1) := by decide +kernel
theorem d_law_890 : decode code 890 = .ok (.iload_n 3, 1) := by decide +kernel
theorem d_law_891 : decode code 891 = .ok (.iconst 1, 1) := by decide +kernel
theorem d_law_892 : decode code 892 = .ok (.iadd, 1) := by decide +kernel
theorem d_law_893 : decode code 893 = .ok (.iaload, 1) := by decide +kernel
theorem d_law_894 : decode code 894 = .ok (.invokevirtual 126, 3) := by decide +kernel
theorem d_law_897 : decode code 897 = .ok (.aload_n 2, 1) := by decide +kernel
theorem d_law_898 : decode code 898 = .ok (.aload_n 0, 1) := by decide +kernel
theorem d_law_899 : decode code 899 = .ok (.iload_n 3, 1) := by decide +kernel
theorem d_law_900 : decode code 900 = .ok (.iconst 1, 1) := by decide +kernel
theorem d_law_901 : decode code 901 = .ok (.iadd, 1) := by decide +kernel
theorem d_law_902 : decode code 902 = .ok (.iaload, 1) := by decide +kernel
theorem d_law_903 : decode code 903 = .ok (.invokevirtual 129, 3) := by decide +kernel
theorem d_law_906 : decode code 906 = .ok (.if_icmp .eq 150, 3) := by decide +kernel
theorem d_law_909 : decode code 909 = .ok (.iconst 0, 1) := by decide +kernel
theorem d_law_910 : decode code 910 = .ok (.ireturn, 1) := by decide +kernel
theorem d_law_911 : decode code 911 = .ok (.aload_n 1, 1) := by decide +kernel
theorem d_law_912 : decode code 912 = .ok (.aload_n 0, 1) := by decide +kernel
theorem d_law_913 : decode code 913 = .ok (.iload_n 3, 1) := by decide +kernel
theorem d_law_914 : decode code 914 = .ok (.iconst 1, 1) := by decide +kernel
theorem d_law_915 : decode code 915 = .ok (.iadd, 1) := by decide +kernel
theorem d_law_916 : decode code 916 = .ok (.iaload, 1) := by decide +kernel
theorem d_law_917 : decode code 917 = .ok (.invokevirtual 130, 3) := by decide +kernel
theorem d_law_920 : decode code 920 = .ok (.aload_n 2, 1) := by decide +kernel
theorem d_law_921 : decode code 921 = .ok (.aload_n 0, 1) := by decide +kernel
theorem d_law_922 : decode code 922 = .ok (.iload_n 3, 1) := by decide +kernel
theorem d_law_923 : decode code 923 = .ok (.iconst 1, 1) := by decide +kernel
theorem d_law_924 : decode code 924 = .ok (.iadd, 1) := by decide +kernel
theorem d_law_925 : decode code 925 = .ok (.iaload, 1) := by decide +kernel
theorem d_law_926 : decode code 926 = .ok (.invokevirtual 133, 3) := by decide +kernel
theorem d_law_929 : decode code 929 = .ok (.if_icmp .eq 127, 3) := by decide +kernel
theorem d_law_932 : decode code 932 = .ok (.iconst 0, 1) := by decide +kernel
theorem d_law_933 : decode code 933 = .ok (.ireturn, 1) := by decide +kernel
theorem d_law_934 : decode code 934 = .ok (.aload_n 1, 1) := by decide +kernel
theorem d_law_935 : decode code 935 = .ok (.invokevirtual 134, 3) := by decide +kernel
theorem d_law_938 : decode code 938 = .ok (.aload_n 2, 1) := by decide +kernel
theorem d_law_939 : decode code 939 = .ok (.invokevirtual 138, 3) := by decide +kernel
theorem d_law_942 : decode code 942 = .ok (.if_icmp .eq 114, 3) := by decide +kernel
theorem d_law_945 : decode code 945 = .ok (.iconst 0, 1) := by decide +kernel
theorem d_law_946 : decode code 946 = .ok (.ireturn, 1) := by decide +kernel
theorem d_law_947 : decode code 947 = .ok (.aload_n 1, 1) := by decide +kernel
theorem d_law_948 : decode code 948 = .ok (.aload_n 0, 1) := by decide +kernel
theorem d_law_949 : decode code 949 = .ok (.iload_n 3, 1) := by decide +kernel
theorem d_law_950 : decode code 950 = .ok (.iconst 1, 1) := by decide +kernel
theorem d_law_951 : decode code 951 = .ok (.iadd, 1) := by decide +kernel
theorem d_law_952 : decode code 952 = .ok (.iaload, 1) := by decide +kernel
theorem d_law_953 : decode code 953 = .ok (.invokevirtual 139, 3) := by decide +kernel
theorem d_law_956 : decode code 956 = .ok (.aload_n 2, 1) := by decide +kernel
theorem d_law_957 : decode code 957 = .ok (.aload_n 0, 1) := by decide +kernel
theorem d_law_958 : decode code 958 = .ok (.iload_n 3, 1) := by decide +kernel
theorem d_law_959 : decode code 959 = .ok (.iconst 1, 1) := by decide +kernel
theorem d_law_960 : decode code 960 = .ok (.iadd, 1) := by decide +kernel
theorem d_law_961 : decode code 961 = .ok (.iaload, 1) := by decide +kernel
theorem d_law_962 : decode code 962 = .ok (.invokevirtual 142, 3) := by decide +kernel
theorem d_law_965 : decode code 965 = .ok (.if_icmp .eq 91, 3) := by decide +kernel
theorem d_law_968 : decode code 968 = .ok (.iconst 0, 1) := by decide +kernel
theorem d_law_969 : decode code 969 = .ok (.ireturn, 1) := by decide +kernel
theorem d_law_970 : decode code 970 = .ok (.aload_n 1, 1) := by decide +kernel
theorem d_law_971 : decode code 971 = .ok (.invokevirtual 143, 3) := by decide +kernel
theorem d_law_974 : decode code 974 = .ok (.aload_n 2, 1) := by decide +kernel
theorem d_law_975 : decode code 975 = .ok (.invokevirtual 146, 3) := by decide +kernel
theorem d_law_978 : decode code 978 = .ok (.lcmp, 1) := by decide +kernel
theorem d_law_979 : decode code 979 = .ok (.ifCond .eq 77, 3) := by decide +kernel
theorem d_law_982 : decode code 982 = .ok (.iconst 0, 1) := by decide +kernel
theorem d_law_983 : decode code 983 = .ok (.ireturn, 1) := by decide +kernel
theorem d_law_984 : decode code 984 = .ok (.aload_n 1, 1) := by decide +kernel
theorem d_law_985 : decode code 985 = .ok (.invokevirtual 147, 3) := by decide +kernel
theorem d_law_988 : decode code 988 = .ok (.aload_n 2, 1) := by decide +kernel
theorem d_law_989 : decode code 989 = .ok (.invokevirtual 150, 3) := by decide +kernel
theorem d_law_992 : decode code 992 = .ok (.if_icmp .eq 64, 3) := by decide +kernel
theorem d_law_995 : decode code 995 = .ok (.iconst 0, 1) := by decide +kernel
theorem d_law_996 : decode code 996 = .ok (.ireturn, 1) := by decide +kernel
theorem d_law_997 : decode code 997 = .ok (.aload_n 1, 1) := by decide +kernel
theorem d_law_998 : decode code 998 = .ok (.aload_n 0, 1) := by decide +kernel
theorem d_law_999 : decode code 999 = .ok (.iload_n 3, 1) := by decide +kernel
theorem d_law_1000 : decode code 1000 = .ok (.iconst 1, 1) := by decide +kernel
theorem d_law_1001 : decode code 1001 = .ok (.iadd, 1) := by decide +kernel
theorem d_law_1002 : decode code 1002 = .ok (.iaload, 1) := by decide +kernel
theorem d_law_1003 : decode code 1003 = .ok (.invokevirtual 151, 3) := by decide +kernel
theorem d_law_1006 : decode code 1006 = .ok (.aload_n 2, 1) := by decide +kernel
theorem d_law_1007 : decode code 1007 = .ok (.aload_n 0, 1) := by decide +kernel
theorem d_law_1008 : decode code 1008 = .ok (.iload_n 3, 1) := by decide +kernel
theorem d_law_1009 : decode code 1009 = .ok (.iconst 1, 1) := by decide +kernel
theorem d_law_1010 : decode code 1010 = .ok (.iadd, 1) := by decide +kernel
theorem d_law_1011 : decode code 1011 = .ok (.iaload, 1) := by decide +kernel
theorem d_law_1012 : decode code 1012 = .ok (.invokevirtual 154, 3) := by decide +kernel
theorem d_law_1015 : decode code 1015 = .ok (.if_icmp .eq 41, 3) := by decide +kernel
theorem d_law_1018 : decode code 1018 = .ok (.iconst 0, 1) := by decide +kernel
theorem d_law_1019 : decode code 1019 = .ok (.ireturn, 1) := by decide +kernel
theorem d_law_1020 : decode code 1020 = .ok (.aload_n 1, 1) := by decide +kernel
theorem d_law_1021 : decode code 1021 = .ok (.invokevirtual 155, 3) := by decide +kernel
theorem d_law_1024 : decode code 1024 = .ok (.aload_n 2, 1) := by decide +kernel
theorem d_law_1025 : decode code 1025 = .ok (.invokevirtual 158, 3) := by decide +kernel
theorem d_law_1028 : decode code 1028 = .ok (.if_icmp .eq 28, 3) := by decide +kernel
theorem d_law_1031 : decode code 1031 = .ok (.iconst 0, 1) := by decide +kernel
theorem d_law_1032 : decode code 1032 = .ok (.ireturn, 1) := by decide +kernel
theorem d_law_1033 : decode code 1033 = .ok (.aload_n 1, 1) := by decide +kernel
theorem d_law_1034 : decode code 1034 = .ok (.aload_n 0, 1) := by decide +kernel
theorem d_law_1035 : decode code 1035 = .ok (.iload_n 3, 1) := by decide +kernel
theorem d_law_1036 : decode code 1036 = .ok (.iconst 1, 1) := by decide +kernel
theorem d_law_1037 : decode code 1037 = .ok (.iadd, 1) := by decide +kernel
theorem d_law_1038 : decode code 1038 = .ok (.iaload, 1) := by decide +kernel
theorem d_law_1039 : decode code 1039 = .ok (.invokevirtual 159, 3) := by decide +kernel
theorem d_law_1042 : decode code 1042 = .ok (.aload_n 2, 1) := by decide +kernel
theorem d_law_1043 : decode code 1043 = .ok (.aload_n 0, 1) := by decide +kernel
theorem d_law_1044 : decode code 1044 = .ok (.iload_n 3, 1) := by decide +kernel
theorem d_law_1045 : decode code 1045 = .ok (.iconst 1, 1) := by decide +kernel
theorem d_law_1046 : decode code 1046 = .ok (.iadd, 1) := by decide +kernel
theorem d_law_1047 : decode code 1047 = .ok (.iaload, 1) := by decide +kernel
theorem d_law_1048 : decode code 1048 = .ok (.invokevirtual 162, 3) := by decide +kernel
theorem d_law_1051 : decode code 1051 = .ok (.if_icmp .eq 5, 3) := by decide +kernel
theorem d_law_1054 : decode code 1054 = .ok (.iconst 0, 1) := by decide +kernel
theorem d_law_1055 : decode code 1055 = .ok (.ireturn, 1) := by decide +kernel
theorem d_law_1056 : decode code 1056 = .ok (.iinc 3 6, 3) := by decide +kernel
theorem d_law_1059 : decode code 1059 = .ok (.goto (-1041), 3) := by decide +kernel
theorem d_law_1062 : decode code 1062 = .ok (.iconst 1, 1) := by decide +kernel
theorem d_law_1063 : decode code 1063 = .ok (.ireturn, 1) := by decide +kernel
theorem w_698 : Cond.methodLink "DearLettersLaw" 13 ⟨"DearLetters", "feed", "(IIIII)I"⟩ ∈ z_tbl := z_tbl_in (List.mem_of_getElem? (i := 698) (by decide +kernel)) rfl
theorem w_701 : Cond.code ⟨"DearLetters", "feed", "(IIIII)I"⟩ prog_1_method_2_code 6 (Option.some FieldType.int) ∈ z_tbl := z_tbl_in (List.mem_of_getElem? (i := 701) (by decide +kernel)) rfl
theorem w_699 : Cond.instanceMethod ⟨"DearLetters", "feed", "(IIIII)I"⟩ ∈ z_tbl := z_tbl_in (List.mem_of_getElem? (i := 699) (by decide +kernel)) rfl
theorem w_700 : Cond.selects "DearLetters" ⟨"DearLetters", "feed", "(IIIII)I"⟩ ⟨"DearLetters", "feed", "(IIIII)I"⟩ ∈ z_tbl := z_tbl_in (List.mem_of_getElem? (i := 700) (by decide +kernel)) rfl
theorem lkl_13 : z_LV "DearLettersLaw" 13 11 mX11_feed 5 := ⟨⟨w_698, w_154, w_701, ⟨by decide, by decide, by decide +kernel⟩, by decide⟩, by decide, w_699, w_700⟩
theorem w_1640 : Cond.methodLink "DearLettersLaw" 17 ⟨"DearLettersModel", "feed", "(IIIII)I"⟩ ∈ z_tbl := z_tbl_in (List.mem_of_getElem? (i := 1640) (by decide +kernel)) rfl
theorem w_1643 : Cond.code ⟨"DearLettersModel", "feed", "(IIIII)I"⟩ prog_14_method_3_code 8 (Option.some FieldType.int) ∈ z_tbl := z_tbl_in (List.mem_of_getElem? (i := 1643) (by decide +kernel)) rfl
theorem w_1641 : Cond.instanceMethod ⟨"DearLettersModel", "feed", "(IIIII)I"⟩ ∈ z_tbl := z_tbl_in (List.mem_of_getElem? (i := 1641) (by decide +kernel)) rfl
theorem w_1642 : Cond.selects "DearLettersModel" ⟨"DearLettersModel", "feed", "(IIIII)I"⟩ ⟨"DearLettersModel", "feed", "(IIIII)I"⟩ ∈ z_tbl := z_tbl_in (List.mem_of_getElem? (i := 1642) (by decide +kernel)) rfl
theorem lkl_17 : z_LV "DearLettersLaw" 17 12 mX12_feed 5 := ⟨⟨w_1640, w_171, w_1643, ⟨by decide, by decide, by decide +kernel⟩, by decide⟩, by decide, w_1641, w_1642⟩
theorem w_710 : Cond.methodLink "DearLettersLaw" 18 ⟨"DearLetters", "end", "(I)Z"⟩ ∈ z_tbl := z_tbl_in (List.mem_of_getElem? (i := 710) (by decide +kernel)) rfl
theorem w_713 : Cond.code ⟨"DearLetters", "end", "(I)Z"⟩ prog_1_method_3_code 2 (Option.some FieldType.boolean) ∈ z_tbl := z_tbl_in (List.mem_of_getElem? (i := 713) (by decide +kernel)) rfl
theorem w_711 : Cond.instanceMethod ⟨"DearLetters", "end", "(I)Z"⟩ ∈ z_tbl := z_tbl_in (List.mem_of_getElem? (i := 711) (by decide +kernel)) rfl
theorem w_712 : Cond.selects "DearLetters" ⟨"DearLetters", "end", "(I)Z"⟩ ⟨"DearLetters", "end", "(I)Z"⟩ ∈ z_tbl := z_tbl_in (List.mem_of_getElem? (i := 712) (by decide +kernel)) rfl
theorem lkl_18 : z_LV "DearLettersLaw" 18 11 mX11_end 1 := ⟨⟨w_710, w_154, w_713, ⟨by decide, by decide, by decide +kernel⟩, by decide⟩, by decide, w_711, w_712⟩
theorem w_1644 : Cond.methodLink "DearLettersLaw" 22 ⟨"DearLettersModel", "end", "(I)Z"⟩ ∈ z_tbl := z_tbl_in (List.mem_of_getElem? (i := 1644) (by decide +kernel)) rfl
theorem w_1647 : Cond.code ⟨"DearLettersModel", "end", "(I)Z"⟩ prog_14_method_4_code 2 (Option.some FieldType.boolean) ∈ z_tbl := z_tbl_in (List.mem_of_getElem? (i := 1647) (by decide +kernel)) rfl
theorem w_1645 : Cond.instanceMethod ⟨"DearLettersModel", "end", "(I)Z"⟩ ∈ z_tbl := z_tbl_in (List.mem_of_getElem? (i := 1645) (by decide +kernel)) rfl
theorem w_1646 : Cond.selects "DearLettersModel" ⟨"DearLettersModel", "end", "(I)Z"⟩ ⟨"DearLettersModel", "end", "(I)Z"⟩ ∈ z_tbl := z_tbl_in (List.mem_of_getElem? (i := 1646) (by decide +kernel)) rfl
theorem lkl_22 : z_LV "DearLettersLaw" 22 12 mX12_end 1 := ⟨⟨w_1644, w_171, w_1647, ⟨by decide, by decide, by decide +kernel⟩, by decide⟩, by decide, w_1645, w_1646⟩
theorem w_718 : Cond.methodLink "DearLettersLaw" 23 ⟨"DearLetters", "heap", "()I"⟩ ∈ z_tbl := z_tbl_in (List.mem_of_getElem? (i := 718) (by decide +kernel)) rfl
theorem w_721 : Cond.code ⟨"DearLetters", "heap", "()I"⟩ prog_1_method_4_code 3 (Option.some FieldType.int) ∈ z_tbl := z_tbl_in (List.mem_of_getElem? (i := 721) (by decide +kernel)) rfl
theorem w_719 : Cond.instanceMethod ⟨"DearLetters", "heap", "()I"⟩ ∈ z_tbl := z_tbl_in (List.mem_of_getElem? (i := 719) (by decide +kernel)) rfl
theorem w_720 : Cond.selects "DearLetters" ⟨"DearLetters", "heap", "()I"⟩ ⟨"DearLetters", "heap", "()I"⟩ ∈ z_tbl := z_tbl_in (List.mem_of_getElem? (i := 720) (by decide +kernel)) rfl
theorem lkl_23 : z_LV "DearLettersLaw" 23 11 mX11_heap 0 := ⟨⟨w_718, w_154, w_721, ⟨by decide, by decide, by decide +kernel⟩, by decide⟩, by decide, w_719, w_720⟩
theorem w_1648 : Cond.methodLink "DearLettersLaw" 27 ⟨"DearLettersModel", "heap", "()I"⟩ ∈ z_tbl := z_tbl_in (List.mem_of_getElem? (i := 1648) (by decide +kernel)) rfl
theorem w_1651 : Cond.code ⟨"DearLettersModel", "heap", "()I"⟩ prog_14_method_31_code 2 (Option.some FieldType.int) ∈ z_tbl := z_tbl_in (List.mem_of_getElem? (i := 1651) (by decide +kernel)) rfl
theorem w_1649 : Cond.instanceMethod ⟨"DearLettersModel", "heap", "()I"⟩ ∈ z_tbl := z_tbl_in (List.mem_of_getElem? (i := 1649) (by decide +kernel)) rfl
theorem w_1650 : Cond.selects "DearLettersModel" ⟨"DearLettersModel", "heap", "()I"⟩ ⟨"DearLettersModel", "heap", "()I"⟩ ∈ z_tbl := z_tbl_in (List.mem_of_getElem? (i := 1650) (by decide +kernel)) rfl
theorem lkl_27 : z_LV "DearLettersLaw" 27 12 mX12_heap 0 := ⟨⟨w_1648, w_171, w_1651, ⟨by decide, by decide, by decide +kernel⟩, by decide⟩, by decide, w_1649, w_1650⟩
theorem w_879 : Cond.methodLink "DearLettersLaw" 28 ⟨"DearLetters", "fault", "(I)I"⟩ ∈ z_tbl := z_tbl_in (List.mem_of_getElem? (i := 879) (by decide +kernel)) rfl
theorem w_882 : Cond.code ⟨"DearLetters", "fault", "(I)I"⟩ prog_1_method_5_code 2 (Option.some FieldType.int) ∈ z_tbl := z_tbl_in (List.mem_of_getElem? (i := 882) (by decide +kernel)) rfl
theorem w_880 : Cond.instanceMethod ⟨"DearLetters", "fault", "(I)I"⟩ ∈ z_tbl := z_tbl_in (List.mem_of_getElem? (i := 880) (by decide +kernel)) rfl
theorem w_881 : Cond.selects "DearLetters" ⟨"DearLetters", "fault", "(I)I"⟩ ⟨"DearLetters", "fault", "(I)I"⟩ ∈ z_tbl := z_tbl_in (List.mem_of_getElem? (i := 881) (by decide +kernel)) rfl
theorem lkl_28 : z_LV "DearLettersLaw" 28 11 mX11_fault 1 := ⟨⟨w_879, w_154, w_882, ⟨by decide, by decide, by decide +kernel⟩, by decide⟩, by decide, w_880, w_881⟩
theorem w_1830 : Cond.methodLink "DearLettersLaw" 32 ⟨"DearLettersModel", "fault", "(I)I"⟩ ∈ z_tbl := z_tbl_in (List.mem_of_getElem? (i := 1830) (by decide +kernel)) rfl
theorem w_1833 : Cond.code ⟨"DearLettersModel", "fault", "(I)I"⟩ prog_14_method_33_code 2 (Option.some FieldType.int) ∈ z_tbl := z_tbl_in (List.mem_of_getElem? (i := 1833) (by decide +kernel)) rfl
theorem w_1831 : Cond.instanceMethod ⟨"DearLettersModel", "fault", "(I)I"⟩ ∈ z_tbl := z_tbl_in (List.mem_of_getElem? (i := 1831) (by decide +kernel)) rfl
theorem w_1832 : Cond.selects "DearLettersModel" ⟨"DearLettersModel", "fault", "(I)I"⟩ ⟨"DearLettersModel", "fault", "(I)I"⟩ ∈ z_tbl := z_tbl_in (List.mem_of_getElem? (i := 1832) (by decide +kernel)) rfl
theorem lkl_32 : z_LV "DearLettersLaw" 32 12 mX12_fault 1 := ⟨⟨w_1830, w_171, w_1833, ⟨by decide, by decide, by decide +kernel⟩, by decide⟩, by decide, w_1831, w_1832⟩
theorem w_883 : Cond.methodLink "DearLettersLaw" 33 ⟨"DearLetters", "has", "(I)I"⟩ ∈ z_tbl := z_tbl_in (List.mem_of_getElem? (i := 883) (by decide +kernel)) rfl
theorem w_886 : Cond.code ⟨"DearLetters", "has", "(I)I"⟩ prog_1_method_6_code 2 (Option.some FieldType.int) ∈ z_tbl := z_tbl_in (List.mem_of_getElem? (i := 886) (by decide +kernel)) rfl
theorem w_884 : Cond.instanceMethod ⟨"DearLetters", "has", "(I)I"⟩ ∈ z_tbl := z_tbl_in (List.mem_of_getElem? (i := 884) (by decide +kernel)) rfl
theorem w_885 : Cond.selects "DearLetters" ⟨"DearLetters", "has", "(I)I"⟩ ⟨"DearLetters", "has", "(I)I"⟩ ∈ z_tbl := z_tbl_in (List.mem_of_getElem? (i := 885) (by decide +kernel)) rfl
theorem lkl_33 : z_LV "DearLettersLaw" 33 11 mX11_has 1 := ⟨⟨w_883, w_154, w_886, ⟨by decide, by decide, by decide +kernel⟩, by decide⟩, by decide, w_884, w_885⟩
theorem w_1834 : Cond.methodLink "DearLettersLaw" 36 ⟨"DearLettersModel", "has", "(I)I"⟩ ∈ z_tbl := z_tbl_in (List.mem_of_getElem? (i := 1834) (by decide +kernel)) rfl
theorem w_1837 : Cond.code ⟨"DearLettersModel", "has", "(I)I"⟩ prog_14_method_66_code 2 (Option.some FieldType.int) ∈ z_tbl := z_tbl_in (List.mem_of_getElem? (i := 1837) (by decide +kernel)) rfl
theorem w_1835 : Cond.instanceMethod ⟨"DearLettersModel", "has", "(I)I"⟩ ∈ z_tbl := z_tbl_in (List.mem_of_getElem? (i := 1835) (by decide +kernel)) rfl
theorem w_1836 : Cond.selects "DearLettersModel" ⟨"DearLettersModel", "has", "(I)I"⟩ ⟨"DearLettersModel", "has", "(I)I"⟩ ∈ z_tbl := z_tbl_in (List.mem_of_getElem? (i := 1836) (by decide +kernel)) rfl
theorem lkl_36 : z_LV "DearLettersLaw" 36 12 mX12_has 1 := ⟨⟨w_1834, w_171, w_1837, ⟨by decide, by decide, by decide +kernel⟩, by decide⟩, by decide, w_1835, w_1836⟩
theorem w_906 : Cond.methodLink "DearLettersLaw" 37 ⟨"DearLetters", "letter", "(III)I"⟩ ∈ z_tbl := z_tbl_in (List.mem_of_getElem? (i := 906) (by decide +kernel)) rfl
theorem w_909 : Cond.code ⟨"DearLetters", "letter", "(III)I"⟩ prog_1_method_7_code 4 (Option.some FieldType.int) ∈ z_tbl := z_tbl_in (List.mem_of_getElem? (i := 909) (by decide +kernel)) rfl
theorem w_907 : Cond.instanceMethod ⟨"DearLetters", "letter", "(III)I"⟩ ∈ z_tbl := z_tbl_in (List.mem_of_getElem? (i := 907) (by decide +kernel)) rfl
theorem w_908 : Cond.selects "DearLetters" ⟨"DearLetters", "letter", "(III)I"⟩ ⟨"DearLetters", "letter", "(III)I"⟩ ∈ z_tbl := z_tbl_in (List.mem_of_getElem? (i := 908) (by decide +kernel)) rfl
theorem lkl_37 : z_LV "DearLettersLaw" 37 11 mX11_letter 3 := ⟨⟨w_906, w_154, w_909, ⟨by decide, by decide, by decide +kernel⟩, by decide⟩, by decide, w_907, w_908⟩
theorem w_1854 : Cond.methodLink "DearLettersLaw" 41 ⟨"DearLettersModel", "letter", "(III)I"⟩ ∈ z_tbl := z_tbl_in (List.mem_of_getElem? (i := 1854) (by decide +kernel)) rfl
theorem w_1857 : Cond.code ⟨"DearLettersModel", "letter", "(III)I"⟩ prog_14_method_67_code 9 (Option.some FieldType.int) ∈ z_tbl := z_tbl_in (List.mem_of_getElem? (i := 1857) (by decide +kernel)) rfl
theorem w_1855 : Cond.instanceMethod ⟨"DearLettersModel", "letter", "(III)I"⟩ ∈ z_tbl := z_tbl_in (List.mem_of_getElem? (i := 1855) (by decide +kernel)) rfl
theorem w_1856 : Cond.selects "DearLettersModel" ⟨"DearLettersModel", "letter", "(III)I"⟩ ⟨"DearLettersModel", "letter", "(III)I"⟩ ∈ z_tbl := z_tbl_in (List.mem_of_getElem? (i := 1856) (by decide +kernel)) rfl
theorem lkl_41 : z_LV "DearLettersLaw" 41 12 mX12_letter 3 := ⟨⟨w_1854, w_171, w_1857, ⟨by decide, by decide, by decide +kernel⟩, by decide⟩, by decide, w_1855, w_1856⟩
theorem w_910 : Cond.methodLink "DearLettersLaw" 42 ⟨"DearLetters", "mail", "(II)I"⟩ ∈ z_tbl := z_tbl_in (List.mem_of_getElem? (i := 910) (by decide +kernel)) rfl
theorem w_913 : Cond.code ⟨"DearLetters", "mail", "(II)I"⟩ prog_1_method_8_code 3 (Option.some FieldType.int) ∈ z_tbl := z_tbl_in (List.mem_of_getElem? (i := 913) (by decide +kernel)) rfl
theorem w_911 : Cond.instanceMethod ⟨"DearLetters", "mail", "(II)I"⟩ ∈ z_tbl := z_tbl_in (List.mem_of_getElem? (i := 911) (by decide +kernel)) rfl
theorem w_912 : Cond.selects "DearLetters" ⟨"DearLetters", "mail", "(II)I"⟩ ⟨"DearLetters", "mail", "(II)I"⟩ ∈ z_tbl := z_tbl_in (List.mem_of_getElem? (i := 912) (by decide +kernel)) rfl
theorem lkl_42 : z_LV "DearLettersLaw" 42 11 mX11_mail 2 := ⟨⟨w_910, w_154, w_913, ⟨by decide, by decide, by decide +kernel⟩, by decide⟩, by decide, w_911, w_912⟩
theorem w_1860 : Cond.methodLink "DearLettersLaw" 46 ⟨"DearLettersModel", "mail", "(II)I"⟩ ∈ z_tbl := z_tbl_in (List.mem_of_getElem? (i := 1860) (by decide +kernel)) rfl
theorem w_1863 : Cond.code ⟨"DearLettersModel", "mail", "(II)I"⟩ prog_14_method_68_code 3 (Option.some FieldType.int) ∈ z_tbl := z_tbl_in (List.mem_of_getElem? (i := 1863) (by decide +kernel)) rfl
theorem w_1861 : Cond.instanceMethod ⟨"DearLettersModel", "mail", "(II)I"⟩ ∈ z_tbl := z_tbl_in (List.mem_of_getElem? (i := 1861) (by decide +kernel)) rfl
theorem w_1862 : Cond.selects "DearLettersModel" ⟨"DearLettersModel", "mail", "(II)I"⟩ ⟨"DearLettersModel", "mail", "(II)I"⟩ ∈ z_tbl := z_tbl_in (List.mem_of_getElem? (i := 1862) (by decide +kernel)) rfl
theorem lkl_46 : z_LV "DearLettersLaw" 46 12 mX12_mail 2 := ⟨⟨w_1860, w_171, w_1863, ⟨by decide, by decide, by decide +kernel⟩, by decide⟩, by decide, w_1861, w_1862⟩
theorem w_922 : Cond.methodLink "DearLettersLaw" 47 ⟨"DearLetters", "gift", "(II)I"⟩ ∈ z_tbl := z_tbl_in (List.mem_of_getElem? (i := 922) (by decide +kernel)) rfl
theorem w_925 : Cond.code ⟨"DearLetters", "gift", "(II)I"⟩ prog_1_method_9_code 3 (Option.some FieldType.int) ∈ z_tbl := z_tbl_in (List.mem_of_getElem? (i := 925) (by decide +kernel)) rfl
theorem w_923 : Cond.instanceMethod ⟨"DearLetters", "gift", "(II)I"⟩ ∈ z_tbl := z_tbl_in (List.mem_of_getElem? (i := 923) (by decide +kernel)) rfl
theorem w_924 : Cond.selects "DearLetters" ⟨"DearLetters", "gift", "(II)I"⟩ ⟨"DearLetters", "gift", "(II)I"⟩ ∈ z_tbl := z_tbl_in (List.mem_of_getElem? (i := 924) (by decide +kernel)) rfl
theorem lkl_47 : z_LV "DearLettersLaw" 47 11 mX11_gift 2 := ⟨⟨w_922, w_154, w_925, ⟨by decide, by decide, by decide +kernel⟩, by decide⟩, by decide, w_923, w_924⟩
theorem w_1888 : Cond.methodLink "DearLettersLaw" 50 ⟨"DearLettersModel", "gift", "(II)I"⟩ ∈ z_tbl := z_tbl_in (List.mem_of_getElem? (i := 1888) (by decide +kernel)) rfl
theorem w_1891 : Cond.code ⟨"DearLettersModel", "gift", "(II)I"⟩ prog_14_method_69_code 3 (Option.some FieldType.int) ∈ z_tbl := z_tbl_in (List.mem_of_getElem? (i := 1891) (by decide +kernel)) rfl
theorem w_1889 : Cond.instanceMethod ⟨"DearLettersModel", "gift", "(II)I"⟩ ∈ z_tbl := z_tbl_in (List.mem_of_getElem? (i := 1889) (by decide +kernel)) rfl
theorem w_1890 : Cond.selects "DearLettersModel" ⟨"DearLettersModel", "gift", "(II)I"⟩ ⟨"DearLettersModel", "gift", "(II)I"⟩ ∈ z_tbl := z_tbl_in (List.mem_of_getElem? (i := 1890) (by decide +kernel)) rfl
theorem lkl_50 : z_LV "DearLettersLaw" 50 12 mX12_gift 2 := ⟨⟨w_1888, w_171, w_1891, ⟨by decide, by decide, by decide +kernel⟩, by decide⟩, by decide, w_1889, w_1890⟩
theorem w_930 : Cond.methodLink "DearLettersLaw" 51 ⟨"DearLetters", "helper", "(II)I"⟩ ∈ z_tbl := z_tbl_in (List.mem_of_getElem? (i := 930) (by decide +kernel)) rfl
theorem w_933 : Cond.code ⟨"DearLetters", "helper", "(II)I"⟩ prog_1_method_10_code 3 (Option.some FieldType.int) ∈ z_tbl := z_tbl_in (List.mem_of_getElem? (i := 933) (by decide +kernel)) rfl
theorem w_931 : Cond.instanceMethod ⟨"DearLetters", "helper", "(II)I"⟩ ∈ z_tbl := z_tbl_in (List.mem_of_getElem? (i := 931) (by decide +kernel)) rfl
theorem w_932 : Cond.selects "DearLetters" ⟨"DearLetters", "helper", "(II)I"⟩ ⟨"DearLetters", "helper", "(II)I"⟩ ∈ z_tbl := z_tbl_in (List.mem_of_getElem? (i := 932) (by decide +kernel)) rfl
theorem lkl_51 : z_LV "DearLettersLaw" 51 11 mX11_helper 2 := ⟨⟨w_930, w_154, w_933, ⟨by decide, by decide, by decide +kernel⟩, by decide⟩, by decide, w_931, w_932⟩
theorem w_1896 : Cond.methodLink "DearLettersLaw" 54 ⟨"DearLettersModel", "helper", "(II)I"⟩ ∈ z_tbl := z_tbl_in (List.mem_of_getElem? (i := 1896) (by decide +kernel)) rfl
theorem w_1899 : Cond.code ⟨"DearLettersModel", "helper", "(II)I"⟩ prog_14_method_70_code 5 (Option.some FieldType.int) ∈ z_tbl := z_tbl_in (List.mem_of_getElem? (i := 1899) (by decide +kernel)) rfl
theorem w_1897 : Cond.instanceMethod ⟨"DearLettersModel", "helper", "(II)I"⟩ ∈ z_tbl := z_tbl_in (List.mem_of_getElem? (i := 1897) (by decide +kernel)) rfl
theorem w_1898 : Cond.selects "DearLettersModel" ⟨"DearLettersModel", "helper", "(II)I"⟩ ⟨"DearLettersModel", "helper", "(II)I"⟩ ∈ z_tbl := z_tbl_in (List.mem_of_getElem? (i := 1898) (by decide +kernel)) rfl
theorem lkl_54 : z_LV "DearLettersLaw" 54 12 mX12_helper 2 := ⟨⟨w_1896, w_171, w_1899, ⟨by decide, by decide, by decide +kernel⟩, by decide⟩, by decide, w_1897, w_1898⟩
theorem w_942 : Cond.methodLink "DearLettersLaw" 55 ⟨"DearLetters", "takes", "(II)I"⟩ ∈ z_tbl := z_tbl_in (List.mem_of_getElem? (i := 942) (by decide +kernel)) rfl
theorem w_945 : Cond.code ⟨"DearLetters", "takes", "(II)I"⟩ prog_1_method_11_code 3 (Option.some FieldType.int) ∈ z_tbl := z_tbl_in (List.mem_of_getElem? (i := 945) (by decide +kernel)) rfl
theorem w_943 : Cond.instanceMethod ⟨"DearLetters", "takes", "(II)I"⟩ ∈ z_tbl := z_tbl_in (List.mem_of_getElem? (i := 943) (by decide +kernel)) rfl
theorem w_944 : Cond.selects "DearLetters" ⟨"DearLetters", "takes", "(II)I"⟩ ⟨"DearLetters", "takes", "(II)I"⟩ ∈ z_tbl := z_tbl_in (List.mem_of_getElem? (i := 944) (by decide +kernel)) rfl
theorem lkl_55 : z_LV "DearLettersLaw" 55 11 mX11_takes 2 := ⟨⟨w_942, w_154, w_945, ⟨by decide, by decide, by decide +kernel⟩, by decide⟩, by decide, w_943, w_944⟩
theorem w_1904 : Cond.methodLink "DearLettersLaw" 58 ⟨"DearLettersModel", "takes", "(II)I"⟩ ∈ z_tbl := z_tbl_in (List.mem_of_getElem? (i := 1904) (by decide +kernel)) rfl
theorem w_1907 : Cond.code ⟨"DearLettersModel", "takes", "(II)I"⟩ prog_14_method_71_code 3 (Option.some FieldType.int) ∈ z_tbl := z_tbl_in (List.mem_of_getElem? (i := 1907) (by decide +kernel)) rfl
theorem w_1905 : Cond.instanceMethod ⟨"DearLettersModel", "takes", "(II)I"⟩ ∈ z_tbl := z_tbl_in (List.mem_of_getElem? (i := 1905) (by decide +kernel)) rfl
theorem w_1906 : Cond.selects "DearLettersModel" ⟨"DearLettersModel", "takes", "(II)I"⟩ ⟨"DearLettersModel", "takes", "(II)I"⟩ ∈ z_tbl := z_tbl_in (List.mem_of_getElem? (i := 1906) (by decide +kernel)) rfl
theorem lkl_58 : z_LV "DearLettersLaw" 58 12 mX12_takes 2 := ⟨⟨w_1904, w_171, w_1907, ⟨by decide, by decide, by decide +kernel⟩, by decide⟩, by decide, w_1905, w_1906⟩
theorem w_991 : Cond.methodLink "DearLettersLaw" 59 ⟨"DearLetters", "warmth", "(II)J"⟩ ∈ z_tbl := z_tbl_in (List.mem_of_getElem? (i := 991) (by decide +kernel)) rfl
theorem w_994 : Cond.code ⟨"DearLetters", "warmth", "(II)J"⟩ prog_1_method_12_code 3 (Option.some FieldType.long) ∈ z_tbl := z_tbl_in (List.mem_of_getElem? (i := 994) (by decide +kernel)) rfl
theorem w_992 : Cond.instanceMethod ⟨"DearLetters", "warmth", "(II)J"⟩ ∈ z_tbl := z_tbl_in (List.mem_of_getElem? (i := 992) (by decide +kernel)) rfl
theorem w_993 : Cond.selects "DearLetters" ⟨"DearLetters", "warmth", "(II)J"⟩ ⟨"DearLetters", "warmth", "(II)J"⟩ ∈ z_tbl := z_tbl_in (List.mem_of_getElem? (i := 993) (by decide +kernel)) rfl
theorem lkl_59 : z_LV "DearLettersLaw" 59 11 mX11_warmth 2 := ⟨⟨w_991, w_154, w_994, ⟨by decide, by decide, by decide +kernel⟩, by decide⟩, by decide, w_992, w_993⟩
theorem w_1937 : Cond.methodLink "DearLettersLaw" 63 ⟨"DearLettersModel", "warmth", "(II)J"⟩ ∈ z_tbl := z_tbl_in (List.mem_of_getElem? (i := 1937) (by decide +kernel)) rfl
theorem w_1940 : Cond.code ⟨"DearLettersModel", "warmth", "(II)J"⟩ prog_14_method_72_code 3 (Option.some FieldType.long) ∈ z_tbl := z_tbl_in (List.mem_of_getElem? (i := 1940) (by decide +kernel)) rfl
theorem w_1938 : Cond.instanceMethod ⟨"DearLettersModel", "warmth", "(II)J"⟩ ∈ z_tbl := z_tbl_in (List.mem_of_getElem? (i := 1938) (by decide +kernel)) rfl
theorem w_1939 : Cond.selects "DearLettersModel" ⟨"DearLettersModel", "warmth", "(II)J"⟩ ⟨"DearLettersModel", "warmth", "(II)J"⟩ ∈ z_tbl := z_tbl_in (List.mem_of_getElem? (i := 1939) (by decide +kernel)) rfl
theorem lkl_63 : z_LV "DearLettersLaw" 63 12 mX12_warmth 2 := ⟨⟨w_1937, w_171, w_1940, ⟨by decide, by decide, by decide +kernel⟩, by decide⟩, by decide, w_1938, w_1939⟩
theorem w_1000 : Cond.methodLink "DearLettersLaw" 64 ⟨"DearLetters", "can", "(II)I"⟩ ∈ z_tbl := z_tbl_in (List.mem_of_getElem? (i := 1000) (by decide +kernel)) rfl
theorem w_1003 : Cond.code ⟨"DearLetters", "can", "(II)I"⟩ prog_1_method_13_code 3 (Option.some FieldType.int) ∈ z_tbl := z_tbl_in (List.mem_of_getElem? (i := 1003) (by decide +kernel)) rfl
theorem w_1001 : Cond.instanceMethod ⟨"DearLetters", "can", "(II)I"⟩ ∈ z_tbl := z_tbl_in (List.mem_of_getElem? (i := 1001) (by decide +kernel)) rfl
theorem w_1002 : Cond.selects "DearLetters" ⟨"DearLetters", "can", "(II)I"⟩ ⟨"DearLetters", "can", "(II)I"⟩ ∈ z_tbl := z_tbl_in (List.mem_of_getElem? (i := 1002) (by decide +kernel)) rfl
theorem lkl_64 : z_LV "DearLettersLaw" 64 11 mX11_can 2 := ⟨⟨w_1000, w_154, w_1003, ⟨by decide, by decide, by decide +kernel⟩, by decide⟩, by decide, w_1001, w_1002⟩
theorem w_1946 : Cond.methodLink "DearLettersLaw" 67 ⟨"DearLettersModel", "can", "(II)I"⟩ ∈ z_tbl := z_tbl_in (List.mem_of_getElem? (i := 1946) (by decide +kernel)) rfl
theorem w_1949 : Cond.code ⟨"DearLettersModel", "can", "(II)I"⟩ prog_14_method_73_code 3 (Option.some FieldType.int) ∈ z_tbl := z_tbl_in (List.mem_of_getElem? (i := 1949) (by decide +kernel)) rfl
theorem w_1947 : Cond.instanceMethod ⟨"DearLettersModel", "can", "(II)I"⟩ ∈ z_tbl := z_tbl_in (List.mem_of_getElem? (i := 1947) (by decide +kernel)) rfl
theorem w_1948 : Cond.selects "DearLettersModel" ⟨"DearLettersModel", "can", "(II)I"⟩ ⟨"DearLettersModel", "can", "(II)I"⟩ ∈ z_tbl := z_tbl_in (List.mem_of_getElem? (i := 1948) (by decide +kernel)) rfl
theorem lkl_67 : z_LV "DearLettersLaw" 67 12 mX12_can 2 := ⟨⟨w_1946, w_171, w_1949, ⟨by decide, by decide, by decide +kernel⟩, by decide⟩, by decide, w_1947, w_1948⟩
theorem w_1009 : Cond.methodLink "DearLettersLaw" 68 ⟨"DearLetters", "warmest", "(I)I"⟩ ∈ z_tbl := z_tbl_in (List.mem_of_getElem? (i := 1009) (by decide +kernel)) rfl
theorem w_1012 : Cond.code ⟨"DearLetters", "warmest", "(I)I"⟩ prog_1_method_14_code 2 (Option.some FieldType.int) ∈ z_tbl := z_tbl_in (List.mem_of_getElem? (i := 1012) (by decide +kernel)) rfl
theorem w_1010 : Cond.instanceMethod ⟨"DearLetters", "warmest", "(I)I"⟩ ∈ z_tbl := z_tbl_in (List.mem_of_getElem? (i := 1010) (by decide +kernel)) rfl
theorem w_1011 : Cond.selects "DearLetters" ⟨"DearLetters", "warmest", "(I)I"⟩ ⟨"DearLetters", "warmest", "(I)I"⟩ ∈ z_tbl := z_tbl_in (List.mem_of_getElem? (i := 1011) (by decide +kernel)) rfl
theorem lkl_68 : z_LV "DearLettersLaw" 68 11 mX11_warmest 1 := ⟨⟨w_1009, w_154, w_1012, ⟨by decide, by decide, by decide +kernel⟩, by decide⟩, by decide, w_1010, w_1011⟩
theorem w_1958 : Cond.methodLink "DearLettersLaw" 71 ⟨"DearLettersModel", "warmest", "(I)I"⟩ ∈ z_tbl := z_tbl_in (List.mem_of_getElem? (i := 1958) (by decide +kernel)) rfl
