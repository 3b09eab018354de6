set_option maxRecDepth 100000 in
set_option maxHeartbeats 4000000 in
theorem kX12_init_253_0 {M' : z_M} (I : List (Nat × Nat × Int32)) (J : List (Nat × Nat × Int64)) (R : List (Nat × Nat × Nat)) (k : z_G mX12_init 0 80 11334 none M' 129 [(0, .ref 253)] [.int (2 : Int32), .ref 259, .ref 259, .ref 253] 6 1624 (aM 260 ((259, 1, (114 : Int32)) :: ((259, 0, (103 : Int32)) :: ((258, 3, (100 : Int32)) :: ((258, 2, (101 : Int32)) :: ((258, 1, (101 : Int32)) :: ((258, 0, (110 : Int32)) :: ((257, 2, (101 : Int32)) :: ((257, 1, (103 : Int32)) :: ((257, 0, (97 : Int32)) :: ((256, 5, (114 : Int32)) :: ((256, 4, (101 : Int32)) :: ((256, 3, (116 : Int32)) :: ((256, 2, (116 : Int32)) :: ((256, 1, (101 : Int32)) :: ((256, 0, (108 : Int32)) :: ((253, 8, (-1 : Int32)) :: I)))))))))))))))) J ((253, 12, 258) :: ((253, 11, 257) :: ((253, 10, 256) :: ((253, 9, 255) :: ((253, 0, 254) :: R))))))) : z_G mX12_init 0 80 11334 none M' 0 [(0, .ref 253)] [] 0 0 (aM 254 I J R) := by
  refine z_aload_n (Y := mX12_init) (pc := 0) 0 dX12_init_0 rfl rfl ?_
  refine z_obj (Y := mX12_init) (pc := 1) dX12_init_1 w_1319 w_180 w_181 (by decide) ?_
  refine z_aload_n (Y := mX12_init) (pc := 4) 0 dX12_init_4 rfl rfl ?_
  refine z_sipush (Y := mX12_init) (pc := 5) (v := (1600 : Int32)) dX12_init_5 (by decide) ?_
  refine y_newA (Y := mX12_init) (pc := 8) (t := 20) (N := 1600) (n' := 255) (cs' := 1) (sl' := 1600) dX12_init_8 rfl (by decide) (by decide) w_286 zk_254 (by decide) (by decide) (by decide) rfl rfl rfl (by decide) (by decide) ?_
  refine y_putF (Y := mX12_init) (pc := 10) dX12_init_10 ff_12_7 zk_253 rfl (by decide) rfl ?_
  refine z_aload_n (Y := mX12_init) (pc := 13) 0 dX12_init_13 rfl rfl ?_
  refine z_iconst (Y := mX12_init) (pc := 14) (v := (-1 : Int32)) dX12_init_14 (by decide) ?_
  refine y_putI (Y := mX12_init) (pc := 15) dX12_init_15 fl_12_13 zk_253 rfl (by decide) rfl rfl ?_
  refine z_aload_n (Y := mX12_init) (pc := 18) 0 dX12_init_18 rfl rfl ?_
  refine z_bipush (Y := mX12_init) (pc := 19) (v := (6 : Int32)) dX12_init_19 (by decide) ?_
  refine y_newA (Y := mX12_init) (pc := 21) (t := 20) (N := 6) (n' := 256) (cs' := 2) (sl' := 1606) dX12_init_21 rfl (by decide) (by decide) w_286 zk_255 (by decide) (by decide) (by decide) rfl rfl rfl (by decide) (by decide) ?_
  refine y_putF (Y := mX12_init) (pc := 23) dX12_init_23 ff_12_17 zk_253 rfl (by decide) rfl ?_
  refine z_aload_n (Y := mX12_init) (pc := 26) 0 dX12_init_26 rfl rfl ?_
  refine z_bipush (Y := mX12_init) (pc := 27) (v := (6 : Int32)) dX12_init_27 (by decide) ?_
  refine y_newA (Y := mX12_init) (pc := 29) (t := 22) (N := 6) (n' := 257) (cs' := 3) (sl' := 1612) dX12_init_29 rfl (by decide) (by decide) w_1639 zk_256 (by decide) (by decide) (by decide) rfl rfl rfl (by decide) (by decide) ?_
  refine z_dup (Y := mX12_init) (pc := 31) dX12_init_31 rfl ?_
  refine z_iconst (Y := mX12_init) (pc := 32) (v := (0 : Int32)) dX12_init_32 (by decide) ?_
  refine z_bipush (Y := mX12_init) (pc := 33) (v := (108 : Int32)) dX12_init_33 (by decide) ?_
  refine y_cast (Y := mX12_init) (pc := 35) (k := 0) dX12_init_35 zk_256 (by decide) (by unfold vp_in; decide) (by decide) (by decide) ?_
  refine z_dup (Y := mX12_init) (pc := 36) dX12_init_36 rfl ?_
  refine z_iconst (Y := mX12_init) (pc := 37) (v := (1 : Int32)) dX12_init_37 (by decide) ?_
  refine z_bipush (Y := mX12_init) (pc := 38) (v := (101 : Int32)) dX12_init_38 (by decide) ?_
  refine y_cast (Y := mX12_init) (pc := 40) (k := 1) dX12_init_40 zk_256 (by decide) (by unfold vp_in; decide) (by decide) (by decide) ?_
  refine z_dup (Y := mX12_init) (pc := 41) dX12_init_41 rfl ?_
  refine z_iconst (Y := mX12_init) (pc := 42) (v := (2 : Int32)) dX12_init_42 (by decide) ?_
  refine z_bipush (Y := mX12_init) (pc := 43) (v := (116 : Int32)) dX12_init_43 (by decide) ?_
  refine y_cast (Y := mX12_init) (pc := 45) (k := 2) dX12_init_45 zk_256 (by decide) (by unfold vp_in; decide) (by decide) (by decide) ?_
  refine z_dup (Y := mX12_init) (pc := 46) dX12_init_46 rfl ?_
  refine z_iconst (Y := mX12_init) (pc := 47) (v := (3 : Int32)) dX12_init_47 (by decide) ?_
  refine z_bipush (Y := mX12_init) (pc := 48) (v := (116 : Int32)) dX12_init_48 (by decide) ?_
  refine y_cast (Y := mX12_init) (pc := 50) (k := 3) dX12_init_50 zk_256 (by decide) (by unfold vp_in; decide) (by decide) (by decide) ?_
  refine z_dup (Y := mX12_init) (pc := 51) dX12_init_51 rfl ?_
  refine z_iconst (Y := mX12_init) (pc := 52) (v := (4 : Int32)) dX12_init_52 (by decide) ?_
  refine z_bipush (Y := mX12_init) (pc := 53) (v := (101 : Int32)) dX12_init_53 (by decide) ?_
  refine y_cast (Y := mX12_init) (pc := 55) (k := 4) dX12_init_55 zk_256 (by decide) (by unfold vp_in; decide) (by decide) (by decide) ?_
  refine z_dup (Y := mX12_init) (pc := 56) dX12_init_56 rfl ?_
  refine z_iconst (Y := mX12_init) (pc := 57) (v := (5 : Int32)) dX12_init_57 (by decide) ?_
  refine z_bipush (Y := mX12_init) (pc := 58) (v := (114 : Int32)) dX12_init_58 (by decide) ?_
  refine y_cast (Y := mX12_init) (pc := 60) (k := 5) dX12_init_60 zk_256 (by decide) (by unfold vp_in; decide) (by decide) (by decide) ?_
  refine y_putF (Y := mX12_init) (pc := 61) dX12_init_61 ff_12_20 zk_253 rfl (by decide) rfl ?_
  refine z_aload_n (Y := mX12_init) (pc := 64) 0 dX12_init_64 rfl rfl ?_
  refine z_iconst (Y := mX12_init) (pc := 65) (v := (3 : Int32)) dX12_init_65 (by decide) ?_
  refine y_newA (Y := mX12_init) (pc := 66) (t := 22) (N := 3) (n' := 258) (cs' := 4) (sl' := 1615) dX12_init_66 rfl (by decide) (by decide) w_1639 zk_257 (by decide) (by decide) (by decide) rfl rfl rfl (by decide) (by decide) ?_
  refine z_dup (Y := mX12_init) (pc := 68) dX12_init_68 rfl ?_
  refine z_iconst (Y := mX12_init) (pc := 69) (v := (0 : Int32)) dX12_init_69 (by decide) ?_
  refine z_bipush (Y := mX12_init) (pc := 70) (v := (97 : Int32)) dX12_init_70 (by decide) ?_
  refine y_cast (Y := mX12_init) (pc := 72) (k := 0) dX12_init_72 zk_257 (by decide) (by unfold vp_in; decide) (by decide) (by decide) ?_
  refine z_dup (Y := mX12_init) (pc := 73) dX12_init_73 rfl ?_
  refine z_iconst (Y := mX12_init) (pc := 74) (v := (1 : Int32)) dX12_init_74 (by decide) ?_
  refine z_bipush (Y := mX12_init) (pc := 75) (v := (103 : Int32)) dX12_init_75 (by decide) ?_
  refine y_cast (Y := mX12_init) (pc := 77) (k := 1) dX12_init_77 zk_257 (by decide) (by unfold vp_in; decide) (by decide) (by decide) ?_
  refine z_dup (Y := mX12_init) (pc := 78) dX12_init_78 rfl ?_
  refine z_iconst (Y := mX12_init) (pc := 79) (v := (2 : Int32)) dX12_init_79 (by decide) ?_
  refine z_bipush (Y := mX12_init) (pc := 80) (v := (101 : Int32)) dX12_init_80 (by decide) ?_
  refine y_cast (Y := mX12_init) (pc := 82) (k := 2) dX12_init_82 zk_257 (by decide) (by unfold vp_in; decide) (by decide) (by decide) ?_
  refine y_putF (Y := mX12_init) (pc := 83) dX12_init_83 ff_12_24 zk_253 rfl (by decide) rfl ?_
  refine z_aload_n (Y := mX12_init) (pc := 86) 0 dX12_init_86 rfl rfl ?_
  refine z_iconst (Y := mX12_init) (pc := 87) (v := (4 : Int32)) dX12_init_87 (by decide) ?_
  refine y_newA (Y := mX12_init) (pc := 88) (t := 22) (N := 4) (n' := 259) (cs' := 5) (sl' := 1619) dX12_init_88 rfl (by decide) (by decide) w_1639 zk_258 (by decide) (by decide) (by decide) rfl rfl rfl (by decide) (by decide) ?_
  refine z_dup (Y := mX12_init) (pc := 90) dX12_init_90 rfl ?_
  refine z_iconst (Y := mX12_init) (pc := 91) (v := (0 : Int32)) dX12_init_91 (by decide) ?_
  refine z_bipush (Y := mX12_init) (pc := 92) (v := (110 : Int32)) dX12_init_92 (by decide) ?_
  refine y_cast (Y := mX12_init) (pc := 94) (k := 0) dX12_init_94 zk_258 (by decide) (by unfold vp_in; decide) (by decide) (by decide) ?_
  refine z_dup (Y := mX12_init) (pc := 95) dX12_init_95 rfl ?_
  refine z_iconst (Y := mX12_init) (pc := 96) (v := (1 : Int32)) dX12_init_96 (by decide) ?_
  refine z_bipush (Y := mX12_init) (pc := 97) (v := (101 : Int32)) dX12_init_97 (by decide) ?_
  refine y_cast (Y := mX12_init) (pc := 99) (k := 1) dX12_init_99 zk_258 (by decide) (by unfold vp_in; decide) (by decide) (by decide) ?_
  refine z_dup (Y := mX12_init) (pc := 100) dX12_init_100 rfl ?_
  refine z_iconst (Y := mX12_init) (pc := 101) (v := (2 : Int32)) dX12_init_101 (by decide) ?_
  refine z_bipush (Y := mX12_init) (pc := 102) (v := (101 : Int32)) dX12_init_102 (by decide) ?_
  refine y_cast (Y := mX12_init) (pc := 104) (k := 2) dX12_init_104 zk_258 (by decide) (by unfold vp_in; decide) (by decide) (by decide) ?_
  refine z_dup (Y := mX12_init) (pc := 105) dX12_init_105 rfl ?_
  refine z_iconst (Y := mX12_init) (pc := 106) (v := (3 : Int32)) dX12_init_106 (by decide) ?_
  refine z_bipush (Y := mX12_init) (pc := 107) (v := (100 : Int32)) dX12_init_107 (by decide) ?_
  refine y_cast (Y := mX12_init) (pc := 109) (k := 3) dX12_init_109 zk_258 (by decide) (by unfold vp_in; decide) (by decide) (by decide) ?_
  refine y_putF (Y := mX12_init) (pc := 110) dX12_init_110 ff_12_27 zk_253 rfl (by decide) rfl ?_
  refine z_aload_n (Y := mX12_init) (pc := 113) 0 dX12_init_113 rfl rfl ?_
  refine z_iconst (Y := mX12_init) (pc := 114) (v := (5 : Int32)) dX12_init_114 (by decide) ?_
  refine y_newA (Y := mX12_init) (pc := 115) (t := 22) (N := 5) (n' := 260) (cs' := 6) (sl' := 1624) dX12_init_115 rfl (by decide) (by decide) w_1639 zk_259 (by decide) (by decide) (by decide) rfl rfl rfl (by decide) (by decide) ?_
  refine z_dup (Y := mX12_init) (pc := 117) dX12_init_117 rfl ?_
  refine z_iconst (Y := mX12_init) (pc := 118) (v := (0 : Int32)) dX12_init_118 (by decide) ?_
  refine z_bipush (Y := mX12_init) (pc := 119) (v := (103 : Int32)) dX12_init_119 (by decide) ?_
  refine y_cast (Y := mX12_init) (pc := 121) (k := 0) dX12_init_121 zk_259 (by decide) (by unfold vp_in; decide) (by decide) (by decide) ?_
  refine z_dup (Y := mX12_init) (pc := 122) dX12_init_122 rfl ?_
  refine z_iconst (Y := mX12_init) (pc := 123) (v := (1 : Int32)) dX12_init_123 (by decide) ?_
  refine z_bipush (Y := mX12_init) (pc := 124) (v := (114 : Int32)) dX12_init_124 (by decide) ?_
  refine y_cast (Y := mX12_init) (pc := 126) (k := 1) dX12_init_126 zk_259 (by decide) (by unfold vp_in; decide) (by decide) (by decide) ?_
  refine z_dup (Y := mX12_init) (pc := 127) dX12_init_127 rfl ?_
  refine z_iconst (Y := mX12_init) (pc := 128) (v := (2 : Int32)) dX12_init_128 (by decide) ?_
  exact k
set_option maxRecDepth 100000 in
set_option maxHeartbeats 4000000 in
theorem kX12_init_253_1 {M' : z_M} (I : List (Nat × Nat × Int32)) (J : List (Nat × Nat × Int64)) (R : List (Nat × Nat × Nat)) (k : z_G mX12_init 0 80 11334 none M' 250 [(0, .ref 253)] [.ref 263, .ref 253] 10 1641 (aM 264 ((263, 2, (97 : Int32)) :: ((263, 1, (101 : Int32)) :: ((263, 0, (110 : Int32)) :: ((262, 3, (104 : Int32)) :: ((262, 2, (115 : Int32)) :: ((262, 1, (105 : Int32)) :: ((262, 0, (119 : Int32)) :: ((261, 4, (107 : Int32)) :: ((261, 3, (99 : Int32)) :: ((261, 2, (111 : Int32)) :: ((261, 1, (116 : Int32)) :: ((261, 0, (115 : Int32)) :: ((260, 3, (116 : Int32)) :: ((260, 2, (102 : Int32)) :: ((260, 1, (105 : Int32)) :: ((260, 0, (103 : Int32)) :: ((259, 4, (101 : Int32)) :: ((259, 3, (118 : Int32)) :: ((259, 2, (97 : Int32)) :: ((259, 1, (114 : Int32)) :: ((259, 0, (103 : Int32)) :: ((258, 3, (100 : Int32)) :: ((258, 2, (101 : Int32)) :: ((258, 1, (101 : Int32)) :: ((258, 0, (110 : Int32)) :: ((257, 2, (101 : Int32)) :: ((257, 1, (103 : Int32)) :: ((257, 0, (97 : Int32)) :: ((256, 5, (114 : Int32)) :: ((256, 4, (101 : Int32)) :: ((256, 3, (116 : Int32)) :: ((256, 2, (116 : Int32)) :: ((256, 1, (101 : Int32)) :: ((256, 0, (108 : Int32)) :: ((253, 8, (-1 : Int32)) :: I))))))))))))))))))))))))))))))))))) J ((253, 16, 262) :: ((253, 15, 261) :: ((253, 14, 260) :: ((253, 13, 259) :: ((253, 12, 258) :: ((253, 11, 257) :: ((253, 10, 256) :: ((253, 9, 255) :: ((253, 0, 254) :: R))))))))))) : z_G mX12_init 0 80 11334 none M' 129 [(0, .ref 253)] [.int (2 : Int32), .ref 259, .ref 259, .ref 253] 6 1624 (aM 260 ((259, 1, (114 : Int32)) :: ((259, 0, (103 : Int32)) :: ((258, 3, (100 : Int32)) :: ((258, 2, (101 : Int32)) :: ((258, 1, (101 : Int32)) :: ((258, 0, (110 : Int32)) :: ((257, 2, (101 : Int32)) :: ((257, 1, (103 : Int32)) :: ((257, 0, (97 : Int32)) :: ((256, 5, (114 : Int32)) :: ((256, 4, (101 : Int32)) :: ((256, 3, (116 : Int32)) :: ((256, 2, (116 : Int32)) :: ((256, 1, (101 : Int32)) :: ((256, 0, (108 : Int32)) :: ((253, 8, (-1 : Int32)) :: I)))))))))))))))) J ((253, 12, 258) :: ((253, 11, 257) :: ((253, 10, 256) :: ((253, 9, 255) :: ((253, 0, 254) :: R)))))) := by
  refine z_bipush (Y := mX12_init) (pc := 129) (v := (97 : Int32)) dX12_init_129 (by decide) ?_
  refine y_cast (Y := mX12_init) (pc := 131) (k := 2) dX12_init_131 zk_259 (by decide) (by unfold vp_in; decide) (by decide) (by decide) ?_
  refine z_dup (Y := mX12_init) (pc := 132) dX12_init_132 rfl ?_
  refine z_iconst (Y := mX12_init) (pc := 133) (v := (3 : Int32)) dX12_init_133 (by decide) ?_
  refine z_bipush (Y := mX12_init) (pc := 134) (v := (118 : Int32)) dX12_init_134 (by decide) ?_
  refine y_cast (Y := mX12_init) (pc := 136) (k := 3) dX12_init_136 zk_259 (by decide) (by unfold vp_in; decide) (by decide) (by decide) ?_
  refine z_dup (Y := mX12_init) (pc := 137) dX12_init_137 rfl ?_
  refine z_iconst (Y := mX12_init) (pc := 138) (v := (4 : Int32)) dX12_init_138 (by decide) ?_
  refine z_bipush (Y := mX12_init) (pc := 139) (v := (101 : Int32)) dX12_init_139 (by decide) ?_
  refine y_cast (Y := mX12_init) (pc := 141) (k := 4) dX12_init_141 zk_259 (by decide) (by unfold vp_in; decide) (by decide) (by decide) ?_
  refine y_putF (Y := mX12_init) (pc := 142) dX12_init_142 ff_12_30 zk_253 rfl (by decide) rfl ?_
  refine z_aload_n (Y := mX12_init) (pc := 145) 0 dX12_init_145 rfl rfl ?_
  refine z_iconst (Y := mX12_init) (pc := 146) (v := (4 : Int32)) dX12_init_146 (by decide) ?_
  refine y_newA (Y := mX12_init) (pc := 147) (t := 22) (N := 4) (n' := 261) (cs' := 7) (sl' := 1628) dX12_init_147 rfl (by decide) (by decide) w_1639 zk_260 (by decide) (by decide) (by decide) rfl rfl rfl (by decide) (by decide) ?_
  refine z_dup (Y := mX12_init) (pc := 149) dX12_init_149 rfl ?_
  refine z_iconst (Y := mX12_init) (pc := 150) (v := (0 : Int32)) dX12_init_150 (by decide) ?_
  refine z_bipush (Y := mX12_init) (pc := 151) (v := (103 : Int32)) dX12_init_151 (by decide) ?_
  refine y_cast (Y := mX12_init) (pc := 153) (k := 0) dX12_init_153 zk_260 (by decide) (by unfold vp_in; decide) (by decide) (by decide) ?_
  refine z_dup (Y := mX12_init) (pc := 154) dX12_init_154 rfl ?_
  refine z_iconst (Y := mX12_init) (pc := 155) (v := (1 : Int32)) dX12_init_155 (by decide) ?_
  refine z_bipush (Y := mX12_init) (pc := 156) (v := (105 : Int32)) dX12_init_156 (by decide) ?_
  refine y_cast (Y := mX12_init) (pc := 158) (k := 1) dX12_init_158 zk_260 (by decide) (by unfold vp_in; decide) (by decide) (by decide) ?_
  refine z_dup (Y := mX12_init) (pc := 159) dX12_init_159 rfl ?_
  refine z_iconst (Y := mX12_init) (pc := 160) (v := (2 : Int32)) dX12_init_160 (by decide) ?_
  refine z_bipush (Y := mX12_init) (pc := 161) (v := (102 : Int32)) dX12_init_161 (by decide) ?_
  refine y_cast (Y := mX12_init) (pc := 163) (k := 2) dX12_init_163 zk_260 (by decide) (by unfold vp_in; decide) (by decide) (by decide) ?_
  refine z_dup (Y := mX12_init) (pc := 164) dX12_init_164 rfl ?_
  refine z_iconst (Y := mX12_init) (pc := 165) (v := (3 : Int32)) dX12_init_165 (by decide) ?_
  refine z_bipush (Y := mX12_init) (pc := 166) (v := (116 : Int32)) dX12_init_166 (by decide) ?_
  refine y_cast (Y := mX12_init) (pc := 168) (k := 3) dX12_init_168 zk_260 (by decide) (by unfold vp_in; decide) (by decide) (by decide) ?_
  refine y_putF (Y := mX12_init) (pc := 169) dX12_init_169 ff_12_33 zk_253 rfl (by decide) rfl ?_
  refine z_aload_n (Y := mX12_init) (pc := 172) 0 dX12_init_172 rfl rfl ?_
  refine z_iconst (Y := mX12_init) (pc := 173) (v := (5 : Int32)) dX12_init_173 (by decide) ?_
  refine y_newA (Y := mX12_init) (pc := 174) (t := 22) (N := 5) (n' := 262) (cs' := 8) (sl' := 1633) dX12_init_174 rfl (by decide) (by decide) w_1639 zk_261 (by decide) (by decide) (by decide) rfl rfl rfl (by decide) (by decide) ?_
  refine z_dup (Y := mX12_init) (pc := 176) dX12_init_176 rfl ?_
  refine z_iconst (Y := mX12_init) (pc := 177) (v := (0 : Int32)) dX12_init_177 (by decide) ?_
  refine z_bipush (Y := mX12_init) (pc := 178) (v := (115 : Int32)) dX12_init_178 (by decide) ?_
  refine y_cast (Y := mX12_init) (pc := 180) (k := 0) dX12_init_180 zk_261 (by decide) (by unfold vp_in; decide) (by decide) (by decide) ?_
  refine z_dup (Y := mX12_init) (pc := 181) dX12_init_181 rfl ?_
  refine z_iconst (Y := mX12_init) (pc := 182) (v := (1 : Int32)) dX12_init_182 (by decide) ?_
  refine z_bipush (Y := mX12_init) (pc := 183) (v := (116 : Int32)) dX12_init_183 (by decide) ?_
  refine y_cast (Y := mX12_init) (pc := 185) (k := 1) dX12_init_185 zk_261 (by decide) (by unfold vp_in; decide) (by decide) (by decide) ?_
  refine z_dup (Y := mX12_init) (pc := 186) dX12_init_186 rfl ?_
  refine z_iconst (Y := mX12_init) (pc := 187) (v := (2 : Int32)) dX12_init_187 (by decide) ?_
  refine z_bipush (Y := mX12_init) (pc := 188) (v := (111 : Int32)) dX12_init_188 (by decide) ?_
  refine y_cast (Y := mX12_init) (pc := 190) (k := 2) dX12_init_190 zk_261 (by decide) (by unfold vp_in; decide) (by decide) (by decide) ?_
  refine z_dup (Y := mX12_init) (pc := 191) dX12_init_191 rfl ?_
  refine z_iconst (Y := mX12_init) (pc := 192) (v := (3 : Int32)) dX12_init_192 (by decide) ?_
  refine z_bipush (Y := mX12_init) (pc := 193) (v := (99 : Int32)) dX12_init_193 (by decide) ?_
  refine y_cast (Y := mX12_init) (pc := 195) (k := 3) dX12_init_195 zk_261 (by decide) (by unfold vp_in; decide) (by decide) (by decide) ?_
  refine z_dup (Y := mX12_init) (pc := 196) dX12_init_196 rfl ?_
  refine z_iconst (Y := mX12_init) (pc := 197) (v := (4 : Int32)) dX12_init_197 (by decide) ?_
  refine z_bipush (Y := mX12_init) (pc := 198) (v := (107 : Int32)) dX12_init_198 (by decide) ?_
  refine y_cast (Y := mX12_init) (pc := 200) (k := 4) dX12_init_200 zk_261 (by decide) (by unfold vp_in; decide) (by decide) (by decide) ?_
  refine y_putF (Y := mX12_init) (pc := 201) dX12_init_201 ff_12_36 zk_253 rfl (by decide) rfl ?_
  refine z_aload_n (Y := mX12_init) (pc := 204) 0 dX12_init_204 rfl rfl ?_
  refine z_iconst (Y := mX12_init) (pc := 205) (v := (4 : Int32)) dX12_init_205 (by decide) ?_
  refine y_newA (Y := mX12_init) (pc := 206) (t := 22) (N := 4) (n' := 263) (cs' := 9) (sl' := 1637) dX12_init_206 rfl (by decide) (by decide) w_1639 zk_262 (by decide) (by decide) (by decide) rfl rfl rfl (by decide) (by decide) ?_
  refine z_dup (Y := mX12_init) (pc := 208) dX12_init_208 rfl ?_
  refine z_iconst (Y := mX12_init) (pc := 209) (v := (0 : Int32)) dX12_init_209 (by decide) ?_
  refine z_bipush (Y := mX12_init) (pc := 210) (v := (119 : Int32)) dX12_init_210 (by decide) ?_
  refine y_cast (Y := mX12_init) (pc := 212) (k := 0) dX12_init_212 zk_262 (by decide) (by unfold vp_in; decide) (by decide) (by decide) ?_
  refine z_dup (Y := mX12_init) (pc := 213) dX12_init_213 rfl ?_
  refine z_iconst (Y := mX12_init) (pc := 214) (v := (1 : Int32)) dX12_init_214 (by decide) ?_
  refine z_bipush (Y := mX12_init) (pc := 215) (v := (105 : Int32)) dX12_init_215 (by decide) ?_
  refine y_cast (Y := mX12_init) (pc := 217) (k := 1) dX12_init_217 zk_262 (by decide) (by unfold vp_in; decide) (by decide) (by decide) ?_
  refine z_dup (Y := mX12_init) (pc := 218) dX12_init_218 rfl ?_
  refine z_iconst (Y := mX12_init) (pc := 219) (v := (2 : Int32)) dX12_init_219 (by decide) ?_
  refine z_bipush (Y := mX12_init) (pc := 220) (v := (115 : Int32)) dX12_init_220 (by decide) ?_
  refine y_cast (Y := mX12_init) (pc := 222) (k := 2) dX12_init_222 zk_262 (by decide) (by unfold vp_in; decide) (by decide) (by decide) ?_
  refine z_dup (Y := mX12_init) (pc := 223) dX12_init_223 rfl ?_
  refine z_iconst (Y := mX12_init) (pc := 224) (v := (3 : Int32)) dX12_init_224 (by decide) ?_
  refine z_bipush (Y := mX12_init) (pc := 225) (v := (104 : Int32)) dX12_init_225 (by decide) ?_
  refine y_cast (Y := mX12_init) (pc := 227) (k := 3) dX12_init_227 zk_262 (by decide) (by unfold vp_in; decide) (by decide) (by decide) ?_
  refine y_putF (Y := mX12_init) (pc := 228) dX12_init_228 ff_12_39 zk_253 rfl (by decide) rfl ?_
  refine z_aload_n (Y := mX12_init) (pc := 231) 0 dX12_init_231 rfl rfl ?_
  refine z_iconst (Y := mX12_init) (pc := 232) (v := (4 : Int32)) dX12_init_232 (by decide) ?_
  refine y_newA (Y := mX12_init) (pc := 233) (t := 22) (N := 4) (n' := 264) (cs' := 10) (sl' := 1641) dX12_init_233 rfl (by decide) (by decide) w_1639 zk_263 (by decide) (by decide) (by decide) rfl rfl rfl (by decide) (by decide) ?_
  refine z_dup (Y := mX12_init) (pc := 235) dX12_init_235 rfl ?_
  refine z_iconst (Y := mX12_init) (pc := 236) (v := (0 : Int32)) dX12_init_236 (by decide) ?_
  refine z_bipush (Y := mX12_init) (pc := 237) (v := (110 : Int32)) dX12_init_237 (by decide) ?_
  refine y_cast (Y := mX12_init) (pc := 239) (k := 0) dX12_init_239 zk_263 (by decide) (by unfold vp_in; decide) (by decide) (by decide) ?_
  refine z_dup (Y := mX12_init) (pc := 240) dX12_init_240 rfl ?_
  refine z_iconst (Y := mX12_init) (pc := 241) (v := (1 : Int32)) dX12_init_241 (by decide) ?_
  refine z_bipush (Y := mX12_init) (pc := 242) (v := (101 : Int32)) dX12_init_242 (by decide) ?_
  refine y_cast (Y := mX12_init) (pc := 244) (k := 1) dX12_init_244 zk_263 (by decide) (by unfold vp_in; decide) (by decide) (by decide) ?_
  refine z_dup (Y := mX12_init) (pc := 245) dX12_init_245 rfl ?_
  refine z_iconst (Y := mX12_init) (pc := 246) (v := (2 : Int32)) dX12_init_246 (by decide) ?_
  refine z_bipush (Y := mX12_init) (pc := 247) (v := (97 : Int32)) dX12_init_247 (by decide) ?_
  refine y_cast (Y := mX12_init) (pc := 249) (k := 2) dX12_init_249 zk_263 (by decide) (by unfold vp_in; decide) (by decide) (by decide) ?_
  exact k
set_option maxRecDepth 100000 in
set_option maxHeartbeats 4000000 in
theorem kX12_init_253_2 {M' : z_M} (I : List (Nat × Nat × Int32)) (J : List (Nat × Nat × Int64)) (R : List (Nat × Nat × Nat)) (k : z_G mX12_init 0 80 11334 none M' 371 [(0, .ref 253)] [.int (3 : Int32), .ref 267, .ref 267, .ref 253] 14 1659 (aM 268 ((267, 2, (110 : Int32)) :: ((267, 1, (97 : Int32)) :: ((267, 0, (104 : Int32)) :: ((266, 3, (101 : Int32)) :: ((266, 2, (109 : Int32)) :: ((266, 1, (105 : Int32)) :: ((266, 0, (116 : Int32)) :: ((265, 5, (114 : Int32)) :: ((265, 4, (101 : Int32)) :: ((265, 3, (112 : Int32)) :: ((265, 2, (108 : Int32)) :: ((265, 1, (101 : Int32)) :: ((265, 0, (104 : Int32)) :: ((264, 3, (101 : Int32)) :: ((264, 2, (107 : Int32)) :: ((264, 1, (105 : Int32)) :: ((264, 0, (108 : Int32)) :: ((263, 3, (114 : Int32)) :: ((263, 2, (97 : Int32)) :: ((263, 1, (101 : Int32)) :: ((263, 0, (110 : Int32)) :: ((262, 3, (104 : Int32)) :: ((262, 2, (115 : Int32)) :: ((262, 1, (105 : Int32)) :: ((262, 0, (119 : Int32)) :: ((261, 4, (107 : Int32)) :: ((261, 3, (99 : Int32)) :: ((261, 2, (111 : Int32)) :: ((261, 1, (116 : Int32)) :: ((261, 0, (115 : Int32)) :: ((260, 3, (116 : Int32)) :: ((260, 2, (102 : Int32)) :: ((260, 1, (105 : Int32)) :: ((260, 0, (103 : Int32)) :: ((259, 4, (101 : Int32)) :: ((259, 3, (118 : Int32)) :: ((259, 2, (97 : Int32)) :: ((259, 1, (114 : Int32)) :: ((259, 0, (103 : Int32)) :: ((258, 3, (100 : Int32)) :: ((258, 2, (101 : Int32)) :: ((258, 1, (101 : Int32)) :: ((258, 0, (110 : Int32)) :: ((257, 2, (101 : Int32)) :: ((257, 1, (103 : Int32)) :: ((257, 0, (97 : Int32)) :: ((256, 5, (114 : Int32)) :: ((256, 4, (101 : Int32)) :: ((256, 3, (116 : Int32)) :: ((256, 2, (116 : Int32)) :: ((256, 1, (101 : Int32)) :: ((256, 0, (108 : Int32)) :: ((253, 8, (-1 : Int32)) :: I))))))))))))))))))))))))))))))))))))))))))))))))))))) J ((253, 20, 266) :: ((253, 19, 265) :: ((253, 18, 264) :: ((253, 17, 263) :: ((253, 16, 262) :: ((253, 15, 261) :: ((253, 14, 260) :: ((253, 13, 259) :: ((253, 12, 258) :: ((253, 11, 257) :: ((253, 10, 256) :: ((253, 9, 255) :: ((253, 0, 254) :: R))))))))))))))) : z_G mX12_init 0 80 11334 none M' 250 [(0, .ref 253)] [.ref 263, .ref 253] 10 1641 (aM 264 ((263, 2, (97 : Int32)) :: ((263, 1, (101 : Int32)) :: ((263, 0, (110 : Int32)) :: ((262, 3, (104 : Int32)) :: ((262, 2, (115 : Int32)) :: ((262, 1, (105 : Int32)) :: ((262, 0, (119 : Int32)) :: ((261, 4, (107 : Int32)) :: ((261, 3, (99 : Int32)) :: ((261, 2, (111 : Int32)) :: ((261, 1, (116 : Int32)) :: ((261, 0, (115 : Int32)) :: ((260, 3, (116 : Int32)) :: ((260, 2, (102 : Int32)) :: ((260, 1, (105 : Int32)) :: ((260, 0, (103 : Int32)) :: ((259, 4, (101 : Int32)) :: ((259, 3, (118 : Int32)) :: ((259, 2, (97 : Int32)) :: ((259, 1, (114 : Int32)) :: ((259, 0, (103 : Int32)) :: ((258, 3, (100 : Int32)) :: ((258, 2, (101 : Int32)) :: ((258, 1, (101 : Int32)) :: ((258, 0, (110 : Int32)) :: ((257, 2, (101 : Int32)) :: ((257, 1, (103 : Int32)) :: ((257, 0, (97 : Int32)) :: ((256, 5, (114 : Int32)) :: ((256, 4, (101 : Int32)) :: ((256, 3, (116 : Int32)) :: ((256, 2, (116 : Int32)) :: ((256, 1, (101 : Int32)) :: ((256, 0, (108 : Int32)) :: ((253, 8, (-1 : Int32)) :: I))))))))))))))))))))))))))))))))))) J ((253, 16, 262) :: ((253, 15, 261) :: ((253, 14, 260) :: ((253, 13, 259) :: ((253, 12, 258) :: ((253, 11, 257) :: ((253, 10, 256) :: ((253, 9, 255) :: ((253, 0, 254) :: R)))))))))) := by
  refine z_dup (Y := mX12_init) (pc := 250) dX12_init_250 rfl ?_
  refine z_iconst (Y := mX12_init) (pc := 251) (v := (3 : Int32)) dX12_init_251 (by decide) ?_
  refine z_bipush (Y := mX12_init) (pc := 252) (v := (114 : Int32)) dX12_init_252 (by decide) ?_
  refine y_cast (Y := mX12_init) (pc := 254) (k := 3) dX12_init_254 zk_263 (by decide) (by unfold vp_in; decide) (by decide) (by decide) ?_
  refine y_putF (Y := mX12_init) (pc := 255) dX12_init_255 ff_12_42 zk_253 rfl (by decide) rfl ?_
  refine z_aload_n (Y := mX12_init) (pc := 258) 0 dX12_init_258 rfl rfl ?_
  refine z_iconst (Y := mX12_init) (pc := 259) (v := (4 : Int32)) dX12_init_259 (by decide) ?_
  refine y_newA (Y := mX12_init) (pc := 260) (t := 22) (N := 4) (n' := 265) (cs' := 11) (sl' := 1645) dX12_init_260 rfl (by decide) (by decide) w_1639 zk_264 (by decide) (by decide) (by decide) rfl rfl rfl (by decide) (by decide) ?_
  refine z_dup (Y := mX12_init) (pc := 262) dX12_init_262 rfl ?_
  refine z_iconst (Y := mX12_init) (pc := 263) (v := (0 : Int32)) dX12_init_263 (by decide) ?_
  refine z_bipush (Y := mX12_init) (pc := 264) (v := (108 : Int32)) dX12_init_264 (by decide) ?_
  refine y_cast (Y := mX12_init) (pc := 266) (k := 0) dX12_init_266 zk_264 (by decide) (by unfold vp_in; decide) (by decide) (by decide) ?_
  refine z_dup (Y := mX12_init) (pc := 267) dX12_init_267 rfl ?_
  refine z_iconst (Y := mX12_init) (pc := 268) (v := (1 : Int32)) dX12_init_268 (by decide) ?_
  refine z_bipush (Y := mX12_init) (pc := 269) (v := (105 : Int32)) dX12_init_269 (by decide) ?_
  refine y_cast (Y := mX12_init) (pc := 271) (k := 1) dX12_init_271 zk_264 (by decide) (by unfold vp_in; decide) (by decide) (by decide) ?_
  refine z_dup (Y := mX12_init) (pc := 272) dX12_init_272 rfl ?_
  refine z_iconst (Y := mX12_init) (pc := 273) (v := (2 : Int32)) dX12_init_273 (by decide) ?_
  refine z_bipush (Y := mX12_init) (pc := 274) (v := (107 : Int32)) dX12_init_274 (by decide) ?_
  refine y_cast (Y := mX12_init) (pc := 276) (k := 2) dX12_init_276 zk_264 (by decide) (by unfold vp_in; decide) (by decide) (by decide) ?_
  refine z_dup (Y := mX12_init) (pc := 277) dX12_init_277 rfl ?_
  refine z_iconst (Y := mX12_init) (pc := 278) (v := (3 : Int32)) dX12_init_278 (by decide) ?_
  refine z_bipush (Y := mX12_init) (pc := 279) (v := (101 : Int32)) dX12_init_279 (by decide) ?_
  refine y_cast (Y := mX12_init) (pc := 281) (k := 3) dX12_init_281 zk_264 (by decide) (by unfold vp_in; decide) (by decide) (by decide) ?_
  refine y_putF (Y := mX12_init) (pc := 282) dX12_init_282 ff_12_45 zk_253 rfl (by decide) rfl ?_
  refine z_aload_n (Y := mX12_init) (pc := 285) 0 dX12_init_285 rfl rfl ?_
  refine z_bipush (Y := mX12_init) (pc := 286) (v := (6 : Int32)) dX12_init_286 (by decide) ?_
  refine y_newA (Y := mX12_init) (pc := 288) (t := 22) (N := 6) (n' := 266) (cs' := 12) (sl' := 1651) dX12_init_288 rfl (by decide) (by decide) w_1639 zk_265 (by decide) (by decide) (by decide) rfl rfl rfl (by decide) (by decide) ?_
  refine z_dup (Y := mX12_init) (pc := 290) dX12_init_290 rfl ?_
  refine z_iconst (Y := mX12_init) (pc := 291) (v := (0 : Int32)) dX12_init_291 (by decide) ?_
  refine z_bipush (Y := mX12_init) (pc := 292) (v := (104 : Int32)) dX12_init_292 (by decide) ?_
  refine y_cast (Y := mX12_init) (pc := 294) (k := 0) dX12_init_294 zk_265 (by decide) (by unfold vp_in; decide) (by decide) (by decide) ?_
  refine z_dup (Y := mX12_init) (pc := 295) dX12_init_295 rfl ?_
  refine z_iconst (Y := mX12_init) (pc := 296) (v := (1 : Int32)) dX12_init_296 (by decide) ?_
  refine z_bipush (Y := mX12_init) (pc := 297) (v := (101 : Int32)) dX12_init_297 (by decide) ?_
  refine y_cast (Y := mX12_init) (pc := 299) (k := 1) dX12_init_299 zk_265 (by decide) (by unfold vp_in; decide) (by decide) (by decide) ?_
  refine z_dup (Y := mX12_init) (pc := 300) dX12_init_300 rfl ?_
  refine z_iconst (Y := mX12_init) (pc := 301) (v := (2 : Int32)) dX12_init_301 (by decide) ?_
  refine z_bipush (Y := mX12_init) (pc := 302) (v := (108 : Int32)) dX12_init_302 (by decide) ?_
  refine y_cast (Y := mX12_init) (pc := 304) (k := 2) dX12_init_304 zk_265 (by decide) (by unfold vp_in; decide) (by decide) (by decide) ?_
  refine z_dup (Y := mX12_init) (pc := 305) dX12_init_305 rfl ?_
  refine z_iconst (Y := mX12_init) (pc := 306) (v := (3 : Int32)) dX12_init_306 (by decide) ?_
  refine z_bipush (Y := mX12_init) (pc := 307) (v := (112 : Int32)) dX12_init_307 (by decide) ?_
  refine y_cast (Y := mX12_init) (pc := 309) (k := 3) dX12_init_309 zk_265 (by decide) (by unfold vp_in; decide) (by decide) (by decide) ?_
  refine z_dup (Y := mX12_init) (pc := 310) dX12_init_310 rfl ?_
  refine z_iconst (Y := mX12_init) (pc := 311) (v := (4 : Int32)) dX12_init_311 (by decide) ?_
  refine z_bipush (Y := mX12_init) (pc := 312) (v := (101 : Int32)) dX12_init_312 (by decide) ?_
  refine y_cast (Y := mX12_init) (pc := 314) (k := 4) dX12_init_314 zk_265 (by decide) (by unfold vp_in; decide) (by decide) (by decide) ?_
  refine z_dup (Y := mX12_init) (pc := 315) dX12_init_315 rfl ?_
  refine z_iconst (Y := mX12_init) (pc := 316) (v := (5 : Int32)) dX12_init_316 (by decide) ?_
  refine z_bipush (Y := mX12_init) (pc := 317) (v := (114 : Int32)) dX12_init_317 (by decide) ?_
  refine y_cast (Y := mX12_init) (pc := 319) (k := 5) dX12_init_319 zk_265 (by decide) (by unfold vp_in; decide) (by decide) (by decide) ?_
  refine y_putF (Y := mX12_init) (pc := 320) dX12_init_320 ff_12_48 zk_253 rfl (by decide) rfl ?_
  refine z_aload_n (Y := mX12_init) (pc := 323) 0 dX12_init_323 rfl rfl ?_
  refine z_iconst (Y := mX12_init) (pc := 324) (v := (4 : Int32)) dX12_init_324 (by decide) ?_
  refine y_newA (Y := mX12_init) (pc := 325) (t := 22) (N := 4) (n' := 267) (cs' := 13) (sl' := 1655) dX12_init_325 rfl (by decide) (by decide) w_1639 zk_266 (by decide) (by decide) (by decide) rfl rfl rfl (by decide) (by decide) ?_
  refine z_dup (Y := mX12_init) (pc := 327) dX12_init_327 rfl ?_
  refine z_iconst (Y := mX12_init) (pc := 328) (v := (0 : Int32)) dX12_init_328 (by decide) ?_
  refine z_bipush (Y := mX12_init) (pc := 329) (v := (116 : Int32)) dX12_init_329 (by decide) ?_
  refine y_cast (Y := mX12_init) (pc := 331) (k := 0) dX12_init_331 zk_266 (by decide) (by unfold vp_in; decide) (by decide) (by decide) ?_
  refine z_dup (Y := mX12_init) (pc := 332) dX12_init_332 rfl ?_
  refine z_iconst (Y := mX12_init) (pc := 333) (v := (1 : Int32)) dX12_init_333 (by decide) ?_
  refine z_bipush (Y := mX12_init) (pc := 334) (v := (105 : Int32)) dX12_init_334 (by decide) ?_
  refine y_cast (Y := mX12_init) (pc := 336) (k := 1) dX12_init_336 zk_266 (by decide) (by unfold vp_in; decide) (by decide) (by decide) ?_
  refine z_dup (Y := mX12_init) (pc := 337) dX12_init_337 rfl ?_
  refine z_iconst (Y := mX12_init) (pc := 338) (v := (2 : Int32)) dX12_init_338 (by decide) ?_
  refine z_bipush (Y := mX12_init) (pc := 339) (v := (109 : Int32)) dX12_init_339 (by decide) ?_
  refine y_cast (Y := mX12_init) (pc := 341) (k := 2) dX12_init_341 zk_266 (by decide) (by unfold vp_in; decide) (by decide) (by decide) ?_
  refine z_dup (Y := mX12_init) (pc := 342) dX12_init_342 rfl ?_
  refine z_iconst (Y := mX12_init) (pc := 343) (v := (3 : Int32)) dX12_init_343 (by decide) ?_
  refine z_bipush (Y := mX12_init) (pc := 344) (v := (101 : Int32)) dX12_init_344 (by decide) ?_
  refine y_cast (Y := mX12_init) (pc := 346) (k := 3) dX12_init_346 zk_266 (by decide) (by unfold vp_in; decide) (by decide) (by decide) ?_
  refine y_putF (Y := mX12_init) (pc := 347) dX12_init_347 ff_12_51 zk_253 rfl (by decide) rfl ?_
  refine z_aload_n (Y := mX12_init) (pc := 350) 0 dX12_init_350 rfl rfl ?_
  refine z_iconst (Y := mX12_init) (pc := 351) (v := (4 : Int32)) dX12_init_351 (by decide) ?_
  refine y_newA (Y := mX12_init) (pc := 352) (t := 22) (N := 4) (n' := 268) (cs' := 14) (sl' := 1659) dX12_init_352 rfl (by decide) (by decide) w_1639 zk_267 (by decide) (by decide) (by decide) rfl rfl rfl (by decide) (by decide) ?_
  refine z_dup (Y := mX12_init) (pc := 354) dX12_init_354 rfl ?_
  refine z_iconst (Y := mX12_init) (pc := 355) (v := (0 : Int32)) dX12_init_355 (by decide) ?_
  refine z_bipush (Y := mX12_init) (pc := 356) (v := (104 : Int32)) dX12_init_356 (by decide) ?_
  refine y_cast (Y := mX12_init) (pc := 358) (k := 0) dX12_init_358 zk_267 (by decide) (by unfold vp_in; decide) (by decide) (by decide) ?_
  refine z_dup (Y := mX12_init) (pc := 359) dX12_init_359 rfl ?_
  refine z_iconst (Y := mX12_init) (pc := 360) (v := (1 : Int32)) dX12_init_360 (by decide) ?_
  refine z_bipush (Y := mX12_init) (pc := 361) (v := (97 : Int32)) dX12_init_361 (by decide) ?_
  refine y_cast (Y := mX12_init) (pc := 363) (k := 1) dX12_init_363 zk_267 (by decide) (by unfold vp_in; decide) (by decide) (by decide) ?_
  refine z_dup (Y := mX12_init) (pc := 364) dX12_init_364 rfl ?_
  refine z_iconst (Y := mX12_init) (pc := 365) (v := (2 : Int32)) dX12_init_365 (by decide) ?_
  refine z_bipush (Y := mX12_init) (pc := 366) (v := (110 : Int32)) dX12_init_366 (by decide) ?_
  refine y_cast (Y := mX12_init) (pc := 368) (k := 2) dX12_init_368 zk_267 (by decide) (by unfold vp_in; decide) (by decide) (by decide) ?_
  refine z_dup (Y := mX12_init) (pc := 369) dX12_init_369 rfl ?_
  refine z_iconst (Y := mX12_init) (pc := 370) (v := (3 : Int32)) dX12_init_370 (by decide) ?_
  exact k
set_option maxRecDepth 100000 in
set_option maxHeartbeats 4000000 in
theorem kX12_init_253_3 {M' : z_M} (I : List (Nat × Nat × Int32)) (J : List (Nat × Nat × Int64)) (R : List (Nat × Nat × Nat)) (k : z_G mX12_init 0 80 11334 none M' 493 [(0, .ref 253)] [.ref 271, .ref 253] 18 1679 (aM 272 ((271, 3, (115 : Int32)) :: ((271, 2, (115 : Int32)) :: ((271, 1, (105 : Int32)) :: ((271, 0, (109 : Int32)) :: ((270, 3, (109 : Int32)) :: ((270, 2, (114 : Int32)) :: ((270, 1, (97 : Int32)) :: ((270, 0, (119 : Int32)) :: ((269, 4, (115 : Int32)) :: ((269, 3, (101 : Int32)) :: ((269, 2, (107 : Int32)) :: ((269, 1, (97 : Int32)) :: ((269, 0, (116 : Int32)) :: ((268, 4, (115 : Int32)) :: ((268, 3, (114 : Int32)) :: ((268, 2, (97 : Int32)) :: ((268, 1, (101 : Int32)) :: ((268, 0, (98 : Int32)) :: ((267, 3, (100 : Int32)) :: ((267, 2, (110 : Int32)) :: ((267, 1, (97 : Int32)) :: ((267, 0, (104 : Int32)) :: ((266, 3, (101 : Int32)) :: ((266, 2, (109 : Int32)) :: ((266, 1, (105 : Int32)) :: ((266, 0, (116 : Int32)) :: ((265, 5, (114 : Int32)) :: ((265, 4, (101 : Int32)) :: ((265, 3, (112 : Int32)) :: ((265, 2, (108 : Int32)) :: ((265, 1, (101 : Int32)) :: ((265, 0, (104 : Int32)) :: ((264, 3, (101 : Int32)) :: ((264, 2, (107 : Int32)) :: ((264, 1, (105 : Int32)) :: ((264, 0, (108 : Int32)) :: ((263, 3, (114 : Int32)) :: ((263, 2, (97 : Int32)) :: ((263, 1, (101 : Int32)) :: ((263, 0, (110 : Int32)) :: ((262, 3, (104 : Int32)) :: ((262, 2, (115 : Int32)) :: ((262, 1, (105 : Int32)) :: ((262, 0, (119 : Int32)) :: ((261, 4, (107 : Int32)) :: ((261, 3, (99 : Int32)) :: ((261, 2, (111 : Int32)) :: ((261, 1, (116 : Int32)) :: ((261, 0, (115 : Int32)) :: ((260, 3, (116 : Int32)) :: ((260, 2, (102 : Int32)) :: ((260, 1, (105 : Int32)) :: ((260, 0, (103 : Int32)) :: ((259, 4, (101 : Int32)) :: ((259, 3, (118 : Int32)) :: ((259, 2, (97 : Int32)) :: ((259, 1, (114 : Int32)) :: ((259, 0, (103 : Int32)) :: ((258, 3, (100 : Int32)) :: ((258, 2, (101 : Int32)) :: ((258, 1, (101 : Int32)) :: ((258, 0, (110 : Int32)) :: ((257, 2, (101 : Int32)) :: ((257, 1, (103 : Int32)) :: ((257, 0, (97 : Int32)) :: ((256, 5, (114 : Int32)) :: ((256, 4, (101 : Int32)) :: ((256, 3, (116 : Int32)) :: ((256, 2, (116 : Int32)) :: ((256, 1, (101 : Int32)) :: ((256, 0, (108 : Int32)) :: ((253, 8, (-1 : Int32)) :: I)))))))))))))))))))))))))))))))))))))))))))))))))))))))))))))))))))))))) J ((253, 24, 270) :: ((253, 23, 269) :: ((253, 22, 268) :: ((253, 21, 267) :: ((253, 20, 266) :: ((253, 19, 265) :: ((253, 18, 264) :: ((253, 17, 263) :: ((253, 16, 262) :: ((253, 15, 261) :: ((253, 14, 260) :: ((253, 13, 259) :: ((253, 12, 258) :: ((253, 11, 257) :: ((253, 10, 256) :: ((253, 9, 255) :: ((253, 0, 254) :: R))))))))))))))))))) : z_G mX12_init 0 80 11334 none M' 371 [(0, .ref 253)] [.int (3 : Int32), .ref 267, .ref 267, .ref 253] 14 1659 (aM 268 ((267, 2, (110 : Int32)) :: ((267, 1, (97 : Int32)) :: ((267, 0, (104 : Int32)) :: ((266, 3, (101 : Int32)) :: ((266, 2, (109 : Int32)) :: ((266, 1, (105 : Int32)) :: ((266, 0, (116 : Int32)) :: ((265, 5, (114 : Int32)) :: ((265, 4, (101 : Int32)) :: ((265, 3, (112 : Int32)) :: ((265, 2, (108 : Int32)) :: ((265, 1, (101 : Int32)) :: ((265, 0, (104 : Int32)) :: ((264, 3, (101 : Int32)) :: ((264, 2, (107 : Int32)) :: ((264, 1, (105 : Int32)) :: ((264, 0, (108 : Int32)) :: ((263, 3, (114 : Int32)) :: ((263, 2, (97 : Int32)) :: ((263, 1, (101 : Int32)) :: ((263, 0, (110 : Int32)) :: ((262, 3, (104 : Int32)) :: ((262, 2, (115 : Int32)) :: ((262, 1, (105 : Int32)) :: ((262, 0, (119 : Int32)) :: ((261, 4, (107 : Int32)) :: ((261, 3, (99 : Int32)) :: ((261, 2, (111 : Int32)) :: ((261, 1, (116 : Int32)) :: ((261, 0, (115 : Int32)) :: ((260, 3, (116 : Int32)) :: ((260, 2, (102 : Int32)) :: ((260, 1, (105 : Int32)) :: ((260, 0, (103 : Int32)) :: ((259, 4, (101 : Int32)) :: ((259, 3, (118 : Int32)) :: ((259, 2, (97 : Int32)) :: ((259, 1, (114 : Int32)) :: ((259, 0, (103 : Int32)) :: ((258, 3, (100 : Int32)) :: ((258, 2, (101 : Int32)) :: ((258, 1, (101 : Int32)) :: ((258, 0, (110 : Int32)) :: ((257, 2, (101 : Int32)) :: ((257, 1, (103 : Int32)) :: ((257, 0, (97 : Int32)) :: ((256, 5, (114 : Int32)) :: ((256, 4, (101 : Int32)) :: ((256, 3, (116 : Int32)) :: ((256, 2, (116 : Int32)) :: ((256, 1, (101 : Int32)) :: ((256, 0, (108 : Int32)) :: ((253, 8, (-1 : Int32)) :: I))))))))))))))))))))))))))))))))))))))))))))))))))))) J ((253, 20, 266) :: ((253, 19, 265) :: ((253, 18, 264) :: ((253, 17, 263) :: ((253, 16, 262) :: ((253, 15, 261) :: ((253, 14, 260) :: ((253, 13, 259) :: ((253, 12, 258) :: ((253, 11, 257) :: ((253, 10, 256) :: ((253, 9, 255) :: ((253, 0, 254) :: R)))))))))))))) := by
  refine z_bipush (Y := mX12_init) (pc := 371) (v := (100 : Int32)) dX12_init_371 (by decide) ?_
  refine y_cast (Y := mX12_init) (pc := 373) (k := 3) dX12_init_373 zk_267 (by decide) (by unfold vp_in; decide) (by decide) (by decide) ?_
  refine y_putF (Y := mX12_init) (pc := 374) dX12_init_374 ff_12_54 zk_253 rfl (by decide) rfl ?_
  refine z_aload_n (Y := mX12_init) (pc := 377) 0 dX12_init_377 rfl rfl ?_
  refine z_iconst (Y := mX12_init) (pc := 378) (v := (5 : Int32)) dX12_init_378 (by decide) ?_
  refine y_newA (Y := mX12_init) (pc := 379) (t := 22) (N := 5) (n' := 269) (cs' := 15) (sl' := 1664) dX12_init_379 rfl (by decide) (by decide) w_1639 zk_268 (by decide) (by decide) (by decide) rfl rfl rfl (by decide) (by decide) ?_
  refine z_dup (Y := mX12_init) (pc := 381) dX12_init_381 rfl ?_
  refine z_iconst (Y := mX12_init) (pc := 382) (v := (0 : Int32)) dX12_init_382 (by decide) ?_
  refine z_bipush (Y := mX12_init) (pc := 383) (v := (98 : Int32)) dX12_init_383 (by decide) ?_
  refine y_cast (Y := mX12_init) (pc := 385) (k := 0) dX12_init_385 zk_268 (by decide) (by unfold vp_in; decide) (by decide) (by decide) ?_
  refine z_dup (Y := mX12_init) (pc := 386) dX12_init_386 rfl ?_
  refine z_iconst (Y := mX12_init) (pc := 387) (v := (1 : Int32)) dX12_init_387 (by decide) ?_
  refine z_bipush (Y := mX12_init) (pc := 388) (v := (101 : Int32)) dX12_init_388 (by decide) ?_
  refine y_cast (Y := mX12_init) (pc := 390) (k := 1) dX12_init_390 zk_268 (by decide) (by unfold vp_in; decide) (by decide) (by decide) ?_
  refine z_dup (Y := mX12_init) (pc := 391) dX12_init_391 rfl ?_
  refine z_iconst (Y := mX12_init) (pc := 392) (v := (2 : Int32)) dX12_init_392 (by decide) ?_
  refine z_bipush (Y := mX12_init) (pc := 393) (v := (97 : Int32)) dX12_init_393 (by decide) ?_
  refine y_cast (Y := mX12_init) (pc := 395) (k := 2) dX12_init_395 zk_268 (by decide) (by unfold vp_in; decide) (by decide) (by decide) ?_
  refine z_dup (Y := mX12_init) (pc := 396) dX12_init_396 rfl ?_
  refine z_iconst (Y := mX12_init) (pc := 397) (v := (3 : Int32)) dX12_init_397 (by decide) ?_
  refine z_bipush (Y := mX12_init) (pc := 398) (v := (114 : Int32)) dX12_init_398 (by decide) ?_
  refine y_cast (Y := mX12_init) (pc := 400) (k := 3) dX12_init_400 zk_268 (by decide) (by unfold vp_in; decide) (by decide) (by decide) ?_
  refine z_dup (Y := mX12_init) (pc := 401) dX12_init_401 rfl ?_
  refine z_iconst (Y := mX12_init) (pc := 402) (v := (4 : Int32)) dX12_init_402 (by decide) ?_
  refine z_bipush (Y := mX12_init) (pc := 403) (v := (115 : Int32)) dX12_init_403 (by decide) ?_
  refine y_cast (Y := mX12_init) (pc := 405) (k := 4) dX12_init_405 zk_268 (by decide) (by unfold vp_in; decide) (by decide) (by decide) ?_
  refine y_putF (Y := mX12_init) (pc := 406) dX12_init_406 ff_12_57 zk_253 rfl (by decide) rfl ?_
  refine z_aload_n (Y := mX12_init) (pc := 409) 0 dX12_init_409 rfl rfl ?_
  refine z_iconst (Y := mX12_init) (pc := 410) (v := (5 : Int32)) dX12_init_410 (by decide) ?_
  refine y_newA (Y := mX12_init) (pc := 411) (t := 22) (N := 5) (n' := 270) (cs' := 16) (sl' := 1669) dX12_init_411 rfl (by decide) (by decide) w_1639 zk_269 (by decide) (by decide) (by decide) rfl rfl rfl (by decide) (by decide) ?_
  refine z_dup (Y := mX12_init) (pc := 413) dX12_init_413 rfl ?_
  refine z_iconst (Y := mX12_init) (pc := 414) (v := (0 : Int32)) dX12_init_414 (by decide) ?_
  refine z_bipush (Y := mX12_init) (pc := 415) (v := (116 : Int32)) dX12_init_415 (by decide) ?_
  refine y_cast (Y := mX12_init) (pc := 417) (k := 0) dX12_init_417 zk_269 (by decide) (by unfold vp_in; decide) (by decide) (by decide) ?_
  refine z_dup (Y := mX12_init) (pc := 418) dX12_init_418 rfl ?_
  refine z_iconst (Y := mX12_init) (pc := 419) (v := (1 : Int32)) dX12_init_419 (by decide) ?_
  refine z_bipush (Y := mX12_init) (pc := 420) (v := (97 : Int32)) dX12_init_420 (by decide) ?_
  refine y_cast (Y := mX12_init) (pc := 422) (k := 1) dX12_init_422 zk_269 (by decide) (by unfold vp_in; decide) (by decide) (by decide) ?_
  refine z_dup (Y := mX12_init) (pc := 423) dX12_init_423 rfl ?_
  refine z_iconst (Y := mX12_init) (pc := 424) (v := (2 : Int32)) dX12_init_424 (by decide) ?_
  refine z_bipush (Y := mX12_init) (pc := 425) (v := (107 : Int32)) dX12_init_425 (by decide) ?_
  refine y_cast (Y := mX12_init) (pc := 427) (k := 2) dX12_init_427 zk_269 (by decide) (by unfold vp_in; decide) (by decide) (by decide) ?_
  refine z_dup (Y := mX12_init) (pc := 428) dX12_init_428 rfl ?_
  refine z_iconst (Y := mX12_init) (pc := 429) (v := (3 : Int32)) dX12_init_429 (by decide) ?_
  refine z_bipush (Y := mX12_init) (pc := 430) (v := (101 : Int32)) dX12_init_430 (by decide) ?_
  refine y_cast (Y := mX12_init) (pc := 432) (k := 3) dX12_init_432 zk_269 (by decide) (by unfold vp_in; decide) (by decide) (by decide) ?_
  refine z_dup (Y := mX12_init) (pc := 433) dX12_init_433 rfl ?_
  refine z_iconst (Y := mX12_init) (pc := 434) (v := (4 : Int32)) dX12_init_434 (by decide) ?_
  refine z_bipush (Y := mX12_init) (pc := 435) (v := (115 : Int32)) dX12_init_435 (by decide) ?_
  refine y_cast (Y := mX12_init) (pc := 437) (k := 4) dX12_init_437 zk_269 (by decide) (by unfold vp_in; decide) (by decide) (by decide) ?_
  refine y_putF (Y := mX12_init) (pc := 438) dX12_init_438 ff_12_60 zk_253 rfl (by decide) rfl ?_
  refine z_aload_n (Y := mX12_init) (pc := 441) 0 dX12_init_441 rfl rfl ?_
  refine z_iconst (Y := mX12_init) (pc := 442) (v := (4 : Int32)) dX12_init_442 (by decide) ?_
  refine y_newA (Y := mX12_init) (pc := 443) (t := 22) (N := 4) (n' := 271) (cs' := 17) (sl' := 1673) dX12_init_443 rfl (by decide) (by decide) w_1639 zk_270 (by decide) (by decide) (by decide) rfl rfl rfl (by decide) (by decide) ?_
  refine z_dup (Y := mX12_init) (pc := 445) dX12_init_445 rfl ?_
  refine z_iconst (Y := mX12_init) (pc := 446) (v := (0 : Int32)) dX12_init_446 (by decide) ?_
  refine z_bipush (Y := mX12_init) (pc := 447) (v := (119 : Int32)) dX12_init_447 (by decide) ?_
  refine y_cast (Y := mX12_init) (pc := 449) (k := 0) dX12_init_449 zk_270 (by decide) (by unfold vp_in; decide) (by decide) (by decide) ?_
  refine z_dup (Y := mX12_init) (pc := 450) dX12_init_450 rfl ?_
  refine z_iconst (Y := mX12_init) (pc := 451) (v := (1 : Int32)) dX12_init_451 (by decide) ?_
  refine z_bipush (Y := mX12_init) (pc := 452) (v := (97 : Int32)) dX12_init_452 (by decide) ?_
  refine y_cast (Y := mX12_init) (pc := 454) (k := 1) dX12_init_454 zk_270 (by decide) (by unfold vp_in; decide) (by decide) (by decide) ?_
  refine z_dup (Y := mX12_init) (pc := 455) dX12_init_455 rfl ?_
  refine z_iconst (Y := mX12_init) (pc := 456) (v := (2 : Int32)) dX12_init_456 (by decide) ?_
  refine z_bipush (Y := mX12_init) (pc := 457) (v := (114 : Int32)) dX12_init_457 (by decide) ?_
  refine y_cast (Y := mX12_init) (pc := 459) (k := 2) dX12_init_459 zk_270 (by decide) (by unfold vp_in; decide) (by decide) (by decide) ?_
  refine z_dup (Y := mX12_init) (pc := 460) dX12_init_460 rfl ?_
  refine z_iconst (Y := mX12_init) (pc := 461) (v := (3 : Int32)) dX12_init_461 (by decide) ?_
  refine z_bipush (Y := mX12_init) (pc := 462) (v := (109 : Int32)) dX12_init_462 (by decide) ?_
  refine y_cast (Y := mX12_init) (pc := 464) (k := 3) dX12_init_464 zk_270 (by decide) (by unfold vp_in; decide) (by decide) (by decide) ?_
  refine y_putF (Y := mX12_init) (pc := 465) dX12_init_465 ff_12_63 zk_253 rfl (by decide) rfl ?_
  refine z_aload_n (Y := mX12_init) (pc := 468) 0 dX12_init_468 rfl rfl ?_
  refine z_bipush (Y := mX12_init) (pc := 469) (v := (6 : Int32)) dX12_init_469 (by decide) ?_
  refine y_newA (Y := mX12_init) (pc := 471) (t := 22) (N := 6) (n' := 272) (cs' := 18) (sl' := 1679) dX12_init_471 rfl (by decide) (by decide) w_1639 zk_271 (by decide) (by decide) (by decide) rfl rfl rfl (by decide) (by decide) ?_
  refine z_dup (Y := mX12_init) (pc := 473) dX12_init_473 rfl ?_
  refine z_iconst (Y := mX12_init) (pc := 474) (v := (0 : Int32)) dX12_init_474 (by decide) ?_
  refine z_bipush (Y := mX12_init) (pc := 475) (v := (109 : Int32)) dX12_init_475 (by decide) ?_
  refine y_cast (Y := mX12_init) (pc := 477) (k := 0) dX12_init_477 zk_271 (by decide) (by unfold vp_in; decide) (by decide) (by decide) ?_
  refine z_dup (Y := mX12_init) (pc := 478) dX12_init_478 rfl ?_
  refine z_iconst (Y := mX12_init) (pc := 479) (v := (1 : Int32)) dX12_init_479 (by decide) ?_
  refine z_bipush (Y := mX12_init) (pc := 480) (v := (105 : Int32)) dX12_init_480 (by decide) ?_
  refine y_cast (Y := mX12_init) (pc := 482) (k := 1) dX12_init_482 zk_271 (by decide) (by unfold vp_in; decide) (by decide) (by decide) ?_
  refine z_dup (Y := mX12_init) (pc := 483) dX12_init_483 rfl ?_
  refine z_iconst (Y := mX12_init) (pc := 484) (v := (2 : Int32)) dX12_init_484 (by decide) ?_
  refine z_bipush (Y := mX12_init) (pc := 485) (v := (115 : Int32)) dX12_init_485 (by decide) ?_
  refine y_cast (Y := mX12_init) (pc := 487) (k := 2) dX12_init_487 zk_271 (by decide) (by unfold vp_in; decide) (by decide) (by decide) ?_
  refine z_dup (Y := mX12_init) (pc := 488) dX12_init_488 rfl ?_
  refine z_iconst (Y := mX12_init) (pc := 489) (v := (3 : Int32)) dX12_init_489 (by decide) ?_
  refine z_bipush (Y := mX12_init) (pc := 490) (v := (115 : Int32)) dX12_init_490 (by decide) ?_
  refine y_cast (Y := mX12_init) (pc := 492) (k := 3) dX12_init_492 zk_271 (by decide) (by unfold vp_in; decide) (by decide) (by decide) ?_
  exact k
set_option maxRecDepth 100000 in
set_option maxHeartbeats 4000000 in
theorem kX12_init_253_4 {M' : z_M} (I : List (Nat × Nat × Int32)) (J : List (Nat × Nat × Int64)) (R : List (Nat × Nat × Nat)) (k : z_G mX12_init 0 80 11334 none M' 615 [(0, .ref 253)] [.int (3 : Int32), .ref 275, .ref 275, .ref 253] 22 1698 (aM 276 ((275, 2, (109 : Int32)) :: ((275, 1, (117 : Int32)) :: ((275, 0, (110 : Int32)) :: ((274, 2, (121 : Int32)) :: ((274, 1, (97 : Int32)) :: ((274, 0, (100 : Int32)) :: ((273, 5, (115 : Int32)) :: ((273, 4, (101 : Int32)) :: ((273, 3, (104 : Int32)) :: ((273, 2, (115 : Int32)) :: ((273, 1, (105 : Int32)) :: ((273, 0, (119 : Int32)) :: ((272, 3, (100 : Int32)) :: ((272, 2, (108 : Int32)) :: ((272, 1, (111 : Int32)) :: ((272, 0, (99 : Int32)) :: ((271, 5, (100 : Int32)) :: ((271, 4, (101 : Int32)) :: ((271, 3, (115 : Int32)) :: ((271, 2, (115 : Int32)) :: ((271, 1, (105 : Int32)) :: ((271, 0, (109 : Int32)) :: ((270, 3, (109 : Int32)) :: ((270, 2, (114 : Int32)) :: ((270, 1, (97 : Int32)) :: ((270, 0, (119 : Int32)) :: ((269, 4, (115 : Int32)) :: ((269, 3, (101 : Int32)) :: ((269, 2, (107 : Int32)) :: ((269, 1, (97 : Int32)) :: ((269, 0, (116 : Int32)) :: ((268, 4, (115 : Int32)) :: ((268, 3, (114 : Int32)) :: ((268, 2, (97 : Int32)) :: ((268, 1, (101 : Int32)) :: ((268, 0, (98 : Int32)) :: ((267, 3, (100 : Int32)) :: ((267, 2, (110 : Int32)) :: ((267, 1, (97 : Int32)) :: ((267, 0, (104 : Int32)) :: ((266, 3, (101 : Int32)) :: ((266, 2, (109 : Int32)) :: ((266, 1, (105 : Int32)) :: ((266, 0, (116 : Int32)) :: ((265, 5, (114 : Int32)) :: ((265, 4, (101 : Int32)) :: ((265, 3, (112 : Int32)) :: ((265, 2, (108 : Int32)) :: ((265, 1, (101 : Int32)) :: ((265, 0, (104 : Int32)) :: ((264, 3, (101 : Int32)) :: ((264, 2, (107 : Int32)) :: ((264, 1, (105 : Int32)) :: ((264, 0, (108 : Int32)) :: ((263, 3, (114 : Int32)) :: ((263, 2, (97 : Int32)) :: ((263, 1, (101 : Int32)) :: ((263, 0, (110 : Int32)) :: ((262, 3, (104 : Int32)) :: ((262, 2, (115 : Int32)) :: ((262, 1, (105 : Int32)) :: ((262, 0, (119 : Int32)) :: ((261, 4, (107 : Int32)) :: ((261, 3, (99 : Int32)) :: ((261, 2, (111 : Int32)) :: ((261, 1, (116 : Int32)) :: ((261, 0, (115 : Int32)) :: ((260, 3, (116 : Int32)) :: ((260, 2, (102 : Int32)) :: ((260, 1, (105 : Int32)) :: ((260, 0, (103 : Int32)) :: ((259, 4, (101 : Int32)) :: ((259, 3, (118 : Int32)) :: ((259, 2, (97 : Int32)) :: ((259, 1, (114 : Int32)) :: ((259, 0, (103 : Int32)) :: ((258, 3, (100 : Int32)) :: ((258, 2, (101 : Int32)) :: ((258, 1, (101 : Int32)) :: ((258, 0, (110 : Int32)) :: ((257, 2, (101 : Int32)) :: ((257, 1, (103 : Int32)) :: ((257, 0, (97 : Int32)) :: ((256, 5, (114 : Int32)) :: ((256, 4, (101 : Int32)) :: ((256, 3, (116 : Int32)) :: ((256, 2, (116 : Int32)) :: ((256, 1, (101 : Int32)) :: ((256, 0, (108 : Int32)) :: ((253, 8, (-1 : Int32)) :: I)))))))))))))))))))))))))))))))))))))))))))))))))))))))))))))))))))))))))))))))))))))))))) J ((253, 28, 274) :: ((253, 27, 273) :: ((253, 26, 272) :: ((253, 25, 271) :: ((253, 24, 270) :: ((253, 23, 269) :: ((253, 22, 268) :: ((253, 21, 267) :: ((253, 20, 266) :: ((253, 19, 265) :: ((253, 18, 264) :: ((253, 17, 263) :: ((253, 16, 262) :: ((253, 15, 261) :: ((253, 14, 260) :: ((253, 13, 259) :: ((253, 12, 258) :: ((253, 11, 257) :: ((253, 10, 256) :: ((253, 9, 255) :: ((253, 0, 254) :: R))))))))))))))))))))))) : z_G mX12_init 0 80 11334 none M' 493 [(0, .ref 253)] [.ref 271, .ref 253] 18 1679 (aM 272 ((271, 3, (115 : Int32)) :: ((271, 2, (115 : Int32)) :: ((271, 1, (105 : Int32)) :: ((271, 0, (109 : Int32)) :: ((270, 3, (109 : Int32)) :: ((270, 2, (114 : Int32)) :: ((270, 1, (97 : Int32)) :: ((270, 0, (119 : Int32)) :: ((269, 4, (115 : Int32)) :: ((269, 3, (101 : Int32)) :: ((269, 2, (107 : Int32)) :: ((269, 1, (97 : Int32)) :: ((269, 0, (116 : Int32)) :: ((268, 4, (115 : Int32)) :: ((268, 3, (114 : Int32)) :: ((268, 2, (97 : Int32)) :: ((268, 1, (101 : Int32)) :: ((268, 0, (98 : Int32)) :: ((267, 3, (100 : Int32)) :: ((267, 2, (110 : Int32)) :: ((267, 1, (97 : Int32)) :: ((267, 0, (104 : Int32)) :: ((266, 3, (101 : Int32)) :: ((266, 2, (109 : Int32)) :: ((266, 1, (105 : Int32)) :: ((266, 0, (116 : Int32)) :: ((265, 5, (114 : Int32)) :: ((265, 4, (101 : Int32)) :: ((265, 3, (112 : Int32)) :: ((265, 2, (108 : Int32)) :: ((265, 1, (101 : Int32)) :: ((265, 0, (104 : Int32)) :: ((264, 3, (101 : Int32)) :: ((264, 2, (107 : Int32)) :: ((264, 1, (105 : Int32)) :: ((264, 0, (108 : Int32)) :: ((263, 3, (114 : Int32)) :: ((263, 2, (97 : Int32)) :: ((263, 1, (101 : Int32)) :: ((263, 0, (110 : Int32)) :: ((262, 3, (104 : Int32)) :: ((262, 2, (115 : Int32)) :: ((262, 1, (105 : Int32)) :: ((262, 0, (119 : Int32)) :: ((261, 4, (107 : Int32)) :: ((261, 3, (99 : Int32)) :: ((261, 2, (111 : Int32)) :: ((261, 1, (116 : Int32)) :: ((261, 0, (115 : Int32)) :: ((260, 3, (116 : Int32)) :: ((260, 2, (102 : Int32)) :: ((260, 1, (105 : Int32)) :: ((260, 0, (103 : Int32)) :: ((259, 4, (101 : Int32)) :: ((259, 3, (118 : Int32)) :: ((259, 2, (97 : Int32)) :: ((259, 1, (114 : Int32)) :: ((259, 0, (103 : Int32)) :: ((258, 3, (100 : Int32)) :: ((258, 2, (101 : Int32)) :: ((258, 1, (101 : Int32)) :: ((258, 0, (110 : Int32)) :: ((257, 2, (101 : Int32)) :: ((257, 1, (103 : Int32)) :: ((257, 0, (97 : Int32)) :: ((256, 5, (114 : Int32)) :: ((256, 4, (101 : Int32)) :: ((256, 3, (116 : Int32)) :: ((256, 2, (116 : Int32)) :: ((256, 1, (101 : Int32)) :: ((256, 0, (108 : Int32)) :: ((253, 8, (-1 : Int32)) :: I)))))))))))))))))))))))))))))))))))))))))))))))))))))))))))))))))))))))) J ((253, 24, 270) :: ((253, 23, 269) :: ((253, 22, 268) :: ((253, 21, 267) :: ((253, 20, 266) :: ((253, 19, 265) :: ((253, 18, 264) :: ((253, 17, 263) :: ((253, 16, 262) :: ((253, 15, 261) :: ((253, 14, 260) :: ((253, 13, 259) :: ((253, 12, 258) :: ((253, 11, 257) :: ((253, 10, 256) :: ((253, 9, 255) :: ((253, 0, 254) :: R)))))))))))))))))) := by
  refine z_dup (Y := mX12_init) (pc := 493) dX12_init_493 rfl ?_
  refine z_iconst (Y := mX12_init) (pc := 494) (v := (4 : Int32)) dX12_init_494 (by decide) ?_
  refine z_bipush (Y := mX12_init) (pc := 495) (v := (101 : Int32)) dX12_init_495 (by decide) ?_
  refine y_cast (Y := mX12_init) (pc := 497) (k := 4) dX12_init_497 zk_271 (by decide) (by unfold vp_in; decide) (by decide) (by decide) ?_
  refine z_dup (Y := mX12_init) (pc := 498) dX12_init_498 rfl ?_
  refine z_iconst (Y := mX12_init) (pc := 499) (v := (5 : Int32)) dX12_init_499 (by decide) ?_
  refine z_bipush (Y := mX12_init) (pc := 500) (v := (100 : Int32)) dX12_init_500 (by decide) ?_
  refine y_cast (Y := mX12_init) (pc := 502) (k := 5) dX12_init_502 zk_271 (by decide) (by unfold vp_in; decide) (by decide) (by decide) ?_
  refine y_putF (Y := mX12_init) (pc := 503) dX12_init_503 ff_12_66 zk_253 rfl (by decide) rfl ?_
  refine z_aload_n (Y := mX12_init) (pc := 506) 0 dX12_init_506 rfl rfl ?_
  refine z_iconst (Y := mX12_init) (pc := 507) (v := (4 : Int32)) dX12_init_507 (by decide) ?_
  refine y_newA (Y := mX12_init) (pc := 508) (t := 22) (N := 4) (n' := 273) (cs' := 19) (sl' := 1683) dX12_init_508 rfl (by decide) (by decide) w_1639 zk_272 (by decide) (by decide) (by decide) rfl rfl rfl (by decide) (by decide) ?_
  refine z_dup (Y := mX12_init) (pc := 510) dX12_init_510 rfl ?_
  refine z_iconst (Y := mX12_init) (pc := 511) (v := (0 : Int32)) dX12_init_511 (by decide) ?_
  refine z_bipush (Y := mX12_init) (pc := 512) (v := (99 : Int32)) dX12_init_512 (by decide) ?_
  refine y_cast (Y := mX12_init) (pc := 514) (k := 0) dX12_init_514 zk_272 (by decide) (by unfold vp_in; decide) (by decide) (by decide) ?_
  refine z_dup (Y := mX12_init) (pc := 515) dX12_init_515 rfl ?_
  refine z_iconst (Y := mX12_init) (pc := 516) (v := (1 : Int32)) dX12_init_516 (by decide) ?_
  refine z_bipush (Y := mX12_init) (pc := 517) (v := (111 : Int32)) dX12_init_517 (by decide) ?_
  refine y_cast (Y := mX12_init) (pc := 519) (k := 1) dX12_init_519 zk_272 (by decide) (by unfold vp_in; decide) (by decide) (by decide) ?_
  refine z_dup (Y := mX12_init) (pc := 520) dX12_init_520 rfl ?_
  refine z_iconst (Y := mX12_init) (pc := 521) (v := (2 : Int32)) dX12_init_521 (by decide) ?_
  refine z_bipush (Y := mX12_init) (pc := 522) (v := (108 : Int32)) dX12_init_522 (by decide) ?_
  refine y_cast (Y := mX12_init) (pc := 524) (k := 2) dX12_init_524 zk_272 (by decide) (by unfold vp_in; decide) (by decide) (by decide) ?_
  refine z_dup (Y := mX12_init) (pc := 525) dX12_init_525 rfl ?_
  refine z_iconst (Y := mX12_init) (pc := 526) (v := (3 : Int32)) dX12_init_526 (by decide) ?_
  refine z_bipush (Y := mX12_init) (pc := 527) (v := (100 : Int32)) dX12_init_527 (by decide) ?_
  refine y_cast (Y := mX12_init) (pc := 529) (k := 3) dX12_init_529 zk_272 (by decide) (by unfold vp_in; decide) (by decide) (by decide) ?_
  refine y_putF (Y := mX12_init) (pc := 530) dX12_init_530 ff_12_69 zk_253 rfl (by decide) rfl ?_
  refine z_aload_n (Y := mX12_init) (pc := 533) 0 dX12_init_533 rfl rfl ?_
  refine z_bipush (Y := mX12_init) (pc := 534) (v := (6 : Int32)) dX12_init_534 (by decide) ?_
  refine y_newA (Y := mX12_init) (pc := 536) (t := 22) (N := 6) (n' := 274) (cs' := 20) (sl' := 1689) dX12_init_536 rfl (by decide) (by decide) w_1639 zk_273 (by decide) (by decide) (by decide) rfl rfl rfl (by decide) (by decide) ?_
  refine z_dup (Y := mX12_init) (pc := 538) dX12_init_538 rfl ?_
  refine z_iconst (Y := mX12_init) (pc := 539) (v := (0 : Int32)) dX12_init_539 (by decide) ?_
  refine z_bipush (Y := mX12_init) (pc := 540) (v := (119 : Int32)) dX12_init_540 (by decide) ?_
  refine y_cast (Y := mX12_init) (pc := 542) (k := 0) dX12_init_542 zk_273 (by decide) (by unfold vp_in; decide) (by decide) (by decide) ?_
  refine z_dup (Y := mX12_init) (pc := 543) dX12_init_543 rfl ?_
  refine z_iconst (Y := mX12_init) (pc := 544) (v := (1 : Int32)) dX12_init_544 (by decide) ?_
  refine z_bipush (Y := mX12_init) (pc := 545) (v := (105 : Int32)) dX12_init_545 (by decide) ?_
  refine y_cast (Y := mX12_init) (pc := 547) (k := 1) dX12_init_547 zk_273 (by decide) (by unfold vp_in; decide) (by decide) (by decide) ?_
  refine z_dup (Y := mX12_init) (pc := 548) dX12_init_548 rfl ?_
  refine z_iconst (Y := mX12_init) (pc := 549) (v := (2 : Int32)) dX12_init_549 (by decide) ?_
  refine z_bipush (Y := mX12_init) (pc := 550) (v := (115 : Int32)) dX12_init_550 (by decide) ?_
  refine y_cast (Y := mX12_init) (pc := 552) (k := 2) dX12_init_552 zk_273 (by decide) (by unfold vp_in; decide) (by decide) (by decide) ?_
  refine z_dup (Y := mX12_init) (pc := 553) dX12_init_553 rfl ?_
  refine z_iconst (Y := mX12_init) (pc := 554) (v := (3 : Int32)) dX12_init_554 (by decide) ?_
  refine z_bipush (Y := mX12_init) (pc := 555) (v := (104 : Int32)) dX12_init_555 (by decide) ?_
  refine y_cast (Y := mX12_init) (pc := 557) (k := 3) dX12_init_557 zk_273 (by decide) (by unfold vp_in; decide) (by decide) (by decide) ?_
  refine z_dup (Y := mX12_init) (pc := 558) dX12_init_558 rfl ?_
  refine z_iconst (Y := mX12_init) (pc := 559) (v := (4 : Int32)) dX12_init_559 (by decide) ?_
  refine z_bipush (Y := mX12_init) (pc := 560) (v := (101 : Int32)) dX12_init_560 (by decide) ?_
  refine y_cast (Y := mX12_init) (pc := 562) (k := 4) dX12_init_562 zk_273 (by decide) (by unfold vp_in; decide) (by decide) (by decide) ?_
  refine z_dup (Y := mX12_init) (pc := 563) dX12_init_563 rfl ?_
  refine z_iconst (Y := mX12_init) (pc := 564) (v := (5 : Int32)) dX12_init_564 (by decide) ?_
  refine z_bipush (Y := mX12_init) (pc := 565) (v := (115 : Int32)) dX12_init_565 (by decide) ?_
  refine y_cast (Y := mX12_init) (pc := 567) (k := 5) dX12_init_567 zk_273 (by decide) (by unfold vp_in; decide) (by decide) (by decide) ?_
  refine y_putF (Y := mX12_init) (pc := 568) dX12_init_568 ff_12_72 zk_253 rfl (by decide) rfl ?_
  refine z_aload_n (Y := mX12_init) (pc := 571) 0 dX12_init_571 rfl rfl ?_
  refine z_iconst (Y := mX12_init) (pc := 572) (v := (3 : Int32)) dX12_init_572 (by decide) ?_
  refine y_newA (Y := mX12_init) (pc := 573) (t := 22) (N := 3) (n' := 275) (cs' := 21) (sl' := 1692) dX12_init_573 rfl (by decide) (by decide) w_1639 zk_274 (by decide) (by decide) (by decide) rfl rfl rfl (by decide) (by decide) ?_
  refine z_dup (Y := mX12_init) (pc := 575) dX12_init_575 rfl ?_
  refine z_iconst (Y := mX12_init) (pc := 576) (v := (0 : Int32)) dX12_init_576 (by decide) ?_
  refine z_bipush (Y := mX12_init) (pc := 577) (v := (100 : Int32)) dX12_init_577 (by decide) ?_
  refine y_cast (Y := mX12_init) (pc := 579) (k := 0) dX12_init_579 zk_274 (by decide) (by unfold vp_in; decide) (by decide) (by decide) ?_
  refine z_dup (Y := mX12_init) (pc := 580) dX12_init_580 rfl ?_
  refine z_iconst (Y := mX12_init) (pc := 581) (v := (1 : Int32)) dX12_init_581 (by decide) ?_
  refine z_bipush (Y := mX12_init) (pc := 582) (v := (97 : Int32)) dX12_init_582 (by decide) ?_
  refine y_cast (Y := mX12_init) (pc := 584) (k := 1) dX12_init_584 zk_274 (by decide) (by unfold vp_in; decide) (by decide) (by decide) ?_
  refine z_dup (Y := mX12_init) (pc := 585) dX12_init_585 rfl ?_
  refine z_iconst (Y := mX12_init) (pc := 586) (v := (2 : Int32)) dX12_init_586 (by decide) ?_
  refine z_bipush (Y := mX12_init) (pc := 587) (v := (121 : Int32)) dX12_init_587 (by decide) ?_
  refine y_cast (Y := mX12_init) (pc := 589) (k := 2) dX12_init_589 zk_274 (by decide) (by unfold vp_in; decide) (by decide) (by decide) ?_
  refine y_putF (Y := mX12_init) (pc := 590) dX12_init_590 ff_12_75 zk_253 rfl (by decide) rfl ?_
  refine z_aload_n (Y := mX12_init) (pc := 593) 0 dX12_init_593 rfl rfl ?_
  refine z_bipush (Y := mX12_init) (pc := 594) (v := (6 : Int32)) dX12_init_594 (by decide) ?_
  refine y_newA (Y := mX12_init) (pc := 596) (t := 22) (N := 6) (n' := 276) (cs' := 22) (sl' := 1698) dX12_init_596 rfl (by decide) (by decide) w_1639 zk_275 (by decide) (by decide) (by decide) rfl rfl rfl (by decide) (by decide) ?_
  refine z_dup (Y := mX12_init) (pc := 598) dX12_init_598 rfl ?_
  refine z_iconst (Y := mX12_init) (pc := 599) (v := (0 : Int32)) dX12_init_599 (by decide) ?_
  refine z_bipush (Y := mX12_init) (pc := 600) (v := (110 : Int32)) dX12_init_600 (by decide) ?_
  refine y_cast (Y := mX12_init) (pc := 602) (k := 0) dX12_init_602 zk_275 (by decide) (by unfold vp_in; decide) (by decide) (by decide) ?_
  refine z_dup (Y := mX12_init) (pc := 603) dX12_init_603 rfl ?_
  refine z_iconst (Y := mX12_init) (pc := 604) (v := (1 : Int32)) dX12_init_604 (by decide) ?_
  refine z_bipush (Y := mX12_init) (pc := 605) (v := (117 : Int32)) dX12_init_605 (by decide) ?_
  refine y_cast (Y := mX12_init) (pc := 607) (k := 1) dX12_init_607 zk_275 (by decide) (by unfold vp_in; decide) (by decide) (by decide) ?_
  refine z_dup (Y := mX12_init) (pc := 608) dX12_init_608 rfl ?_
  refine z_iconst (Y := mX12_init) (pc := 609) (v := (2 : Int32)) dX12_init_609 (by decide) ?_
  refine z_bipush (Y := mX12_init) (pc := 610) (v := (109 : Int32)) dX12_init_610 (by decide) ?_
  refine y_cast (Y := mX12_init) (pc := 612) (k := 2) dX12_init_612 zk_275 (by decide) (by unfold vp_in; decide) (by decide) (by decide) ?_
  refine z_dup (Y := mX12_init) (pc := 613) dX12_init_613 rfl ?_
  refine z_iconst (Y := mX12_init) (pc := 614) (v := (3 : Int32)) dX12_init_614 (by decide) ?_
  exact k
set_option maxRecDepth 100000 in
set_option maxHeartbeats 4000000 in
theorem kX12_init_253_5 {M' : z_M} (I : List (Nat × Nat × Int32)) (J : List (Nat × Nat × Int64)) (R : List (Nat × Nat × Nat)) (k : z_G mX12_init 0 80 11334 none M' 738 [(0, .ref 253)] [.ref 280, .ref 253] 27 1715 (aM 281 ((280, 0, (110 : Int32)) :: ((279, 2, (100 : Int32)) :: ((279, 1, (110 : Int32)) :: ((279, 0, (97 : Int32)) :: ((278, 1, (114 : Int32)) :: ((278, 0, (111 : Int32)) :: ((277, 3, (101 : Int32)) :: ((277, 2, (110 : Int32)) :: ((277, 1, (111 : Int32)) :: ((277, 0, (100 : Int32)) :: ((276, 4, (116 : Int32)) :: ((276, 3, (101 : Int32)) :: ((276, 2, (101 : Int32)) :: ((276, 1, (104 : Int32)) :: ((276, 0, (115 : Int32)) :: ((275, 5, (114 : Int32)) :: ((275, 4, (101 : Int32)) :: ((275, 3, (98 : Int32)) :: ((275, 2, (109 : Int32)) :: ((275, 1, (117 : Int32)) :: ((275, 0, (110 : Int32)) :: ((274, 2, (121 : Int32)) :: ((274, 1, (97 : Int32)) :: ((274, 0, (100 : Int32)) :: ((273, 5, (115 : Int32)) :: ((273, 4, (101 : Int32)) :: ((273, 3, (104 : Int32)) :: ((273, 2, (115 : Int32)) :: ((273, 1, (105 : Int32)) :: ((273, 0, (119 : Int32)) :: ((272, 3, (100 : Int32)) :: ((272, 2, (108 : Int32)) :: ((272, 1, (111 : Int32)) :: ((272, 0, (99 : Int32)) :: ((271, 5, (100 : Int32)) :: ((271, 4, (101 : Int32)) :: ((271, 3, (115 : Int32)) :: ((271, 2, (115 : Int32)) :: ((271, 1, (105 : Int32)) :: ((271, 0, (109 : Int32)) :: ((270, 3, (109 : Int32)) :: ((270, 2, (114 : Int32)) :: ((270, 1, (97 : Int32)) :: ((270, 0, (119 : Int32)) :: ((269, 4, (115 : Int32)) :: ((269, 3, (101 : Int32)) :: ((269, 2, (107 : Int32)) :: ((269, 1, (97 : Int32)) :: ((269, 0, (116 : Int32)) :: ((268, 4, (115 : Int32)) :: ((268, 3, (114 : Int32)) :: ((268, 2, (97 : Int32)) :: ((268, 1, (101 : Int32)) :: ((268, 0, (98 : Int32)) :: ((267, 3, (100 : Int32)) :: ((267, 2, (110 : Int32)) :: ((267, 1, (97 : Int32)) :: ((267, 0, (104 : Int32)) :: ((266, 3, (101 : Int32)) :: ((266, 2, (109 : Int32)) :: ((266, 1, (105 : Int32)) :: ((266, 0, (116 : Int32)) :: ((265, 5, (114 : Int32)) :: ((265, 4, (101 : Int32)) :: ((265, 3, (112 : Int32)) :: ((265, 2, (108 : Int32)) :: ((265, 1, (101 : Int32)) :: ((265, 0, (104 : Int32)) :: ((264, 3, (101 : Int32)) :: ((264, 2, (107 : Int32)) :: ((264, 1, (105 : Int32)) :: ((264, 0, (108 : Int32)) :: ((263, 3, (114 : Int32)) :: ((263, 2, (97 : Int32)) :: ((263, 1, (101 : Int32)) :: ((263, 0, (110 : Int32)) :: ((262, 3, (104 : Int32)) :: ((262, 2, (115 : Int32)) :: ((262, 1, (105 : Int32)) :: ((262, 0, (119 : Int32)) :: ((261, 4, (107 : Int32)) :: ((261, 3, (99 : Int32)) :: ((261, 2, (111 : Int32)) :: ((261, 1, (116 : Int32)) :: ((261, 0, (115 : Int32)) :: ((260, 3, (116 : Int32)) :: ((260, 2, (102 : Int32)) :: ((260, 1, (105 : Int32)) :: ((260, 0, (103 : Int32)) :: ((259, 4, (101 : Int32)) :: ((259, 3, (118 : Int32)) :: ((259, 2, (97 : Int32)) :: ((259, 1, (114 : Int32)) :: ((259, 0, (103 : Int32)) :: ((258, 3, (100 : Int32)) :: ((258, 2, (101 : Int32)) :: ((258, 1, (101 : Int32)) :: ((258, 0, (110 : Int32)) :: ((257, 2, (101 : Int32)) :: ((257, 1, (103 : Int32)) :: ((257, 0, (97 : Int32)) :: ((256, 5, (114 : Int32)) :: ((256, 4, (101 : Int32)) :: ((256, 3, (116 : Int32)) :: ((256, 2, (116 : Int32)) :: ((256, 1, (101 : Int32)) :: ((256, 0, (108 : Int32)) :: ((253, 8, (-1 : Int32)) :: I)))))))))))))))))))))))))))))))))))))))))))))))))))))))))))))))))))))))))))))))))))))))))))))))))))))))))))) J ((253, 33, 279) :: ((253, 32, 278) :: ((253, 31, 277) :: ((253, 30, 276) :: ((253, 29, 275) :: ((253, 28, 274) :: ((253, 27, 273) :: ((253, 26, 272) :: ((253, 25, 271) :: ((253, 24, 270) :: ((253, 23, 269) :: ((253, 22, 268) :: ((253, 21, 267) :: ((253, 20, 266) :: ((253, 19, 265) :: ((253, 18, 264) :: ((253, 17, 263) :: ((253, 16, 262) :: ((253, 15, 261) :: ((253, 14, 260) :: ((253, 13, 259) :: ((253, 12, 258) :: ((253, 11, 257) :: ((253, 10, 256) :: ((253, 9, 255) :: ((253, 0, 254) :: R)))))))))))))))))))))))))))) : z_G mX12_init 0 80 11334 none M' 615 [(0, .ref 253)] [.int (3 : Int32), .ref 275, .ref 275, .ref 253] 22 1698 (aM 276 ((275, 2, (109 : Int32)) :: ((275, 1, (117 : Int32)) :: ((275, 0, (110 : Int32)) :: ((274, 2, (121 : Int32)) :: ((274, 1, (97 : Int32)) :: ((274, 0, (100 : Int32)) :: ((273, 5, (115 : Int32)) :: ((273, 4, (101 : Int32)) :: ((273, 3, (104 : Int32)) :: ((273, 2, (115 : Int32)) :: ((273, 1, (105 : Int32)) :: ((273, 0, (119 : Int32)) :: ((272, 3, (100 : Int32)) :: ((272, 2, (108 : Int32)) :: ((272, 1, (111 : Int32)) :: ((272, 0, (99 : Int32)) :: ((271, 5, (100 : Int32)) :: ((271, 4, (101 : Int32)) :: ((271, 3, (115 : Int32)) :: ((271, 2, (115 : Int32)) :: ((271, 1, (105 : Int32)) :: ((271, 0, (109 : Int32)) :: ((270, 3, (109 : Int32)) :: ((270, 2, (114 : Int32)) :: ((270, 1, (97 : Int32)) :: ((270, 0, (119 : Int32)) :: ((269, 4, (115 : Int32)) :: ((269, 3, (101 : Int32)) :: ((269, 2, (107 : Int32)) :: ((269, 1, (97 : Int32)) :: ((269, 0, (116 : Int32)) :: ((268, 4, (115 : Int32)) :: ((268, 3, (114 : Int32)) :: ((268, 2, (97 : Int32)) :: ((268, 1, (101 : Int32)) :: ((268, 0, (98 : Int32)) :: ((267, 3, (100 : Int32)) :: ((267, 2, (110 : Int32)) :: ((267, 1, (97 : Int32)) :: ((267, 0, (104 : Int32)) :: ((266, 3, (101 : Int32)) :: ((266, 2, (109 : Int32)) :: ((266, 1, (105 : Int32)) :: ((266, 0, (116 : Int32)) :: ((265, 5, (114 : Int32)) :: ((265, 4, (101 : Int32)) :: ((265, 3, (112 : Int32)) :: ((265, 2, (108 : Int32)) :: ((265, 1, (101 : Int32)) :: ((265, 0, (104 : Int32)) :: ((264, 3, (101 : Int32)) :: ((264, 2, (107 : Int32)) :: ((264, 1, (105 : Int32)) :: ((264, 0, (108 : Int32)) :: ((263, 3, (114 : Int32)) :: ((263, 2, (97 : Int32)) :: ((263, 1, (101 : Int32)) :: ((263, 0, (110 : Int32)) :: ((262, 3, (104 : Int32)) :: ((262, 2, (115 : Int32)) :: ((262, 1, (105 : Int32)) :: ((262, 0, (119 : Int32)) :: ((261, 4, (107 : Int32)) :: ((261, 3, (99 : Int32)) :: ((261, 2, (111 : Int32)) :: ((261, 1, (116 : Int32)) :: ((261, 0, (115 : Int32)) :: ((260, 3, (116 : Int32)) :: ((260, 2, (102 : Int32)) :: ((260, 1, (105 : Int32)) :: ((260, 0, (103 : Int32)) :: ((259, 4, (101 : Int32)) :: ((259, 3, (118 : Int32)) :: ((259, 2, (97 : Int32)) :: ((259, 1, (114 : Int32)) :: ((259, 0, (103 : Int32)) :: ((258, 3, (100 : Int32)) :: ((258, 2, (101 : Int32)) :: ((258, 1, (101 : Int32)) :: ((258, 0, (110 : Int32)) :: ((257, 2, (101 : Int32)) :: ((257, 1, (103 : Int32)) :: ((257, 0, (97 : Int32)) :: ((256, 5, (114 : Int32)) :: ((256, 4, (101 : Int32)) :: ((256, 3, (116 : Int32)) :: ((256, 2, (116 : Int32)) :: ((256, 1, (101 : Int32)) :: ((256, 0, (108 : Int32)) :: ((253, 8, (-1 : Int32)) :: I)))))))))))))))))))))))))))))))))))))))))))))))))))))))))))))))))))))))))))))))))))))))))) J ((253, 28, 274) :: ((253, 27, 273) :: ((253, 26, 272) :: ((253, 25, 271) :: ((253, 24, 270) :: ((253, 23, 269) :: ((253, 22, 268) :: ((253, 21, 267) :: ((253, 20, 266) :: ((253, 19, 265) :: ((253, 18, 264) :: ((253, 17, 263) :: ((253, 16, 262) :: ((253, 15, 261) :: ((253, 14, 260) :: ((253, 13, 259) :: ((253, 12, 258) :: ((253, 11, 257) :: ((253, 10, 256) :: ((253, 9, 255) :: ((253, 0, 254) :: R)))))))))))))))))))))) := by
  refine z_bipush (Y := mX12_init) (pc := 615) (v := (98 : Int32)) dX12_init_615 (by decide) ?_
  refine y_cast (Y := mX12_init) (pc := 617) (k := 3) dX12_init_617 zk_275 (by decide) (by unfold vp_in; decide) (by decide) (by decide) ?_
  refine z_dup (Y := mX12_init) (pc := 618) dX12_init_618 rfl ?_
  refine z_iconst (Y := mX12_init) (pc := 619) (v := (4 : Int32)) dX12_init_619 (by decide) ?_
  refine z_bipush (Y := mX12_init) (pc := 620) (v := (101 : Int32)) dX12_init_620 (by decide) ?_
  refine y_cast (Y := mX12_init) (pc := 622) (k := 4) dX12_init_622 zk_275 (by decide) (by unfold vp_in; decide) (by decide) (by decide) ?_
  refine z_dup (Y := mX12_init) (pc := 623) dX12_init_623 rfl ?_
  refine z_iconst (Y := mX12_init) (pc := 624) (v := (5 : Int32)) dX12_init_624 (by decide) ?_
  refine z_bipush (Y := mX12_init) (pc := 625) (v := (114 : Int32)) dX12_init_625 (by decide) ?_
  refine y_cast (Y := mX12_init) (pc := 627) (k := 5) dX12_init_627 zk_275 (by decide) (by unfold vp_in; decide) (by decide) (by decide) ?_
  refine y_putF (Y := mX12_init) (pc := 628) dX12_init_628 ff_12_78 zk_253 rfl (by decide) rfl ?_
  refine z_aload_n (Y := mX12_init) (pc := 631) 0 dX12_init_631 rfl rfl ?_
  refine z_iconst (Y := mX12_init) (pc := 632) (v := (5 : Int32)) dX12_init_632 (by decide) ?_
  refine y_newA (Y := mX12_init) (pc := 633) (t := 22) (N := 5) (n' := 277) (cs' := 23) (sl' := 1703) dX12_init_633 rfl (by decide) (by decide) w_1639 zk_276 (by decide) (by decide) (by decide) rfl rfl rfl (by decide) (by decide) ?_
  refine z_dup (Y := mX12_init) (pc := 635) dX12_init_635 rfl ?_
  refine z_iconst (Y := mX12_init) (pc := 636) (v := (0 : Int32)) dX12_init_636 (by decide) ?_
  refine z_bipush (Y := mX12_init) (pc := 637) (v := (115 : Int32)) dX12_init_637 (by decide) ?_
  refine y_cast (Y := mX12_init) (pc := 639) (k := 0) dX12_init_639 zk_276 (by decide) (by unfold vp_in; decide) (by decide) (by decide) ?_
  refine z_dup (Y := mX12_init) (pc := 640) dX12_init_640 rfl ?_
  refine z_iconst (Y := mX12_init) (pc := 641) (v := (1 : Int32)) dX12_init_641 (by decide) ?_
  refine z_bipush (Y := mX12_init) (pc := 642) (v := (104 : Int32)) dX12_init_642 (by decide) ?_
  refine y_cast (Y := mX12_init) (pc := 644) (k := 1) dX12_init_644 zk_276 (by decide) (by unfold vp_in; decide) (by decide) (by decide) ?_
  refine z_dup (Y := mX12_init) (pc := 645) dX12_init_645 rfl ?_
  refine z_iconst (Y := mX12_init) (pc := 646) (v := (2 : Int32)) dX12_init_646 (by decide) ?_
  refine z_bipush (Y := mX12_init) (pc := 647) (v := (101 : Int32)) dX12_init_647 (by decide) ?_
  refine y_cast (Y := mX12_init) (pc := 649) (k := 2) dX12_init_649 zk_276 (by decide) (by unfold vp_in; decide) (by decide) (by decide) ?_
  refine z_dup (Y := mX12_init) (pc := 650) dX12_init_650 rfl ?_
  refine z_iconst (Y := mX12_init) (pc := 651) (v := (3 : Int32)) dX12_init_651 (by decide) ?_
  refine z_bipush (Y := mX12_init) (pc := 652) (v := (101 : Int32)) dX12_init_652 (by decide) ?_
  refine y_cast (Y := mX12_init) (pc := 654) (k := 3) dX12_init_654 zk_276 (by decide) (by unfold vp_in; decide) (by decide) (by decide) ?_
  refine z_dup (Y := mX12_init) (pc := 655) dX12_init_655 rfl ?_
  refine z_iconst (Y := mX12_init) (pc := 656) (v := (4 : Int32)) dX12_init_656 (by decide) ?_
  refine z_bipush (Y := mX12_init) (pc := 657) (v := (116 : Int32)) dX12_init_657 (by decide) ?_
  refine y_cast (Y := mX12_init) (pc := 659) (k := 4) dX12_init_659 zk_276 (by decide) (by unfold vp_in; decide) (by decide) (by decide) ?_
  refine y_putF (Y := mX12_init) (pc := 660) dX12_init_660 ff_12_81 zk_253 rfl (by decide) rfl ?_
  refine z_aload_n (Y := mX12_init) (pc := 663) 0 dX12_init_663 rfl rfl ?_
  refine z_iconst (Y := mX12_init) (pc := 664) (v := (4 : Int32)) dX12_init_664 (by decide) ?_
  refine y_newA (Y := mX12_init) (pc := 665) (t := 22) (N := 4) (n' := 278) (cs' := 24) (sl' := 1707) dX12_init_665 rfl (by decide) (by decide) w_1639 zk_277 (by decide) (by decide) (by decide) rfl rfl rfl (by decide) (by decide) ?_
  refine z_dup (Y := mX12_init) (pc := 667) dX12_init_667 rfl ?_
  refine z_iconst (Y := mX12_init) (pc := 668) (v := (0 : Int32)) dX12_init_668 (by decide) ?_
  refine z_bipush (Y := mX12_init) (pc := 669) (v := (100 : Int32)) dX12_init_669 (by decide) ?_
  refine y_cast (Y := mX12_init) (pc := 671) (k := 0) dX12_init_671 zk_277 (by decide) (by unfold vp_in; decide) (by decide) (by decide) ?_
  refine z_dup (Y := mX12_init) (pc := 672) dX12_init_672 rfl ?_
  refine z_iconst (Y := mX12_init) (pc := 673) (v := (1 : Int32)) dX12_init_673 (by decide) ?_
  refine z_bipush (Y := mX12_init) (pc := 674) (v := (111 : Int32)) dX12_init_674 (by decide) ?_
  refine y_cast (Y := mX12_init) (pc := 676) (k := 1) dX12_init_676 zk_277 (by decide) (by unfold vp_in; decide) (by decide) (by decide) ?_
  refine z_dup (Y := mX12_init) (pc := 677) dX12_init_677 rfl ?_
  refine z_iconst (Y := mX12_init) (pc := 678) (v := (2 : Int32)) dX12_init_678 (by decide) ?_
  refine z_bipush (Y := mX12_init) (pc := 679) (v := (110 : Int32)) dX12_init_679 (by decide) ?_
  refine y_cast (Y := mX12_init) (pc := 681) (k := 2) dX12_init_681 zk_277 (by decide) (by unfold vp_in; decide) (by decide) (by decide) ?_
  refine z_dup (Y := mX12_init) (pc := 682) dX12_init_682 rfl ?_
  refine z_iconst (Y := mX12_init) (pc := 683) (v := (3 : Int32)) dX12_init_683 (by decide) ?_
  refine z_bipush (Y := mX12_init) (pc := 684) (v := (101 : Int32)) dX12_init_684 (by decide) ?_
  refine y_cast (Y := mX12_init) (pc := 686) (k := 3) dX12_init_686 zk_277 (by decide) (by unfold vp_in; decide) (by decide) (by decide) ?_
  refine y_putF (Y := mX12_init) (pc := 687) dX12_init_687 ff_12_84 zk_253 rfl (by decide) rfl ?_
  refine z_aload_n (Y := mX12_init) (pc := 690) 0 dX12_init_690 rfl rfl ?_
  refine z_iconst (Y := mX12_init) (pc := 691) (v := (2 : Int32)) dX12_init_691 (by decide) ?_
  refine y_newA (Y := mX12_init) (pc := 692) (t := 22) (N := 2) (n' := 279) (cs' := 25) (sl' := 1709) dX12_init_692 rfl (by decide) (by decide) w_1639 zk_278 (by decide) (by decide) (by decide) rfl rfl rfl (by decide) (by decide) ?_
  refine z_dup (Y := mX12_init) (pc := 694) dX12_init_694 rfl ?_
  refine z_iconst (Y := mX12_init) (pc := 695) (v := (0 : Int32)) dX12_init_695 (by decide) ?_
  refine z_bipush (Y := mX12_init) (pc := 696) (v := (111 : Int32)) dX12_init_696 (by decide) ?_
  refine y_cast (Y := mX12_init) (pc := 698) (k := 0) dX12_init_698 zk_278 (by decide) (by unfold vp_in; decide) (by decide) (by decide) ?_
  refine z_dup (Y := mX12_init) (pc := 699) dX12_init_699 rfl ?_
  refine z_iconst (Y := mX12_init) (pc := 700) (v := (1 : Int32)) dX12_init_700 (by decide) ?_
  refine z_bipush (Y := mX12_init) (pc := 701) (v := (114 : Int32)) dX12_init_701 (by decide) ?_
  refine y_cast (Y := mX12_init) (pc := 703) (k := 1) dX12_init_703 zk_278 (by decide) (by unfold vp_in; decide) (by decide) (by decide) ?_
  refine y_putF (Y := mX12_init) (pc := 704) dX12_init_704 ff_12_87 zk_253 rfl (by decide) rfl ?_
  refine z_aload_n (Y := mX12_init) (pc := 707) 0 dX12_init_707 rfl rfl ?_
  refine z_iconst (Y := mX12_init) (pc := 708) (v := (3 : Int32)) dX12_init_708 (by decide) ?_
  refine y_newA (Y := mX12_init) (pc := 709) (t := 22) (N := 3) (n' := 280) (cs' := 26) (sl' := 1712) dX12_init_709 rfl (by decide) (by decide) w_1639 zk_279 (by decide) (by decide) (by decide) rfl rfl rfl (by decide) (by decide) ?_
  refine z_dup (Y := mX12_init) (pc := 711) dX12_init_711 rfl ?_
  refine z_iconst (Y := mX12_init) (pc := 712) (v := (0 : Int32)) dX12_init_712 (by decide) ?_
  refine z_bipush (Y := mX12_init) (pc := 713) (v := (97 : Int32)) dX12_init_713 (by decide) ?_
  refine y_cast (Y := mX12_init) (pc := 715) (k := 0) dX12_init_715 zk_279 (by decide) (by unfold vp_in; decide) (by decide) (by decide) ?_
  refine z_dup (Y := mX12_init) (pc := 716) dX12_init_716 rfl ?_
  refine z_iconst (Y := mX12_init) (pc := 717) (v := (1 : Int32)) dX12_init_717 (by decide) ?_
  refine z_bipush (Y := mX12_init) (pc := 718) (v := (110 : Int32)) dX12_init_718 (by decide) ?_
  refine y_cast (Y := mX12_init) (pc := 720) (k := 1) dX12_init_720 zk_279 (by decide) (by unfold vp_in; decide) (by decide) (by decide) ?_
  refine z_dup (Y := mX12_init) (pc := 721) dX12_init_721 rfl ?_
  refine z_iconst (Y := mX12_init) (pc := 722) (v := (2 : Int32)) dX12_init_722 (by decide) ?_
  refine z_bipush (Y := mX12_init) (pc := 723) (v := (100 : Int32)) dX12_init_723 (by decide) ?_
  refine y_cast (Y := mX12_init) (pc := 725) (k := 2) dX12_init_725 zk_279 (by decide) (by unfold vp_in; decide) (by decide) (by decide) ?_
  refine y_putF (Y := mX12_init) (pc := 726) dX12_init_726 ff_12_90 zk_253 rfl (by decide) rfl ?_
  refine z_aload_n (Y := mX12_init) (pc := 729) 0 dX12_init_729 rfl rfl ?_
  refine z_iconst (Y := mX12_init) (pc := 730) (v := (3 : Int32)) dX12_init_730 (by decide) ?_
  refine y_newA (Y := mX12_init) (pc := 731) (t := 22) (N := 3) (n' := 281) (cs' := 27) (sl' := 1715) dX12_init_731 rfl (by decide) (by decide) w_1639 zk_280 (by decide) (by decide) (by decide) rfl rfl rfl (by decide) (by decide) ?_
  refine z_dup (Y := mX12_init) (pc := 733) dX12_init_733 rfl ?_
  refine z_iconst (Y := mX12_init) (pc := 734) (v := (0 : Int32)) dX12_init_734 (by decide) ?_
  refine z_bipush (Y := mX12_init) (pc := 735) (v := (110 : Int32)) dX12_init_735 (by decide) ?_
  refine y_cast (Y := mX12_init) (pc := 737) (k := 0) dX12_init_737 zk_280 (by decide) (by unfold vp_in; decide) (by decide) (by decide) ?_
  exact k
set_option maxRecDepth 100000 in
set_option maxHeartbeats 4000000 in
theorem kX12_init_253_6 {M' : z_M} (I : List (Nat × Nat × Int32)) (J : List (Nat × Nat × Int64)) (R : List (Nat × Nat × Nat)) (k : z_G mX12_init 0 80 11334 none M' 883 [(0, .ref 253)] [.ref 253] 38 2064 (aM 292 ((283, 2, (120 : Int32)) :: ((283, 1, (97 : Int32)) :: ((283, 0, (109 : Int32)) :: ((282, 2, (110 : Int32)) :: ((282, 1, (105 : Int32)) :: ((282, 0, (109 : Int32)) :: ((281, 2, (108 : Int32)) :: ((281, 1, (108 : Int32)) :: ((281, 0, (97 : Int32)) :: ((280, 2, (116 : Int32)) :: ((280, 1, (111 : Int32)) :: ((280, 0, (110 : Int32)) :: ((279, 2, (100 : Int32)) :: ((279, 1, (110 : Int32)) :: ((279, 0, (97 : Int32)) :: ((278, 1, (114 : Int32)) :: ((278, 0, (111 : Int32)) :: ((277, 3, (101 : Int32)) :: ((277, 2, (110 : Int32)) :: ((277, 1, (111 : Int32)) :: ((277, 0, (100 : Int32)) :: ((276, 4, (116 : Int32)) :: ((276, 3, (101 : Int32)) :: ((276, 2, (101 : Int32)) :: ((276, 1, (104 : Int32)) :: ((276, 0, (115 : Int32)) :: ((275, 5, (114 : Int32)) :: ((275, 4, (101 : Int32)) :: ((275, 3, (98 : Int32)) :: ((275, 2, (109 : Int32)) :: ((275, 1, (117 : Int32)) :: ((275, 0, (110 : Int32)) :: ((274, 2, (121 : Int32)) :: ((274, 1, (97 : Int32)) :: ((274, 0, (100 : Int32)) :: ((273, 5, (115 : Int32)) :: ((273, 4, (101 : Int32)) :: ((273, 3, (104 : Int32)) :: ((273, 2, (115 : Int32)) :: ((273, 1, (105 : Int32)) :: ((273, 0, (119 : Int32)) :: ((272, 3, (100 : Int32)) :: ((272, 2, (108 : Int32)) :: ((272, 1, (111 : Int32)) :: ((272, 0, (99 : Int32)) :: ((271, 5, (100 : Int32)) :: ((271, 4, (101 : Int32)) :: ((271, 3, (115 : Int32)) :: ((271, 2, (115 : Int32)) :: ((271, 1, (105 : Int32)) :: ((271, 0, (109 : Int32)) :: ((270, 3, (109 : Int32)) :: ((270, 2, (114 : Int32)) :: ((270, 1, (97 : Int32)) :: ((270, 0, (119 : Int32)) :: ((269, 4, (115 : Int32)) :: ((269, 3, (101 : Int32)) :: ((269, 2, (107 : Int32)) :: ((269, 1, (97 : Int32)) :: ((269, 0, (116 : Int32)) :: ((268, 4, (115 : Int32)) :: ((268, 3, (114 : Int32)) :: ((268, 2, (97 : Int32)) :: ((268, 1, (101 : Int32)) :: ((268, 0, (98 : Int32)) :: ((267, 3, (100 : Int32)) :: ((267, 2, (110 : Int32)) :: ((267, 1, (97 : Int32)) :: ((267, 0, (104 : Int32)) :: ((266, 3, (101 : Int32)) :: ((266, 2, (109 : Int32)) :: ((266, 1, (105 : Int32)) :: ((266, 0, (116 : Int32)) :: ((265, 5, (114 : Int32)) :: ((265, 4, (101 : Int32)) :: ((265, 3, (112 : Int32)) :: ((265, 2, (108 : Int32)) :: ((265, 1, (101 : Int32)) :: ((265, 0, (104 : Int32)) :: ((264, 3, (101 : Int32)) :: ((264, 2, (107 : Int32)) :: ((264, 1, (105 : Int32)) :: ((264, 0, (108 : Int32)) :: ((263, 3, (114 : Int32)) :: ((263, 2, (97 : Int32)) :: ((263, 1, (101 : Int32)) :: ((263, 0, (110 : Int32)) :: ((262, 3, (104 : Int32)) :: ((262, 2, (115 : Int32)) :: ((262, 1, (105 : Int32)) :: ((262, 0, (119 : Int32)) :: ((261, 4, (107 : Int32)) :: ((261, 3, (99 : Int32)) :: ((261, 2, (111 : Int32)) :: ((261, 1, (116 : Int32)) :: ((261, 0, (115 : Int32)) :: ((260, 3, (116 : Int32)) :: ((260, 2, (102 : Int32)) :: ((260, 1, (105 : Int32)) :: ((260, 0, (103 : Int32)) :: ((259, 4, (101 : Int32)) :: ((259, 3, (118 : Int32)) :: ((259, 2, (97 : Int32)) :: ((259, 1, (114 : Int32)) :: ((259, 0, (103 : Int32)) :: ((258, 3, (100 : Int32)) :: ((258, 2, (101 : Int32)) :: ((258, 1, (101 : Int32)) :: ((258, 0, (110 : Int32)) :: ((257, 2, (101 : Int32)) :: ((257, 1, (103 : Int32)) :: ((257, 0, (97 : Int32)) :: ((256, 5, (114 : Int32)) :: ((256, 4, (101 : Int32)) :: ((256, 3, (116 : Int32)) :: ((256, 2, (116 : Int32)) :: ((256, 1, (101 : Int32)) :: ((256, 0, (108 : Int32)) :: ((253, 8, (-1 : Int32)) :: I))))))))))))))))))))))))))))))))))))))))))))))))))))))))))))))))))))))))))))))))))))))))))))))))))))))))))))))))))))))) J ((253, 46, 291) :: ((253, 45, 290) :: ((253, 44, 289) :: ((253, 43, 288) :: ((253, 42, 287) :: ((253, 41, 286) :: ((253, 40, 285) :: ((253, 39, 284) :: ((253, 37, 283) :: ((253, 36, 282) :: ((253, 35, 281) :: ((253, 34, 280) :: ((253, 33, 279) :: ((253, 32, 278) :: ((253, 31, 277) :: ((253, 30, 276) :: ((253, 29, 275) :: ((253, 28, 274) :: ((253, 27, 273) :: ((253, 26, 272) :: ((253, 25, 271) :: ((253, 24, 270) :: ((253, 23, 269) :: ((253, 22, 268) :: ((253, 21, 267) :: ((253, 20, 266) :: ((253, 19, 265) :: ((253, 18, 264) :: ((253, 17, 263) :: ((253, 16, 262) :: ((253, 15, 261) :: ((253, 14, 260) :: ((253, 13, 259) :: ((253, 12, 258) :: ((253, 11, 257) :: ((253, 10, 256) :: ((253, 9, 255) :: ((253, 0, 254) :: R)))))))))))))))))))))))))))))))))))))))) : z_G mX12_init 0 80 11334 none M' 738 [(0, .ref 253)] [.ref 280, .ref 253] 27 1715 (aM 281 ((280, 0, (110 : Int32)) :: ((279, 2, (100 : Int32)) :: ((279, 1, (110 : Int32)) :: ((279, 0, (97 : Int32)) :: ((278, 1, (114 : Int32)) :: ((278, 0, (111 : Int32)) :: ((277, 3, (101 : Int32)) :: ((277, 2, (110 : Int32)) :: ((277, 1, (111 : Int32)) :: ((277, 0, (100 : Int32)) :: ((276, 4, (116 : Int32)) :: ((276, 3, (101 : Int32)) :: ((276, 2, (101 : Int32)) :: ((276, 1, (104 : Int32)) :: ((276, 0, (115 : Int32)) :: ((275, 5, (114 : Int32)) :: ((275, 4, (101 : Int32)) :: ((275, 3, (98 : Int32)) :: ((275, 2, (109 : Int32)) :: ((275, 1, (117 : Int32)) :: ((275, 0, (110 : Int32)) :: ((274, 2, (121 : Int32)) :: ((274, 1, (97 : Int32)) :: ((274, 0, (100 : Int32)) :: ((273, 5, (115 : Int32)) :: ((273, 4, (101 : Int32)) :: ((273, 3, (104 : Int32)) :: ((273, 2, (115 : Int32)) :: ((273, 1, (105 : Int32)) :: ((273, 0, (119 : Int32)) :: ((272, 3, (100 : Int32)) :: ((272, 2, (108 : Int32)) :: ((272, 1, (111 : Int32)) :: ((272, 0, (99 : Int32)) :: ((271, 5, (100 : Int32)) :: ((271, 4, (101 : Int32)) :: ((271, 3, (115 : Int32)) :: ((271, 2, (115 : Int32)) :: ((271, 1, (105 : Int32)) :: ((271, 0, (109 : Int32)) :: ((270, 3, (109 : Int32)) :: ((270, 2, (114 : Int32)) :: ((270, 1, (97 : Int32)) :: ((270, 0, (119 : Int32)) :: ((269, 4, (115 : Int32)) :: ((269, 3, (101 : Int32)) :: ((269, 2, (107 : Int32)) :: ((269, 1, (97 : Int32)) :: ((269, 0, (116 : Int32)) :: ((268, 4, (115 : Int32)) :: ((268, 3, (114 : Int32)) :: ((268, 2, (97 : Int32)) :: ((268, 1, (101 : Int32)) :: ((268, 0, (98 : Int32)) :: ((267, 3, (100 : Int32)) :: ((267, 2, (110 : Int32)) :: ((267, 1, (97 : Int32)) :: ((267, 0, (104 : Int32)) :: ((266, 3, (101 : Int32)) :: ((266, 2, (109 : Int32)) :: ((266, 1, (105 : Int32)) :: ((266, 0, (116 : Int32)) :: ((265, 5, (114 : Int32)) :: ((265, 4, (101 : Int32)) :: ((265, 3, (112 : Int32)) :: ((265, 2, (108 : Int32)) :: ((265, 1, (101 : Int32)) :: ((265, 0, (104 : Int32)) :: ((264, 3, (101 : Int32)) :: ((264, 2, (107 : Int32)) :: ((264, 1, (105 : Int32)) :: ((264, 0, (108 : Int32)) :: ((263, 3, (114 : Int32)) :: ((263, 2, (97 : Int32)) :: ((263, 1, (101 : Int32)) :: ((263, 0, (110 : Int32)) :: ((262, 3, (104 : Int32)) :: ((262, 2, (115 : Int32)) :: ((262, 1, (105 : Int32)) :: ((262, 0, (119 : Int32)) :: ((261, 4, (107 : Int32)) :: ((261, 3, (99 : Int32)) :: ((261, 2, (111 : Int32)) :: ((261, 1, (116 : Int32)) :: ((261, 0, (115 : Int32)) :: ((260, 3, (116 : Int32)) :: ((260, 2, (102 : Int32)) :: ((260, 1, (105 : Int32)) :: ((260, 0, (103 : Int32)) :: ((259, 4, (101 : Int32)) :: ((259, 3, (118 : Int32)) :: ((259, 2, (97 : Int32)) :: ((259, 1, (114 : Int32)) :: ((259, 0, (103 : Int32)) :: ((258, 3, (100 : Int32)) :: ((258, 2, (101 : Int32)) :: ((258, 1, (101 : Int32)) :: ((258, 0, (110 : Int32)) :: ((257, 2, (101 : Int32)) :: ((257, 1, (103 : Int32)) :: ((257, 0, (97 : Int32)) :: ((256, 5, (114 : Int32)) :: ((256, 4, (101 : Int32)) :: ((256, 3, (116 : Int32)) :: ((256, 2, (116 : Int32)) :: ((256, 1, (101 : Int32)) :: ((256, 0, (108 : Int32)) :: ((253, 8, (-1 : Int32)) :: I)))))))))))))))))))))))))))))))))))))))))))))))))))))))))))))))))))))))))))))))))))))))))))))))))))))))))))) J ((253, 33, 279) :: ((253, 32, 278) :: ((253, 31, 277) :: ((253, 30, 276) :: ((253, 29, 275) :: ((253, 28, 274) :: ((253, 27, 273) :: ((253, 26, 272) :: ((253, 25, 271) :: ((253, 24, 270) :: ((253, 23, 269) :: ((253, 22, 268) :: ((253, 21, 267) :: ((253, 20, 266) :: ((253, 19, 265) :: ((253, 18, 264) :: ((253, 17, 263) :: ((253, 16, 262) :: ((253, 15, 261) :: ((253, 14, 260) :: ((253, 13, 259) :: ((253, 12, 258) :: ((253, 11, 257) :: ((253, 10, 256) :: ((253, 9, 255) :: ((253, 0, 254) :: R))))))))))))))))))))))))))) := by
  refine z_dup (Y := mX12_init) (pc := 738) dX12_init_738 rfl ?_
  refine z_iconst (Y := mX12_init) (pc := 739) (v := (1 : Int32)) dX12_init_739 (by decide) ?_
  refine z_bipush (Y := mX12_init) (pc := 740) (v := (111 : Int32)) dX12_init_740 (by decide) ?_
  refine y_cast (Y := mX12_init) (pc := 742) (k := 1) dX12_init_742 zk_280 (by decide) (by unfold vp_in; decide) (by decide) (by decide) ?_
  refine z_dup (Y := mX12_init) (pc := 743) dX12_init_743 rfl ?_
  refine z_iconst (Y := mX12_init) (pc := 744) (v := (2 : Int32)) dX12_init_744 (by decide) ?_
  refine z_bipush (Y := mX12_init) (pc := 745) (v := (116 : Int32)) dX12_init_745 (by decide) ?_
  refine y_cast (Y := mX12_init) (pc := 747) (k := 2) dX12_init_747 zk_280 (by decide) (by unfold vp_in; decide) (by decide) (by decide) ?_
  refine y_putF (Y := mX12_init) (pc := 748) dX12_init_748 ff_12_93 zk_253 rfl (by decide) rfl ?_
  refine z_aload_n (Y := mX12_init) (pc := 751) 0 dX12_init_751 rfl rfl ?_
  refine z_iconst (Y := mX12_init) (pc := 752) (v := (3 : Int32)) dX12_init_752 (by decide) ?_
  refine y_newA (Y := mX12_init) (pc := 753) (t := 22) (N := 3) (n' := 282) (cs' := 28) (sl' := 1718) dX12_init_753 rfl (by decide) (by decide) w_1639 zk_281 (by decide) (by decide) (by decide) rfl rfl rfl (by decide) (by decide) ?_
  refine z_dup (Y := mX12_init) (pc := 755) dX12_init_755 rfl ?_
  refine z_iconst (Y := mX12_init) (pc := 756) (v := (0 : Int32)) dX12_init_756 (by decide) ?_
  refine z_bipush (Y := mX12_init) (pc := 757) (v := (97 : Int32)) dX12_init_757 (by decide) ?_
  refine y_cast (Y := mX12_init) (pc := 759) (k := 0) dX12_init_759 zk_281 (by decide) (by unfold vp_in; decide) (by decide) (by decide) ?_
  refine z_dup (Y := mX12_init) (pc := 760) dX12_init_760 rfl ?_
  refine z_iconst (Y := mX12_init) (pc := 761) (v := (1 : Int32)) dX12_init_761 (by decide) ?_
  refine z_bipush (Y := mX12_init) (pc := 762) (v := (108 : Int32)) dX12_init_762 (by decide) ?_
  refine y_cast (Y := mX12_init) (pc := 764) (k := 1) dX12_init_764 zk_281 (by decide) (by unfold vp_in; decide) (by decide) (by decide) ?_
  refine z_dup (Y := mX12_init) (pc := 765) dX12_init_765 rfl ?_
  refine z_iconst (Y := mX12_init) (pc := 766) (v := (2 : Int32)) dX12_init_766 (by decide) ?_
  refine z_bipush (Y := mX12_init) (pc := 767) (v := (108 : Int32)) dX12_init_767 (by decide) ?_
  refine y_cast (Y := mX12_init) (pc := 769) (k := 2) dX12_init_769 zk_281 (by decide) (by unfold vp_in; decide) (by decide) (by decide) ?_
  refine y_putF (Y := mX12_init) (pc := 770) dX12_init_770 ff_12_96 zk_253 rfl (by decide) rfl ?_
  refine z_aload_n (Y := mX12_init) (pc := 773) 0 dX12_init_773 rfl rfl ?_
  refine z_iconst (Y := mX12_init) (pc := 774) (v := (3 : Int32)) dX12_init_774 (by decide) ?_
  refine y_newA (Y := mX12_init) (pc := 775) (t := 22) (N := 3) (n' := 283) (cs' := 29) (sl' := 1721) dX12_init_775 rfl (by decide) (by decide) w_1639 zk_282 (by decide) (by decide) (by decide) rfl rfl rfl (by decide) (by decide) ?_
  refine z_dup (Y := mX12_init) (pc := 777) dX12_init_777 rfl ?_
  refine z_iconst (Y := mX12_init) (pc := 778) (v := (0 : Int32)) dX12_init_778 (by decide) ?_
  refine z_bipush (Y := mX12_init) (pc := 779) (v := (109 : Int32)) dX12_init_779 (by decide) ?_
  refine y_cast (Y := mX12_init) (pc := 781) (k := 0) dX12_init_781 zk_282 (by decide) (by unfold vp_in; decide) (by decide) (by decide) ?_
  refine z_dup (Y := mX12_init) (pc := 782) dX12_init_782 rfl ?_
  refine z_iconst (Y := mX12_init) (pc := 783) (v := (1 : Int32)) dX12_init_783 (by decide) ?_
  refine z_bipush (Y := mX12_init) (pc := 784) (v := (105 : Int32)) dX12_init_784 (by decide) ?_
  refine y_cast (Y := mX12_init) (pc := 786) (k := 1) dX12_init_786 zk_282 (by decide) (by unfold vp_in; decide) (by decide) (by decide) ?_
  refine z_dup (Y := mX12_init) (pc := 787) dX12_init_787 rfl ?_
  refine z_iconst (Y := mX12_init) (pc := 788) (v := (2 : Int32)) dX12_init_788 (by decide) ?_
  refine z_bipush (Y := mX12_init) (pc := 789) (v := (110 : Int32)) dX12_init_789 (by decide) ?_
  refine y_cast (Y := mX12_init) (pc := 791) (k := 2) dX12_init_791 zk_282 (by decide) (by unfold vp_in; decide) (by decide) (by decide) ?_
  refine y_putF (Y := mX12_init) (pc := 792) dX12_init_792 ff_12_99 zk_253 rfl (by decide) rfl ?_
  refine z_aload_n (Y := mX12_init) (pc := 795) 0 dX12_init_795 rfl rfl ?_
  refine z_iconst (Y := mX12_init) (pc := 796) (v := (3 : Int32)) dX12_init_796 (by decide) ?_
  refine y_newA (Y := mX12_init) (pc := 797) (t := 22) (N := 3) (n' := 284) (cs' := 30) (sl' := 1724) dX12_init_797 rfl (by decide) (by decide) w_1639 zk_283 (by decide) (by decide) (by decide) rfl rfl rfl (by decide) (by decide) ?_
  refine z_dup (Y := mX12_init) (pc := 799) dX12_init_799 rfl ?_
  refine z_iconst (Y := mX12_init) (pc := 800) (v := (0 : Int32)) dX12_init_800 (by decide) ?_
  refine z_bipush (Y := mX12_init) (pc := 801) (v := (109 : Int32)) dX12_init_801 (by decide) ?_
  refine y_cast (Y := mX12_init) (pc := 803) (k := 0) dX12_init_803 zk_283 (by decide) (by unfold vp_in; decide) (by decide) (by decide) ?_
  refine z_dup (Y := mX12_init) (pc := 804) dX12_init_804 rfl ?_
  refine z_iconst (Y := mX12_init) (pc := 805) (v := (1 : Int32)) dX12_init_805 (by decide) ?_
  refine z_bipush (Y := mX12_init) (pc := 806) (v := (97 : Int32)) dX12_init_806 (by decide) ?_
  refine y_cast (Y := mX12_init) (pc := 808) (k := 1) dX12_init_808 zk_283 (by decide) (by unfold vp_in; decide) (by decide) (by decide) ?_
  refine z_dup (Y := mX12_init) (pc := 809) dX12_init_809 rfl ?_
  refine z_iconst (Y := mX12_init) (pc := 810) (v := (2 : Int32)) dX12_init_810 (by decide) ?_
  refine z_bipush (Y := mX12_init) (pc := 811) (v := (120 : Int32)) dX12_init_811 (by decide) ?_
  refine y_cast (Y := mX12_init) (pc := 813) (k := 2) dX12_init_813 zk_283 (by decide) (by unfold vp_in; decide) (by decide) (by decide) ?_
  refine y_putF (Y := mX12_init) (pc := 814) dX12_init_814 ff_12_102 zk_253 rfl (by decide) rfl ?_
  refine z_aload_n (Y := mX12_init) (pc := 817) 0 dX12_init_817 rfl rfl ?_
  refine z_bipush (Y := mX12_init) (pc := 818) (v := (10 : Int32)) dX12_init_818 (by decide) ?_
  refine y_newA (Y := mX12_init) (pc := 820) (t := 20) (N := 10) (n' := 285) (cs' := 31) (sl' := 1734) dX12_init_820 rfl (by decide) (by decide) w_286 zk_284 (by decide) (by decide) (by decide) rfl rfl rfl (by decide) (by decide) ?_
  refine y_putF (Y := mX12_init) (pc := 822) dX12_init_822 ff_12_105 zk_253 rfl (by decide) rfl ?_
  refine z_aload_n (Y := mX12_init) (pc := 825) 0 dX12_init_825 rfl rfl ?_
  refine z_bipush (Y := mX12_init) (pc := 826) (v := (48 : Int32)) dX12_init_826 (by decide) ?_
  refine y_newA (Y := mX12_init) (pc := 828) (t := 21) (N := 48) (n' := 286) (cs' := 32) (sl' := 1782) dX12_init_828 rfl (by decide) (by decide) w_348 zk_285 (by decide) (by decide) (by decide) rfl rfl rfl (by decide) (by decide) ?_
  refine y_putF (Y := mX12_init) (pc := 830) dX12_init_830 ff_12_108 zk_253 rfl (by decide) rfl ?_
  refine z_aload_n (Y := mX12_init) (pc := 833) 0 dX12_init_833 rfl rfl ?_
  refine z_bipush (Y := mX12_init) (pc := 834) (v := (48 : Int32)) dX12_init_834 (by decide) ?_
  refine y_newA (Y := mX12_init) (pc := 836) (t := 20) (N := 48) (n' := 287) (cs' := 33) (sl' := 1830) dX12_init_836 rfl (by decide) (by decide) w_286 zk_286 (by decide) (by decide) (by decide) rfl rfl rfl (by decide) (by decide) ?_
  refine y_putF (Y := mX12_init) (pc := 838) dX12_init_838 ff_12_112 zk_253 rfl (by decide) rfl ?_
  refine z_aload_n (Y := mX12_init) (pc := 841) 0 dX12_init_841 rfl rfl ?_
  refine z_bipush (Y := mX12_init) (pc := 842) (v := (8 : Int32)) dX12_init_842 (by decide) ?_
  refine y_newA (Y := mX12_init) (pc := 844) (t := 20) (N := 8) (n' := 288) (cs' := 34) (sl' := 1838) dX12_init_844 rfl (by decide) (by decide) w_286 zk_287 (by decide) (by decide) (by decide) rfl rfl rfl (by decide) (by decide) ?_
  refine y_putF (Y := mX12_init) (pc := 846) dX12_init_846 ff_12_115 zk_253 rfl (by decide) rfl ?_
  refine z_aload_n (Y := mX12_init) (pc := 849) 0 dX12_init_849 rfl rfl ?_
  refine z_bipush (Y := mX12_init) (pc := 850) (v := (64 : Int32)) dX12_init_850 (by decide) ?_
  refine y_newA (Y := mX12_init) (pc := 852) (t := 20) (N := 64) (n' := 289) (cs' := 35) (sl' := 1902) dX12_init_852 rfl (by decide) (by decide) w_286 zk_288 (by decide) (by decide) (by decide) rfl rfl rfl (by decide) (by decide) ?_
  refine y_putF (Y := mX12_init) (pc := 854) dX12_init_854 ff_12_118 zk_253 rfl (by decide) rfl ?_
  refine z_aload_n (Y := mX12_init) (pc := 857) 0 dX12_init_857 rfl rfl ?_
  refine z_bipush (Y := mX12_init) (pc := 858) (v := (16 : Int32)) dX12_init_858 (by decide) ?_
  refine y_newA (Y := mX12_init) (pc := 860) (t := 20) (N := 16) (n' := 290) (cs' := 36) (sl' := 1918) dX12_init_860 rfl (by decide) (by decide) w_286 zk_289 (by decide) (by decide) (by decide) rfl rfl rfl (by decide) (by decide) ?_
  refine y_putF (Y := mX12_init) (pc := 862) dX12_init_862 ff_12_121 zk_253 rfl (by decide) rfl ?_
  refine z_aload_n (Y := mX12_init) (pc := 865) 0 dX12_init_865 rfl rfl ?_
  refine z_sipush (Y := mX12_init) (pc := 866) (v := (128 : Int32)) dX12_init_866 (by decide) ?_
  refine y_newA (Y := mX12_init) (pc := 869) (t := 20) (N := 128) (n' := 291) (cs' := 37) (sl' := 2046) dX12_init_869 rfl (by decide) (by decide) w_286 zk_290 (by decide) (by decide) (by decide) rfl rfl rfl (by decide) (by decide) ?_
  refine y_putF (Y := mX12_init) (pc := 871) dX12_init_871 ff_12_124 zk_253 rfl (by decide) rfl ?_
  refine z_aload_n (Y := mX12_init) (pc := 874) 0 dX12_init_874 rfl rfl ?_
  refine z_bipush (Y := mX12_init) (pc := 875) (v := (18 : Int32)) dX12_init_875 (by decide) ?_
  refine y_newA (Y := mX12_init) (pc := 877) (t := 20) (N := 18) (n' := 292) (cs' := 38) (sl' := 2064) dX12_init_877 rfl (by decide) (by decide) w_286 zk_291 (by decide) (by decide) (by decide) rfl rfl rfl (by decide) (by decide) ?_
  refine y_putF (Y := mX12_init) (pc := 879) dX12_init_879 ff_12_127 zk_253 rfl (by decide) rfl ?_
  refine z_aload_n (Y := mX12_init) (pc := 882) 0 dX12_init_882 rfl rfl ?_
  exact k
set_option maxRecDepth 100000 in
set_option maxHeartbeats 4000000 in
theorem kX12_init_253_7 {M' : z_M} (I : List (Nat × Nat × Int32)) (J : List (Nat × Nat × Int64)) (R : List (Nat × Nat × Nat)) (k : z_G mX12_init 0 80 11334 none M' 1028 [(0, .ref 253)] [.ref 306, .ref 253] 53 6107 (aM 307 ((293, 3, (-1 : Int32)) :: ((293, 2, (-1 : Int32)) :: ((293, 1, (-1 : Int32)) :: ((293, 0, (-1 : Int32)) :: ((292, 3, (0 : Int32)) :: ((292, 2, (3 : Int32)) :: ((292, 1, (0 : Int32)) :: ((292, 0, (3 : Int32)) :: ((283, 2, (120 : Int32)) :: ((283, 1, (97 : Int32)) :: ((283, 0, (109 : Int32)) :: ((282, 2, (110 : Int32)) :: ((282, 1, (105 : Int32)) :: ((282, 0, (109 : Int32)) :: ((281, 2, (108 : Int32)) :: ((281, 1, (108 : Int32)) :: ((281, 0, (97 : Int32)) :: ((280, 2, (116 : Int32)) :: ((280, 1, (111 : Int32)) :: ((280, 0, (110 : Int32)) :: ((279, 2, (100 : Int32)) :: ((279, 1, (110 : Int32)) :: ((279, 0, (97 : Int32)) :: ((278, 1, (114 : Int32)) :: ((278, 0, (111 : Int32)) :: ((277, 3, (101 : Int32)) :: ((277, 2, (110 : Int32)) :: ((277, 1, (111 : Int32)) :: ((277, 0, (100 : Int32)) :: ((276, 4, (116 : Int32)) :: ((276, 3, (101 : Int32)) :: ((276, 2, (101 : Int32)) :: ((276, 1, (104 : Int32)) :: ((276, 0, (115 : Int32)) :: ((275, 5, (114 : Int32)) :: ((275, 4, (101 : Int32)) :: ((275, 3, (98 : Int32)) :: ((275, 2, (109 : Int32)) :: ((275, 1, (117 : Int32)) :: ((275, 0, (110 : Int32)) :: ((274, 2, (121 : Int32)) :: ((274, 1, (97 : Int32)) :: ((274, 0, (100 : Int32)) :: ((273, 5, (115 : Int32)) :: ((273, 4, (101 : Int32)) :: ((273, 3, (104 : Int32)) :: ((273, 2, (115 : Int32)) :: ((273, 1, (105 : Int32)) :: ((273, 0, (119 : Int32)) :: ((272, 3, (100 : Int32)) :: ((272, 2, (108 : Int32)) :: ((272, 1, (111 : Int32)) :: ((272, 0, (99 : Int32)) :: ((271, 5, (100 : Int32)) :: ((271, 4, (101 : Int32)) :: ((271, 3, (115 : Int32)) :: ((271, 2, (115 : Int32)) :: ((271, 1, (105 : Int32)) :: ((271, 0, (109 : Int32)) :: ((270, 3, (109 : Int32)) :: ((270, 2, (114 : Int32)) :: ((270, 1, (97 : Int32)) :: ((270, 0, (119 : Int32)) :: ((269, 4, (115 : Int32)) :: ((269, 3, (101 : Int32)) :: ((269, 2, (107 : Int32)) :: ((269, 1, (97 : Int32)) :: ((269, 0, (116 : Int32)) :: ((268, 4, (115 : Int32)) :: ((268, 3, (114 : Int32)) :: ((268, 2, (97 : Int32)) :: ((268, 1, (101 : Int32)) :: ((268, 0, (98 : Int32)) :: ((267, 3, (100 : Int32)) :: ((267, 2, (110 : Int32)) :: ((267, 1, (97 : Int32)) :: ((267, 0, (104 : Int32)) :: ((266, 3, (101 : Int32)) :: ((266, 2, (109 : Int32)) :: ((266, 1, (105 : Int32)) :: ((266, 0, (116 : Int32)) :: ((265, 5, (114 : Int32)) :: ((265, 4, (101 : Int32)) :: ((265, 3, (112 : Int32)) :: ((265, 2, (108 : Int32)) :: ((265, 1, (101 : Int32)) :: ((265, 0, (104 : Int32)) :: ((264, 3, (101 : Int32)) :: ((264, 2, (107 : Int32)) :: ((264, 1, (105 : Int32)) :: ((264, 0, (108 : Int32)) :: ((263, 3, (114 : Int32)) :: ((263, 2, (97 : Int32)) :: ((263, 1, (101 : Int32)) :: ((263, 0, (110 : Int32)) :: ((262, 3, (104 : Int32)) :: ((262, 2, (115 : Int32)) :: ((262, 1, (105 : Int32)) :: ((262, 0, (119 : Int32)) :: ((261, 4, (107 : Int32)) :: ((261, 3, (99 : Int32)) :: ((261, 2, (111 : Int32)) :: ((261, 1, (116 : Int32)) :: ((261, 0, (115 : Int32)) :: ((260, 3, (116 : Int32)) :: ((260, 2, (102 : Int32)) :: ((260, 1, (105 : Int32)) :: ((260, 0, (103 : Int32)) :: ((259, 4, (101 : Int32)) :: ((259, 3, (118 : Int32)) :: ((259, 2, (97 : Int32)) :: ((259, 1, (114 : Int32)) :: ((259, 0, (103 : Int32)) :: ((258, 3, (100 : Int32)) :: ((258, 2, (101 : Int32)) :: ((258, 1, (101 : Int32)) :: ((258, 0, (110 : Int32)) :: ((257, 2, (101 : Int32)) :: ((257, 1, (103 : Int32)) :: ((257, 0, (97 : Int32)) :: ((256, 5, (114 : Int32)) :: ((256, 4, (101 : Int32)) :: ((256, 3, (116 : Int32)) :: ((256, 2, (116 : Int32)) :: ((256, 1, (101 : Int32)) :: ((256, 0, (108 : Int32)) :: ((253, 8, (-1 : Int32)) :: I))))))))))))))))))))))))))))))))))))))))))))))))))))))))))))))))))))))))))))))))))))))))))))))))))))))))))))))))))))))))))))))) J ((253, 66, 305) :: ((253, 64, 304) :: ((253, 62, 303) :: ((253, 61, 302) :: ((253, 60, 301) :: ((253, 59, 300) :: ((253, 58, 299) :: ((253, 57, 298) :: ((253, 55, 297) :: ((253, 54, 296) :: ((253, 50, 295) :: ((253, 49, 294) :: ((253, 48, 293) :: ((253, 47, 292) :: ((253, 46, 291) :: ((253, 45, 290) :: ((253, 44, 289) :: ((253, 43, 288) :: ((253, 42, 287) :: ((253, 41, 286) :: ((253, 40, 285) :: ((253, 39, 284) :: ((253, 37, 283) :: ((253, 36, 282) :: ((253, 35, 281) :: ((253, 34, 280) :: ((253, 33, 279) :: ((253, 32, 278) :: ((253, 31, 277) :: ((253, 30, 276) :: ((253, 29, 275) :: ((253, 28, 274) :: ((253, 27, 273) :: ((253, 26, 272) :: ((253, 25, 271) :: ((253, 24, 270) :: ((253, 23, 269) :: ((253, 22, 268) :: ((253, 21, 267) :: ((253, 20, 266) :: ((253, 19, 265) :: ((253, 18, 264) :: ((253, 17, 263) :: ((253, 16, 262) :: ((253, 15, 261) :: ((253, 14, 260) :: ((253, 13, 259) :: ((253, 12, 258) :: ((253, 11, 257) :: ((253, 10, 256) :: ((253, 9, 255) :: ((253, 0, 254) :: R)))))))))))))))))))))))))))))))))))))))))))))))))))))) : z_G mX12_init 0 80 11334 none M' 883 [(0, .ref 253)] [.ref 253] 38 2064 (aM 292 ((283, 2, (120 : Int32)) :: ((283, 1, (97 : Int32)) :: ((283, 0, (109 : Int32)) :: ((282, 2, (110 : Int32)) :: ((282, 1, (105 : Int32)) :: ((282, 0, (109 : Int32)) :: ((281, 2, (108 : Int32)) :: ((281, 1, (108 : Int32)) :: ((281, 0, (97 : Int32)) :: ((280, 2, (116 : Int32)) :: ((280, 1, (111 : Int32)) :: ((280, 0, (110 : Int32)) :: ((279, 2, (100 : Int32)) :: ((279, 1, (110 : Int32)) :: ((279, 0, (97 : Int32)) :: ((278, 1, (114 : Int32)) :: ((278, 0, (111 : Int32)) :: ((277, 3, (101 : Int32)) :: ((277, 2, (110 : Int32)) :: ((277, 1, (111 : Int32)) :: ((277, 0, (100 : Int32)) :: ((276, 4, (116 : Int32)) :: ((276, 3, (101 : Int32)) :: ((276, 2, (101 : Int32)) :: ((276, 1, (104 : Int32)) :: ((276, 0, (115 : Int32)) :: ((275, 5, (114 : Int32)) :: ((275, 4, (101 : Int32)) :: ((275, 3, (98 : Int32)) :: ((275, 2, (109 : Int32)) :: ((275, 1, (117 : Int32)) :: ((275, 0, (110 : Int32)) :: ((274, 2, (121 : Int32)) :: ((274, 1, (97 : Int32)) :: ((274, 0, (100 : Int32)) :: ((273, 5, (115 : Int32)) :: ((273, 4, (101 : Int32)) :: ((273, 3, (104 : Int32)) :: ((273, 2, (115 : Int32)) :: ((273, 1, (105 : Int32)) :: ((273, 0, (119 : Int32)) :: ((272, 3, (100 : Int32)) :: ((272, 2, (108 : Int32)) :: ((272, 1, (111 : Int32)) :: ((272, 0, (99 : Int32)) :: ((271, 5, (100 : Int32)) :: ((271, 4, (101 : Int32)) :: ((271, 3, (115 : Int32)) :: ((271, 2, (115 : Int32)) :: ((271, 1, (105 : Int32)) :: ((271, 0, (109 : Int32)) :: ((270, 3, (109 : Int32)) :: ((270, 2, (114 : Int32)) :: ((270, 1, (97 : Int32)) :: ((270, 0, (119 : Int32)) :: ((269, 4, (115 : Int32)) :: ((269, 3, (101 : Int32)) :: ((269, 2, (107 : Int32)) :: ((269, 1, (97 : Int32)) :: ((269, 0, (116 : Int32)) :: ((268, 4, (115 : Int32)) :: ((268, 3, (114 : Int32)) :: ((268, 2, (97 : Int32)) :: ((268, 1, (101 : Int32)) :: ((268, 0, (98 : Int32)) :: ((267, 3, (100 : Int32)) :: ((267, 2, (110 : Int32)) :: ((267, 1, (97 : Int32)) :: ((267, 0, (104 : Int32)) :: ((266, 3, (101 : Int32)) :: ((266, 2, (109 : Int32)) :: ((266, 1, (105 : Int32)) :: ((266, 0, (116 : Int32)) :: ((265, 5, (114 : Int32)) :: ((265, 4, (101 : Int32)) :: ((265, 3, (112 : Int32)) :: ((265, 2, (108 : Int32)) :: ((265, 1, (101 : Int32)) :: ((265, 0, (104 : Int32)) :: ((264, 3, (101 : Int32)) :: ((264, 2, (107 : Int32)) :: ((264, 1, (105 : Int32)) :: ((264, 0, (108 : Int32)) :: ((263, 3, (114 : Int32)) :: ((263, 2, (97 : Int32)) :: ((263, 1, (101 : Int32)) :: ((263, 0, (110 : Int32)) :: ((262, 3, (104 : Int32)) :: ((262, 2, (115 : Int32)) :: ((262, 1, (105 : Int32)) :: ((262, 0, (119 : Int32)) :: ((261, 4, (107 : Int32)) :: ((261, 3, (99 : Int32)) :: ((261, 2, (111 : Int32)) :: ((261, 1, (116 : Int32)) :: ((261, 0, (115 : Int32)) :: ((260, 3, (116 : Int32)) :: ((260, 2, (102 : Int32)) :: ((260, 1, (105 : Int32)) :: ((260, 0, (103 : Int32)) :: ((259, 4, (101 : Int32)) :: ((259, 3, (118 : Int32)) :: ((259, 2, (97 : Int32)) :: ((259, 1, (114 : Int32)) :: ((259, 0, (103 : Int32)) :: ((258, 3, (100 : Int32)) :: ((258, 2, (101 : Int32)) :: ((258, 1, (101 : Int32)) :: ((258, 0, (110 : Int32)) :: ((257, 2, (101 : Int32)) :: ((257, 1, (103 : Int32)) :: ((257, 0, (97 : Int32)) :: ((256, 5, (114 : Int32)) :: ((256, 4, (101 : Int32)) :: ((256, 3, (116 : Int32)) :: ((256, 2, (116 : Int32)) :: ((256, 1, (101 : Int32)) :: ((256, 0, (108 : Int32)) :: ((253, 8, (-1 : Int32)) :: I))))))))))))))))))))))))))))))))))))))))))))))))))))))))))))))))))))))))))))))))))))))))))))))))))))))))))))))))))))))) J ((253, 46, 291) :: ((253, 45, 290) :: ((253, 44, 289) :: ((253, 43, 288) :: ((253, 42, 287) :: ((253, 41, 286) :: ((253, 40, 285) :: ((253, 39, 284) :: ((253, 37, 283) :: ((253, 36, 282) :: ((253, 35, 281) :: ((253, 34, 280) :: ((253, 33, 279) :: ((253, 32, 278) :: ((253, 31, 277) :: ((253, 30, 276) :: ((253, 29, 275) :: ((253, 28, 274) :: ((253, 27, 273) :: ((253, 26, 272) :: ((253, 25, 271) :: ((253, 24, 270) :: ((253, 23, 269) :: ((253, 22, 268) :: ((253, 21, 267) :: ((253, 20, 266) :: ((253, 19, 265) :: ((253, 18, 264) :: ((253, 17, 263) :: ((253, 16, 262) :: ((253, 15, 261) :: ((253, 14, 260) :: ((253, 13, 259) :: ((253, 12, 258) :: ((253, 11, 257) :: ((253, 10, 256) :: ((253, 9, 255) :: ((253, 0, 254) :: R))))))))))))))))))))))))))))))))))))))) := by
  refine z_iconst (Y := mX12_init) (pc := 883) (v := (4 : Int32)) dX12_init_883 (by decide) ?_
  refine y_newA (Y := mX12_init) (pc := 884) (t := 20) (N := 4) (n' := 293) (cs' := 39) (sl' := 2068) dX12_init_884 rfl (by decide) (by decide) w_286 zk_292 (by decide) (by decide) (by decide) rfl rfl rfl (by decide) (by decide) ?_
  refine z_dup (Y := mX12_init) (pc := 886) dX12_init_886 rfl ?_
  refine z_iconst (Y := mX12_init) (pc := 887) (v := (0 : Int32)) dX12_init_887 (by decide) ?_
  refine z_iconst (Y := mX12_init) (pc := 888) (v := (3 : Int32)) dX12_init_888 (by decide) ?_
  refine y_iast (Y := mX12_init) (pc := 889) (k := 0) dX12_init_889 zk_292 (by decide) (by unfold vp_in; decide) (by decide) ?_
  refine z_dup (Y := mX12_init) (pc := 890) dX12_init_890 rfl ?_
  refine z_iconst (Y := mX12_init) (pc := 891) (v := (1 : Int32)) dX12_init_891 (by decide) ?_
  refine z_iconst (Y := mX12_init) (pc := 892) (v := (0 : Int32)) dX12_init_892 (by decide) ?_
  refine y_iast (Y := mX12_init) (pc := 893) (k := 1) dX12_init_893 zk_292 (by decide) (by unfold vp_in; decide) (by decide) ?_
  refine z_dup (Y := mX12_init) (pc := 894) dX12_init_894 rfl ?_
  refine z_iconst (Y := mX12_init) (pc := 895) (v := (2 : Int32)) dX12_init_895 (by decide) ?_
  refine z_iconst (Y := mX12_init) (pc := 896) (v := (3 : Int32)) dX12_init_896 (by decide) ?_
  refine y_iast (Y := mX12_init) (pc := 897) (k := 2) dX12_init_897 zk_292 (by decide) (by unfold vp_in; decide) (by decide) ?_
  refine z_dup (Y := mX12_init) (pc := 898) dX12_init_898 rfl ?_
  refine z_iconst (Y := mX12_init) (pc := 899) (v := (3 : Int32)) dX12_init_899 (by decide) ?_
  refine z_iconst (Y := mX12_init) (pc := 900) (v := (0 : Int32)) dX12_init_900 (by decide) ?_
  refine y_iast (Y := mX12_init) (pc := 901) (k := 3) dX12_init_901 zk_292 (by decide) (by unfold vp_in; decide) (by decide) ?_
  refine y_putF (Y := mX12_init) (pc := 902) dX12_init_902 ff_12_130 zk_253 rfl (by decide) rfl ?_
  refine z_aload_n (Y := mX12_init) (pc := 905) 0 dX12_init_905 rfl rfl ?_
  refine z_iconst (Y := mX12_init) (pc := 906) (v := (4 : Int32)) dX12_init_906 (by decide) ?_
  refine y_newA (Y := mX12_init) (pc := 907) (t := 20) (N := 4) (n' := 294) (cs' := 40) (sl' := 2072) dX12_init_907 rfl (by decide) (by decide) w_286 zk_293 (by decide) (by decide) (by decide) rfl rfl rfl (by decide) (by decide) ?_
  refine z_dup (Y := mX12_init) (pc := 909) dX12_init_909 rfl ?_
  refine z_iconst (Y := mX12_init) (pc := 910) (v := (0 : Int32)) dX12_init_910 (by decide) ?_
  refine z_iconst (Y := mX12_init) (pc := 911) (v := (-1 : Int32)) dX12_init_911 (by decide) ?_
  refine y_iast (Y := mX12_init) (pc := 912) (k := 0) dX12_init_912 zk_293 (by decide) (by unfold vp_in; decide) (by decide) ?_
  refine z_dup (Y := mX12_init) (pc := 913) dX12_init_913 rfl ?_
  refine z_iconst (Y := mX12_init) (pc := 914) (v := (1 : Int32)) dX12_init_914 (by decide) ?_
  refine z_iconst (Y := mX12_init) (pc := 915) (v := (-1 : Int32)) dX12_init_915 (by decide) ?_
  refine y_iast (Y := mX12_init) (pc := 916) (k := 1) dX12_init_916 zk_293 (by decide) (by unfold vp_in; decide) (by decide) ?_
  refine z_dup (Y := mX12_init) (pc := 917) dX12_init_917 rfl ?_
  refine z_iconst (Y := mX12_init) (pc := 918) (v := (2 : Int32)) dX12_init_918 (by decide) ?_
  refine z_iconst (Y := mX12_init) (pc := 919) (v := (-1 : Int32)) dX12_init_919 (by decide) ?_
  refine y_iast (Y := mX12_init) (pc := 920) (k := 2) dX12_init_920 zk_293 (by decide) (by unfold vp_in; decide) (by decide) ?_
  refine z_dup (Y := mX12_init) (pc := 921) dX12_init_921 rfl ?_
  refine z_iconst (Y := mX12_init) (pc := 922) (v := (3 : Int32)) dX12_init_922 (by decide) ?_
  refine z_iconst (Y := mX12_init) (pc := 923) (v := (-1 : Int32)) dX12_init_923 (by decide) ?_
  refine y_iast (Y := mX12_init) (pc := 924) (k := 3) dX12_init_924 zk_293 (by decide) (by unfold vp_in; decide) (by decide) ?_
  refine y_putF (Y := mX12_init) (pc := 925) dX12_init_925 ff_12_133 zk_253 rfl (by decide) rfl ?_
  refine z_aload_n (Y := mX12_init) (pc := 928) 0 dX12_init_928 rfl rfl ?_
  refine z_iconst (Y := mX12_init) (pc := 929) (v := (4 : Int32)) dX12_init_929 (by decide) ?_
  refine y_newA (Y := mX12_init) (pc := 930) (t := 20) (N := 4) (n' := 295) (cs' := 41) (sl' := 2076) dX12_init_930 rfl (by decide) (by decide) w_286 zk_294 (by decide) (by decide) (by decide) rfl rfl rfl (by decide) (by decide) ?_
  refine y_putF (Y := mX12_init) (pc := 932) dX12_init_932 ff_12_136 zk_253 rfl (by decide) rfl ?_
  refine z_aload_n (Y := mX12_init) (pc := 935) 0 dX12_init_935 rfl rfl ?_
  refine z_sipush (Y := mX12_init) (pc := 936) (v := (3200 : Int32)) dX12_init_936 (by decide) ?_
  refine y_newA (Y := mX12_init) (pc := 939) (t := 20) (N := 3200) (n' := 296) (cs' := 42) (sl' := 5276) dX12_init_939 rfl (by decide) (by decide) w_286 zk_295 (by decide) (by decide) (by decide) rfl rfl rfl (by decide) (by decide) ?_
  refine y_putF (Y := mX12_init) (pc := 941) dX12_init_941 ff_12_139 zk_253 rfl (by decide) rfl ?_
  refine z_aload_n (Y := mX12_init) (pc := 944) 0 dX12_init_944 rfl rfl ?_
  refine z_bipush (Y := mX12_init) (pc := 945) (v := (32 : Int32)) dX12_init_945 (by decide) ?_
  refine y_newA (Y := mX12_init) (pc := 947) (t := 20) (N := 32) (n' := 297) (cs' := 43) (sl' := 5308) dX12_init_947 rfl (by decide) (by decide) w_286 zk_296 (by decide) (by decide) (by decide) rfl rfl rfl (by decide) (by decide) ?_
  refine y_putF (Y := mX12_init) (pc := 949) dX12_init_949 ff_12_142 zk_253 rfl (by decide) rfl ?_
  refine z_aload_n (Y := mX12_init) (pc := 952) 0 dX12_init_952 rfl rfl ?_
  refine z_bipush (Y := mX12_init) (pc := 953) (v := (32 : Int32)) dX12_init_953 (by decide) ?_
  refine y_newA (Y := mX12_init) (pc := 955) (t := 20) (N := 32) (n' := 298) (cs' := 44) (sl' := 5340) dX12_init_955 rfl (by decide) (by decide) w_286 zk_297 (by decide) (by decide) (by decide) rfl rfl rfl (by decide) (by decide) ?_
  refine y_putF (Y := mX12_init) (pc := 957) dX12_init_957 ff_12_145 zk_253 rfl (by decide) rfl ?_
  refine z_aload_n (Y := mX12_init) (pc := 960) 0 dX12_init_960 rfl rfl ?_
  refine z_bipush (Y := mX12_init) (pc := 961) (v := (8 : Int32)) dX12_init_961 (by decide) ?_
  refine y_newA (Y := mX12_init) (pc := 963) (t := 20) (N := 8) (n' := 299) (cs' := 45) (sl' := 5348) dX12_init_963 rfl (by decide) (by decide) w_286 zk_298 (by decide) (by decide) (by decide) rfl rfl rfl (by decide) (by decide) ?_
  refine y_putF (Y := mX12_init) (pc := 965) dX12_init_965 ff_12_148 zk_253 rfl (by decide) rfl ?_
  refine z_aload_n (Y := mX12_init) (pc := 968) 0 dX12_init_968 rfl rfl ?_
  refine z_bipush (Y := mX12_init) (pc := 969) (v := (8 : Int32)) dX12_init_969 (by decide) ?_
  refine y_newA (Y := mX12_init) (pc := 971) (t := 20) (N := 8) (n' := 300) (cs' := 46) (sl' := 5356) dX12_init_971 rfl (by decide) (by decide) w_286 zk_299 (by decide) (by decide) (by decide) rfl rfl rfl (by decide) (by decide) ?_
  refine y_putF (Y := mX12_init) (pc := 973) dX12_init_973 ff_12_151 zk_253 rfl (by decide) rfl ?_
  refine z_aload_n (Y := mX12_init) (pc := 976) 0 dX12_init_976 rfl rfl ?_
  refine z_bipush (Y := mX12_init) (pc := 977) (v := (8 : Int32)) dX12_init_977 (by decide) ?_
  refine y_newA (Y := mX12_init) (pc := 979) (t := 20) (N := 8) (n' := 301) (cs' := 47) (sl' := 5364) dX12_init_979 rfl (by decide) (by decide) w_286 zk_300 (by decide) (by decide) (by decide) rfl rfl rfl (by decide) (by decide) ?_
  refine y_putF (Y := mX12_init) (pc := 981) dX12_init_981 ff_12_154 zk_253 rfl (by decide) rfl ?_
  refine z_aload_n (Y := mX12_init) (pc := 984) 0 dX12_init_984 rfl rfl ?_
  refine z_bipush (Y := mX12_init) (pc := 985) (v := (24 : Int32)) dX12_init_985 (by decide) ?_
  refine y_newA (Y := mX12_init) (pc := 987) (t := 20) (N := 24) (n' := 302) (cs' := 48) (sl' := 5388) dX12_init_987 rfl (by decide) (by decide) w_286 zk_301 (by decide) (by decide) (by decide) rfl rfl rfl (by decide) (by decide) ?_
  refine y_putF (Y := mX12_init) (pc := 989) dX12_init_989 ff_12_157 zk_253 rfl (by decide) rfl ?_
  refine z_aload_n (Y := mX12_init) (pc := 992) 0 dX12_init_992 rfl rfl ?_
  refine z_bipush (Y := mX12_init) (pc := 993) (v := (24 : Int32)) dX12_init_993 (by decide) ?_
  refine y_newA (Y := mX12_init) (pc := 995) (t := 21) (N := 24) (n' := 303) (cs' := 49) (sl' := 5412) dX12_init_995 rfl (by decide) (by decide) w_348 zk_302 (by decide) (by decide) (by decide) rfl rfl rfl (by decide) (by decide) ?_
  refine y_putF (Y := mX12_init) (pc := 997) dX12_init_997 ff_12_160 zk_253 rfl (by decide) rfl ?_
  refine z_aload_n (Y := mX12_init) (pc := 1000) 0 dX12_init_1000 rfl rfl ?_
  refine z_iconst (Y := mX12_init) (pc := 1001) (v := (3 : Int32)) dX12_init_1001 (by decide) ?_
  refine y_newA (Y := mX12_init) (pc := 1002) (t := 20) (N := 3) (n' := 304) (cs' := 50) (sl' := 5415) dX12_init_1002 rfl (by decide) (by decide) w_286 zk_303 (by decide) (by decide) (by decide) rfl rfl rfl (by decide) (by decide) ?_
  refine y_putF (Y := mX12_init) (pc := 1004) dX12_init_1004 ff_12_163 zk_253 rfl (by decide) rfl ?_
  refine z_aload_n (Y := mX12_init) (pc := 1007) 0 dX12_init_1007 rfl rfl ?_
  refine z_iconst (Y := mX12_init) (pc := 1008) (v := (4 : Int32)) dX12_init_1008 (by decide) ?_
  refine y_newA (Y := mX12_init) (pc := 1009) (t := 20) (N := 4) (n' := 305) (cs' := 51) (sl' := 5419) dX12_init_1009 rfl (by decide) (by decide) w_286 zk_304 (by decide) (by decide) (by decide) rfl rfl rfl (by decide) (by decide) ?_
  refine y_putF (Y := mX12_init) (pc := 1011) dX12_init_1011 ff_12_166 zk_253 rfl (by decide) rfl ?_
  refine z_aload_n (Y := mX12_init) (pc := 1014) 0 dX12_init_1014 rfl rfl ?_
  refine z_bipush (Y := mX12_init) (pc := 1015) (v := (48 : Int32)) dX12_init_1015 (by decide) ?_
  refine y_newA (Y := mX12_init) (pc := 1017) (t := 20) (N := 48) (n' := 306) (cs' := 52) (sl' := 5467) dX12_init_1017 rfl (by decide) (by decide) w_286 zk_305 (by decide) (by decide) (by decide) rfl rfl rfl (by decide) (by decide) ?_
  refine y_putF (Y := mX12_init) (pc := 1019) dX12_init_1019 ff_12_169 zk_253 rfl (by decide) rfl ?_
  refine z_aload_n (Y := mX12_init) (pc := 1022) 0 dX12_init_1022 rfl rfl ?_
  refine z_sipush (Y := mX12_init) (pc := 1023) (v := (640 : Int32)) dX12_init_1023 (by decide) ?_
  refine y_newA (Y := mX12_init) (pc := 1026) (t := 20) (N := 640) (n' := 307) (cs' := 53) (sl' := 6107) dX12_init_1026 rfl (by decide) (by decide) w_286 zk_306 (by decide) (by decide) (by decide) rfl rfl rfl (by decide) (by decide) ?_
  exact k
