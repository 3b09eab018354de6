def f_X4_lookAt (N : Nat) (o1 : Nat) (o2 : Nat) (a3 : Int32) (μ : z_S) : Option (Unit × z_S) :=
  z_ko true o1 2 <| z_ko true o2 8 <| z_in a3 8 <| z_cpin (0 : Int32) (0 : Int32) (4 : Int32) 4 4 <| z_bd (z_cpS μ (o1 + 11 + a3.toNatClampNeg) (0 : Int32).toNatClampNeg 6 (0 : Int32).toNatClampNeg (4 : Int32).toNatClampNeg) fun μ_1 => z_in a3 8 <| z_bd (z_setI μ_1 5 0 (μ_1.1 (o1 + 6) a3.toNatClampNeg)) fun μ_2 => z_in a3 8 <| z_bd (z_setI μ_2 5 1 (μ_2.1 (o1 + 7) a3.toNatClampNeg)) fun μ_3 => z_in a3 8 <| z_bd (z_setI μ_3 5 2 (μ_3.1 (o1 + 8) a3.toNatClampNeg)) fun μ_4 => z_bn (f_X2_allWishes N o1 a3 μ_4) fun x1 μ_5 => z_bd (z_setI μ_5 5 4 x1) fun μ_6 => z_bd (z_setI μ_6 5 5 (μ_6.1 o2 0)) fun μ_7 => z_bd (z_setI μ_7 5 6 a3) fun μ_8 => z_in a3 8 <| z_bd (z_setI μ_8 5 7 (μ_8.1 (o2 + 4) a3.toNatClampNeg)) fun μ_9 => z_in a3 8 <| z_bd (z_setI μ_9 5 8 ((μ_9.1 (o2 + 3) a3.toNatClampNeg) + (1 : Int32))) fun μ_10 => z_in a3 8 <| z_bd (z_setI μ_10 5 9 ((μ_10.1 (o2 + 5) a3.toNatClampNeg) + (1 : Int32))) fun μ_11 => some ((), μ_11)
theorem t_X4_lookAt (N : Nat) (o1 : Nat) (o2 : Nat) (a3 : Int32) (μ : z_S) : z_met true rV mX4_lookAt 1 [.ref 4, .ref o1, .ref o2, .int a3] μ (f_X4_lookAt N o1 o2 a3 μ) := by
  refine z_met.of (by decide +kernel) (by show _ ≤ _; first | decide | exact Nat.le_of_ble_eq_true rfl) (lv := [(0, .ref 4), (1, .ref o1), (2, .ref o2), (3, .int a3)]) rfl ?_
  unfold f_X4_lookAt
  refine s_ko (fun hk1 => ?_)
  refine s_ko (fun hk2 => ?_)
  refine s_aload_n (pc := 0) 1 dX4_lookAt_0 rfl rfl ?_
  refine s_getR (pc := 1) (ci := 2) (k := 6) (r := (o1 + 10)) dX4_lookAt_1 fl_4_77 hk1 rfl (gr_2_0_6 hk1) ?_
  refine s_iload_n (pc := 4) 3 dX4_lookAt_4 rfl rfl ?_
  refine s_aald (pc := 5) (r := (o1 + 11 + a3.toNatClampNeg)) dX4_lookAt_5 (gk_2_10 hk1) (by decide) (by decide) (fun hi => ga_2_10 hk1 hi) (fun hi1 => ?_)
  refine s_iconst (pc := 6) (v := (0 : Int32)) dX4_lookAt_6 (by decide) ?_
  refine s_aload_n (pc := 7) 0 dX4_lookAt_7 rfl rfl ?_
  refine s_getR (pc := 8) (ci := 4) (k := 1) (r := 6) dX4_lookAt_8 fl_4_15 kd_4 rfl rs_4_1 ?_
  refine s_iconst (pc := 11) (v := (0 : Int32)) dX4_lookAt_11 (by decide) ?_
  refine s_aload_n (pc := 12) 0 dX4_lookAt_12 rfl rfl ?_
  refine s_getR (pc := 13) (ci := 4) (k := 1) (r := 6) dX4_lookAt_13 fl_4_15 kd_4 rfl rs_4_1 ?_
  refine s_alen (pc := 16) (v := (4 : Int32)) dX4_lookAt_16 kd_6 (by decide) (by decide) (by decide) ?_
  refine s_copy (pc := 17) dX4_lookAt_17 lc_4_81 (gb_2_10 hk1 hi1) kd_6 (by decide) (fun μ_1 => ?_)
  refine s_aload_n (pc := 20) 0 dX4_lookAt_20 rfl rfl ?_
  refine s_getR (pc := 21) (ci := 4) (k := 0) (r := 5) dX4_lookAt_21 fl_4_9 kd_4 rfl rs_4_0 ?_
  refine s_iconst (pc := 24) (v := (0 : Int32)) dX4_lookAt_24 (by decide) ?_
  refine s_aload_n (pc := 25) 1 dX4_lookAt_25 rfl rfl ?_
  refine s_getR (pc := 26) (ci := 2) (k := 2) (r := (o1 + 6)) dX4_lookAt_26 fl_4_87 hk1 rfl (gr_2_0_2 hk1) ?_
  refine s_iload_n (pc := 29) 3 dX4_lookAt_29 rfl rfl ?_
  refine s_iald (pc := 30) dX4_lookAt_30 (gk_2_6 hk1) ?_
  refine s_iastK (pc := 31) (k := 0) dX4_lookAt_31 kd_5 (by decide) (by decide) (by decide) (fun μ_2 => ?_)
  refine s_aload_n (pc := 32) 0 dX4_lookAt_32 rfl rfl ?_
  refine s_getR (pc := 33) (ci := 4) (k := 0) (r := 5) dX4_lookAt_33 fl_4_9 kd_4 rfl rs_4_0 ?_
  refine s_iconst (pc := 36) (v := (1 : Int32)) dX4_lookAt_36 (by decide) ?_
  refine s_aload_n (pc := 37) 1 dX4_lookAt_37 rfl rfl ?_
  refine s_getR (pc := 38) (ci := 2) (k := 3) (r := (o1 + 7)) dX4_lookAt_38 fl_4_90 hk1 rfl (gr_2_0_3 hk1) ?_
  refine s_iload_n (pc := 41) 3 dX4_lookAt_41 rfl rfl ?_
  refine s_iald (pc := 42) dX4_lookAt_42 (gk_2_7 hk1) ?_
  refine s_iastK (pc := 43) (k := 1) dX4_lookAt_43 kd_5 (by decide) (by decide) (by decide) (fun μ_3 => ?_)
  refine s_aload_n (pc := 44) 0 dX4_lookAt_44 rfl rfl ?_
  refine s_getR (pc := 45) (ci := 4) (k := 0) (r := 5) dX4_lookAt_45 fl_4_9 kd_4 rfl rs_4_0 ?_
  refine s_iconst (pc := 48) (v := (2 : Int32)) dX4_lookAt_48 (by decide) ?_
  refine s_aload_n (pc := 49) 1 dX4_lookAt_49 rfl rfl ?_
  refine s_getR (pc := 50) (ci := 2) (k := 4) (r := (o1 + 8)) dX4_lookAt_50 fl_4_61 hk1 rfl (gr_2_0_4 hk1) ?_
  refine s_iload_n (pc := 53) 3 dX4_lookAt_53 rfl rfl ?_
  refine s_iald (pc := 54) dX4_lookAt_54 (gk_2_8 hk1) ?_
  refine s_iastK (pc := 55) (k := 2) dX4_lookAt_55 kd_5 (by decide) (by decide) (by decide) (fun μ_4 => ?_)
  refine s_aload_n (pc := 56) 0 dX4_lookAt_56 rfl rfl ?_
  refine s_getR (pc := 57) (ci := 4) (k := 0) (r := 5) dX4_lookAt_57 fl_4_9 kd_4 rfl rs_4_0 ?_
  refine s_iconst (pc := 60) (v := (4 : Int32)) dX4_lookAt_60 (by decide) ?_
  refine s_aload_n (pc := 61) 1 dX4_lookAt_61 rfl rfl ?_
  refine s_iload_n (pc := 62) 3 dX4_lookAt_62 rfl rfl ?_
  refine s_callVI (pc := 63) (as := [.int a3]) (st := [.int (4 : Int32), .ref 5]) dX4_lookAt_63 lk_4_93 hk1 (t_X2_allWishes N o1 a3 μ_4) (by omega) rfl (Nat.le_of_ble_eq_true rfl) rfl (fun x1 μ_5 => ?_)
  refine s_iastK (pc := 66) (k := 4) dX4_lookAt_66 kd_5 (by decide) (by decide) (by decide) (fun μ_6 => ?_)
  refine s_aload_n (pc := 67) 0 dX4_lookAt_67 rfl rfl ?_
  refine s_getR (pc := 68) (ci := 4) (k := 0) (r := 5) dX4_lookAt_68 fl_4_9 kd_4 rfl rs_4_0 ?_
  refine s_iconst (pc := 71) (v := (5 : Int32)) dX4_lookAt_71 (by decide) ?_
  refine s_aload_n (pc := 72) 2 dX4_lookAt_72 rfl rfl ?_
  refine s_getI (pc := 73) (ci := 8) (k := 0) dX4_lookAt_73 fl_4_97 hk2 rfl ?_
  refine s_iastK (pc := 76) (k := 5) dX4_lookAt_76 kd_5 (by decide) (by decide) (by decide) (fun μ_7 => ?_)
  refine s_aload_n (pc := 77) 0 dX4_lookAt_77 rfl rfl ?_
  refine s_getR (pc := 78) (ci := 4) (k := 0) (r := 5) dX4_lookAt_78 fl_4_9 kd_4 rfl rs_4_0 ?_
  refine s_bipush (pc := 81) (v := (6 : Int32)) dX4_lookAt_81 (by decide) ?_
  refine s_iload_n (pc := 83) 3 dX4_lookAt_83 rfl rfl ?_
  refine s_iastK (pc := 84) (k := 6) dX4_lookAt_84 kd_5 (by decide) (by decide) (by decide) (fun μ_8 => ?_)
  refine s_aload_n (pc := 85) 0 dX4_lookAt_85 rfl rfl ?_
  refine s_getR (pc := 86) (ci := 4) (k := 0) (r := 5) dX4_lookAt_86 fl_4_9 kd_4 rfl rs_4_0 ?_
  refine s_bipush (pc := 89) (v := (7 : Int32)) dX4_lookAt_89 (by decide) ?_
  refine s_aload_n (pc := 91) 2 dX4_lookAt_91 rfl rfl ?_
  refine s_getR (pc := 92) (ci := 8) (k := 4) (r := (o2 + 4)) dX4_lookAt_92 fl_4_100 hk2 rfl (gr_8_0_4 hk2) ?_
  refine s_iload_n (pc := 95) 3 dX4_lookAt_95 rfl rfl ?_
  refine s_iald (pc := 96) dX4_lookAt_96 (gk_8_4 hk2) ?_
  refine s_iastK (pc := 97) (k := 7) dX4_lookAt_97 kd_5 (by decide) (by decide) (by decide) (fun μ_9 => ?_)
  refine s_aload_n (pc := 98) 0 dX4_lookAt_98 rfl rfl ?_
  refine s_getR (pc := 99) (ci := 4) (k := 0) (r := 5) dX4_lookAt_99 fl_4_9 kd_4 rfl rs_4_0 ?_
  refine s_bipush (pc := 102) (v := (8 : Int32)) dX4_lookAt_102 (by decide) ?_
  refine s_aload_n (pc := 104) 2 dX4_lookAt_104 rfl rfl ?_
  refine s_getR (pc := 105) (ci := 8) (k := 3) (r := (o2 + 3)) dX4_lookAt_105 fl_4_53 hk2 rfl (gr_8_0_3 hk2) ?_
  refine s_iload_n (pc := 108) 3 dX4_lookAt_108 rfl rfl ?_
  refine s_iald (pc := 109) dX4_lookAt_109 (gk_8_3 hk2) ?_
  refine s_iconst (pc := 110) (v := (1 : Int32)) dX4_lookAt_110 (by decide) ?_
  refine s_iadd (pc := 111) dX4_lookAt_111 ?_
  refine s_iastK (pc := 112) (k := 8) dX4_lookAt_112 kd_5 (by decide) (by decide) (by decide) (fun μ_10 => ?_)
  refine s_aload_n (pc := 113) 0 dX4_lookAt_113 rfl rfl ?_
  refine s_getR (pc := 114) (ci := 4) (k := 0) (r := 5) dX4_lookAt_114 fl_4_9 kd_4 rfl rs_4_0 ?_
  refine s_bipush (pc := 117) (v := (9 : Int32)) dX4_lookAt_117 (by decide) ?_
  refine s_aload_n (pc := 119) 2 dX4_lookAt_119 rfl rfl ?_
  refine s_getR (pc := 120) (ci := 8) (k := 5) (r := (o2 + 5)) dX4_lookAt_120 fl_4_103 hk2 rfl (gr_8_0_5 hk2) ?_
  refine s_iload_n (pc := 123) 3 dX4_lookAt_123 rfl rfl ?_
  refine s_iald (pc := 124) dX4_lookAt_124 (gk_8_5 hk2) ?_
  refine s_iconst (pc := 125) (v := (1 : Int32)) dX4_lookAt_125 (by decide) ?_
  refine s_iadd (pc := 126) dX4_lookAt_126 ?_
  refine s_iastK (pc := 127) (k := 9) dX4_lookAt_127 kd_5 (by decide) (by decide) (by decide) (fun μ_11 => ?_)
  exact s_vret (pc := 128) dX4_lookAt_128 rfl
def f_X4_push (N : Nat) (a1 : Int32) (μ : z_S) : Option (Unit × z_S) :=
  if (μ.1 4 3) < (64 : Int32) then (z_bd (μ.1 4 3) fun x1 => z_bd (z_setI μ 4 3 (x1 + (1 : Int32))) fun μ_1 => z_in x1 64 <| z_bd (z_setI μ_1 7 x1.toNatClampNeg a1) fun μ_2 => some ((), μ_2)) else some ((), μ)
theorem t_X4_push (N : Nat) (a1 : Int32) (μ : z_S) : z_met true rV mX4_push 0 [.ref 4, .int a1] μ (f_X4_push N a1 μ) := by
  refine z_met.of (by decide +kernel) (by show _ ≤ _; first | decide | exact Nat.le_of_ble_eq_true rfl) (lv := [(0, .ref 4), (1, .int a1)]) rfl ?_
  unfold f_X4_push
  refine s_aload_n (pc := 0) 0 dX4_push_0 rfl rfl ?_
  refine s_getI (pc := 1) (ci := 4) (k := 3) dX4_push_1 fl_4_106 kd_4 rfl ?_
  refine s_aload_n (pc := 4) 0 dX4_push_4 rfl rfl ?_
  refine s_getR (pc := 5) (ci := 4) (k := 2) (r := 7) dX4_push_5 fl_4_18 kd_4 rfl rs_4_2 ?_
  refine s_alen (pc := 8) (v := (64 : Int32)) dX4_push_8 kd_7 (by decide) (by decide) (by decide) ?_
  refine s_icmp_ge (pc := 9) (tgt := 29) dX4_push_9 (by decide) ?_ ?_
  · refine s_aload_n (pc := 12) 0 dX4_push_12 rfl rfl ?_
    refine s_getR (pc := 13) (ci := 4) (k := 2) (r := 7) dX4_push_13 fl_4_18 kd_4 rfl rs_4_2 ?_
    refine s_aload_n (pc := 16) 0 dX4_push_16 rfl rfl ?_
    refine s_dup (pc := 17) dX4_push_17 rfl ?_
    refine s_getI (pc := 18) (ci := 4) (k := 3) dX4_push_18 fl_4_106 kd_4 rfl ?_
    refine s_letI (fun x1 => ?_)
    refine s_dup_x1 (pc := 21) dX4_push_21 rfl rfl ?_
    refine s_iconst (pc := 22) (v := (1 : Int32)) dX4_push_22 (by decide) ?_
    refine s_iadd (pc := 23) dX4_push_23 ?_
    refine s_putI (pc := 24) (ci := 4) (k := 3) dX4_push_24 fl_4_106 kd_4 rfl rfl (fun μ_1 => ?_)
    refine s_iload_n (pc := 27) 1 dX4_push_27 rfl rfl ?_
    refine s_iast (pc := 28) dX4_push_28 kd_7 (fun μ_2 => ?_)
    exact s_vret (pc := 29) dX4_push_29 rfl
  · exact s_vret (pc := 29) dX4_push_29 rfl
def f_X4_pop (N : Nat) (μ : z_S) : Option (Int32 × z_S) :=
  if 0 < (μ.1 4 3) then (z_bd ((μ.1 4 3) - (1 : Int32)) fun x1 => z_bd (z_setI μ 4 3 x1) fun μ_1 => z_in x1 64 <| some ((μ_1.1 7 x1.toNatClampNeg), μ_1)) else some ((0 : Int32), μ)
theorem t_X4_pop (N : Nat) (μ : z_S) : z_met true rI mX4_pop 0 [.ref 4] μ (f_X4_pop N μ) := by
  refine z_met.of (by decide +kernel) (by show _ ≤ _; first | decide | exact Nat.le_of_ble_eq_true rfl) (lv := [(0, .ref 4)]) rfl ?_
  unfold f_X4_pop
  refine s_aload_n (pc := 0) 0 dX4_pop_0 rfl rfl ?_
  refine s_getI (pc := 1) (ci := 4) (k := 3) dX4_pop_1 fl_4_106 kd_4 rfl ?_
  refine s_if_le (pc := 4) (tgt := 26) dX4_pop_4 (by decide) ?_ ?_
  · refine s_aload_n (pc := 7) 0 dX4_pop_7 rfl rfl ?_
    refine s_getR (pc := 8) (ci := 4) (k := 2) (r := 7) dX4_pop_8 fl_4_18 kd_4 rfl rs_4_2 ?_
    refine s_aload_n (pc := 11) 0 dX4_pop_11 rfl rfl ?_
    refine s_dup (pc := 12) dX4_pop_12 rfl ?_
    refine s_getI (pc := 13) (ci := 4) (k := 3) dX4_pop_13 fl_4_106 kd_4 rfl ?_
    refine s_iconst (pc := 16) (v := (1 : Int32)) dX4_pop_16 (by decide) ?_
    refine s_isub (pc := 17) dX4_pop_17 ?_
    refine s_letI (fun x1 => ?_)
    refine s_dup_x1 (pc := 18) dX4_pop_18 rfl rfl ?_
    refine s_putI (pc := 19) (ci := 4) (k := 3) dX4_pop_19 fl_4_106 kd_4 rfl rfl (fun μ_1 => ?_)
    refine s_iald (pc := 22) dX4_pop_22 kd_7 ?_
    refine s_goto (pc := 23) (tgt := 27) dX4_pop_23 (by decide) ?_
    exact s_iret (pc := 27) rfl dX4_pop_27 rfl
  · refine s_iconst (pc := 26) (v := (0 : Int32)) dX4_pop_26 (by decide) ?_
    exact s_iret (pc := 27) rfl dX4_pop_27 rfl
def f_X4_kept (N : Nat) (a0 : Int64) (μ : z_S) : Option (Int32 × z_S) :=
  if (1000000 : Int64) < a0 then (some ((1000000 : Int32), μ)) else if a0 < (-1000000 : Int64) then (some ((-1000000 : Int32), μ)) else some (a0.toInt32, μ)
theorem t_X4_kept (N : Nat) (a0 : Int64) (μ : z_S) : z_met true rI mX4_kept 0 [.long a0] μ (f_X4_kept N a0 μ) := by
  refine z_met.of (by decide +kernel) (by show _ ≤ _; first | decide | exact Nat.le_of_ble_eq_true rfl) (lv := [(0, .long a0)]) rfl ?_
  unfold f_X4_kept
  refine s_lload_n (pc := 0) 0 dX4_kept_0 rfl rfl ?_
  refine s_ldc2 (pc := 1) (v := (1000000 : Int64)) dX4_kept_1 w_974 ?_
  refine s_lcmp_le (pc := 4) (tgt := 11) dX4_kept_4 dX4_kept_5 (by decide) ?_ ?_
  · refine s_ldc (pc := 8) (v := (1000000 : Int32)) dX4_kept_8 w_975 ?_
    exact s_iret (pc := 10) rfl dX4_kept_10 rfl
  · refine s_lload_n (pc := 11) 0 dX4_kept_11 rfl rfl ?_
    refine s_ldc2 (pc := 12) (v := (-1000000 : Int64)) dX4_kept_12 w_976 ?_
    refine s_lcmp_ge (pc := 15) (tgt := 24) dX4_kept_15 dX4_kept_16 (by decide) ?_ ?_
    · refine s_ldc (pc := 19) (v := (-1000000 : Int32)) dX4_kept_19 w_977 ?_
      refine s_goto (pc := 21) (tgt := 26) dX4_kept_21 (by decide) ?_
      exact s_iret (pc := 26) rfl dX4_kept_26 rfl
    · refine s_lload_n (pc := 24) 0 dX4_kept_24 rfl rfl ?_
      refine s_l2i (pc := 25) dX4_kept_25 ?_
      exact s_iret (pc := 26) rfl dX4_kept_26 rfl
def f_X4_pair (N : Nat) (a0 : Int32) (a1 : Int32) (a2 : Int32) (μ : z_S) : Option (Int32 × z_S) :=
  z_bd a0 fun x1 => if x1 = -20 then (some ((a1 &&& a2), μ)) else if x1 = -19 then (if a1 = a2 then (some ((1 : Int32), μ)) else some ((0 : Int32), μ)) else if x1 = -18 then (if a2 < a1 then (some ((1 : Int32), μ)) else some ((0 : Int32), μ)) else if x1 = -17 then (if a1 < a2 then (some ((1 : Int32), μ)) else some ((0 : Int32), μ)) else if x1 = -16 then (if a2 < a1 then (some (a1, μ)) else some (a2, μ)) else if x1 = -15 then (if a1 < a2 then (some (a1, μ)) else some (a2, μ)) else if x1 = -14 then (if a2 = 0 then (some ((0 : Int32), μ)) else z_bn (f_J9_floorDiv_7cf53 N a1 a2 μ) fun x2 μ_1 => some (x2, μ_1)) else if x1 = -13 then (z_bn (f_X4_kept N (a1.toInt64 * a2.toInt64) μ) fun x3 μ_2 => some (x3, μ_2)) else if x1 = -12 then (z_bn (f_X4_kept N (a1.toInt64 - a2.toInt64) μ) fun x4 μ_3 => some (x4, μ_3)) else if x1 = -11 then (z_bn (f_X4_kept N (a1.toInt64 + a2.toInt64) μ) fun x5 μ_4 => some (x5, μ_4)) else some ((a1 ||| a2), μ)
theorem t_X4_pair (N : Nat) (a0 : Int32) (a1 : Int32) (a2 : Int32) (μ : z_S) : z_met true rI mX4_pair 1 [.int a0, .int a1, .int a2] μ (f_X4_pair N a0 a1 a2 μ) := by
  refine z_met.of (by decide +kernel) (by show _ ≤ _; first | decide | exact Nat.le_of_ble_eq_true rfl) (lv := [(0, .int a0), (1, .int a1), (2, .int a2)]) rfl ?_
  unfold f_X4_pair
  refine s_iload_n (pc := 0) 0 dX4_pair_0 rfl rfl ?_
  refine s_letI (fun x1 => ?_)
  refine s_ite (fun hs1 => ?_) (fun hs1 => ?_)
  · subst hs1
    refine s_tswIn (pc := 1) (tgt := 152) dX4_pair_1 (by decide) (by decide) rfl (by decide) ?_
    refine s_iload_n (pc := 152) 1 dX4_pair_152 rfl rfl ?_
    refine s_iload_n (pc := 153) 2 dX4_pair_153 rfl rfl ?_
    refine s_iand (pc := 154) dX4_pair_154 ?_
    exact s_iret (pc := 155) rfl dX4_pair_155 rfl
  refine s_ite (fun hs2 => ?_) (fun hs2 => ?_)
  · subst hs2
    refine s_tswIn (pc := 1) (tgt := 141) dX4_pair_1 (by decide) (by decide) rfl (by decide) ?_
    refine s_iload_n (pc := 141) 1 dX4_pair_141 rfl rfl ?_
    refine s_iload_n (pc := 142) 2 dX4_pair_142 rfl rfl ?_
    refine s_icmp_ne (pc := 143) (tgt := 150) dX4_pair_143 (by decide) ?_ ?_
    · refine s_iconst (pc := 146) (v := (1 : Int32)) dX4_pair_146 (by decide) ?_
      refine s_goto (pc := 147) (tgt := 151) dX4_pair_147 (by decide) ?_
      exact s_iret (pc := 151) rfl dX4_pair_151 rfl
    · refine s_iconst (pc := 150) (v := (0 : Int32)) dX4_pair_150 (by decide) ?_
      exact s_iret (pc := 151) rfl dX4_pair_151 rfl
  refine s_ite (fun hs3 => ?_) (fun hs3 => ?_)
  · subst hs3
    refine s_tswIn (pc := 1) (tgt := 130) dX4_pair_1 (by decide) (by decide) rfl (by decide) ?_
    refine s_iload_n (pc := 130) 1 dX4_pair_130 rfl rfl ?_
    refine s_iload_n (pc := 131) 2 dX4_pair_131 rfl rfl ?_
    refine s_icmp_le (pc := 132) (tgt := 139) dX4_pair_132 (by decide) ?_ ?_
    · refine s_iconst (pc := 135) (v := (1 : Int32)) dX4_pair_135 (by decide) ?_
      refine s_goto (pc := 136) (tgt := 140) dX4_pair_136 (by decide) ?_
      exact s_iret (pc := 140) rfl dX4_pair_140 rfl
    · refine s_iconst (pc := 139) (v := (0 : Int32)) dX4_pair_139 (by decide) ?_
      exact s_iret (pc := 140) rfl dX4_pair_140 rfl
  refine s_ite (fun hs4 => ?_) (fun hs4 => ?_)
  · subst hs4
    refine s_tswIn (pc := 1) (tgt := 119) dX4_pair_1 (by decide) (by decide) rfl (by decide) ?_
    refine s_iload_n (pc := 119) 1 dX4_pair_119 rfl rfl ?_
    refine s_iload_n (pc := 120) 2 dX4_pair_120 rfl rfl ?_
    refine s_icmp_ge (pc := 121) (tgt := 128) dX4_pair_121 (by decide) ?_ ?_
    · refine s_iconst (pc := 124) (v := (1 : Int32)) dX4_pair_124 (by decide) ?_
      refine s_goto (pc := 125) (tgt := 129) dX4_pair_125 (by decide) ?_
      exact s_iret (pc := 129) rfl dX4_pair_129 rfl
    · refine s_iconst (pc := 128) (v := (0 : Int32)) dX4_pair_128 (by decide) ?_
      exact s_iret (pc := 129) rfl dX4_pair_129 rfl
  refine s_ite (fun hs5 => ?_) (fun hs5 => ?_)
  · subst hs5
    refine s_tswIn (pc := 1) (tgt := 108) dX4_pair_1 (by decide) (by decide) rfl (by decide) ?_
    refine s_iload_n (pc := 108) 1 dX4_pair_108 rfl rfl ?_
    refine s_iload_n (pc := 109) 2 dX4_pair_109 rfl rfl ?_
    refine s_icmp_le (pc := 110) (tgt := 117) dX4_pair_110 (by decide) ?_ ?_
    · refine s_iload_n (pc := 113) 1 dX4_pair_113 rfl rfl ?_
      refine s_goto (pc := 114) (tgt := 118) dX4_pair_114 (by decide) ?_
      exact s_iret (pc := 118) rfl dX4_pair_118 rfl
    · refine s_iload_n (pc := 117) 2 dX4_pair_117 rfl rfl ?_
      exact s_iret (pc := 118) rfl dX4_pair_118 rfl
  refine s_ite (fun hs6 => ?_) (fun hs6 => ?_)
  · subst hs6
    refine s_tswIn (pc := 1) (tgt := 97) dX4_pair_1 (by decide) (by decide) rfl (by decide) ?_
    refine s_iload_n (pc := 97) 1 dX4_pair_97 rfl rfl ?_
    refine s_iload_n (pc := 98) 2 dX4_pair_98 rfl rfl ?_
    refine s_icmp_ge (pc := 99) (tgt := 106) dX4_pair_99 (by decide) ?_ ?_
    · refine s_iload_n (pc := 102) 1 dX4_pair_102 rfl rfl ?_
      refine s_goto (pc := 103) (tgt := 107) dX4_pair_103 (by decide) ?_
      exact s_iret (pc := 107) rfl dX4_pair_107 rfl
    · refine s_iload_n (pc := 106) 2 dX4_pair_106 rfl rfl ?_
      exact s_iret (pc := 107) rfl dX4_pair_107 rfl
  refine s_ite (fun hs7 => ?_) (fun hs7 => ?_)
  · subst hs7
    refine s_tswIn (pc := 1) (tgt := 83) dX4_pair_1 (by decide) (by decide) rfl (by decide) ?_
    refine s_iload_n (pc := 83) 2 dX4_pair_83 rfl rfl ?_
    refine s_if_ne (pc := 84) (tgt := 91) dX4_pair_84 (by decide) ?_ ?_
    · refine s_iconst (pc := 87) (v := (0 : Int32)) dX4_pair_87 (by decide) ?_
      refine s_goto (pc := 88) (tgt := 96) dX4_pair_88 (by decide) ?_
      exact s_iret (pc := 96) rfl dX4_pair_96 rfl
    · refine s_iload_n (pc := 91) 1 dX4_pair_91 rfl rfl ?_
      refine s_iload_n (pc := 92) 2 dX4_pair_92 rfl rfl ?_
      refine s_callSI (pc := 93) (as := [.int a1, .int a2]) (st := []) dX4_pair_93 lk_4_131 (t_J9_floorDiv_7cf53 N a1 a2 μ) (by omega) rfl (by decide) rfl (fun x2 μ_1 => ?_)
      exact s_iret (pc := 96) rfl dX4_pair_96 rfl
  refine s_ite (fun hs8 => ?_) (fun hs8 => ?_)
  · subst hs8
    refine s_tswIn (pc := 1) (tgt := 74) dX4_pair_1 (by decide) (by decide) rfl (by decide) ?_
    refine s_iload_n (pc := 74) 1 dX4_pair_74 rfl rfl ?_
    refine s_i2l (pc := 75) dX4_pair_75 ?_
    refine s_iload_n (pc := 76) 2 dX4_pair_76 rfl rfl ?_
    refine s_i2l (pc := 77) dX4_pair_77 ?_
    refine s_lmul (pc := 78) dX4_pair_78 ?_
    refine s_callSI (pc := 79) (as := [.long (a1.toInt64 * a2.toInt64)]) (st := []) dX4_pair_79 lk_4_127 (t_X4_kept N (a1.toInt64 * a2.toInt64) μ) (by omega) rfl (by decide) rfl (fun x3 μ_2 => ?_)
    exact s_iret (pc := 82) rfl dX4_pair_82 rfl
  refine s_ite (fun hs9 => ?_) (fun hs9 => ?_)
  · subst hs9
    refine s_tswIn (pc := 1) (tgt := 65) dX4_pair_1 (by decide) (by decide) rfl (by decide) ?_
    refine s_iload_n (pc := 65) 1 dX4_pair_65 rfl rfl ?_
    refine s_i2l (pc := 66) dX4_pair_66 ?_
    refine s_iload_n (pc := 67) 2 dX4_pair_67 rfl rfl ?_
    refine s_i2l (pc := 68) dX4_pair_68 ?_
    refine s_lsub (pc := 69) dX4_pair_69 ?_
    refine s_callSI (pc := 70) (as := [.long (a1.toInt64 - a2.toInt64)]) (st := []) dX4_pair_70 lk_4_127 (t_X4_kept N (a1.toInt64 - a2.toInt64) μ) (by omega) rfl (by decide) rfl (fun x4 μ_3 => ?_)
    exact s_iret (pc := 73) rfl dX4_pair_73 rfl
  refine s_ite (fun hs10 => ?_) (fun hs10 => ?_)
  · subst hs10
    refine s_tswIn (pc := 1) (tgt := 56) dX4_pair_1 (by decide) (by decide) rfl (by decide) ?_
    refine s_iload_n (pc := 56) 1 dX4_pair_56 rfl rfl ?_
    refine s_i2l (pc := 57) dX4_pair_57 ?_
    refine s_iload_n (pc := 58) 2 dX4_pair_58 rfl rfl ?_
    refine s_i2l (pc := 59) dX4_pair_59 ?_
    refine s_ladd (pc := 60) dX4_pair_60 ?_
    refine s_callSI (pc := 61) (as := [.long (a1.toInt64 + a2.toInt64)]) (st := []) dX4_pair_61 lk_4_127 (t_X4_kept N (a1.toInt64 + a2.toInt64) μ) (by omega) rfl (by decide) rfl (fun x5 μ_4 => ?_)
    exact s_iret (pc := 64) rfl dX4_pair_64 rfl
  · have q_hs1 := lv_neT (a := -20) hs1 (by decide)
    have q_hs2 := lv_neT (a := -19) hs2 (by decide)
    have q_hs3 := lv_neT (a := -18) hs3 (by decide)
    have q_hs4 := lv_neT (a := -17) hs4 (by decide)
    have q_hs5 := lv_neT (a := -16) hs5 (by decide)
    have q_hs6 := lv_neT (a := -15) hs6 (by decide)
    have q_hs7 := lv_neT (a := -14) hs7 (by decide)
    have q_hs8 := lv_neT (a := -13) hs8 (by decide)
    have q_hs9 := lv_neT (a := -12) hs9 (by decide)
    have q_hs10 := lv_neT (a := -11) hs10 (by decide)
    refine s_tswOut (pc := 1) (tgt := 156) dX4_pair_1 (by omega) (by decide) ?_
    refine s_iload_n (pc := 156) 1 dX4_pair_156 rfl rfl ?_
    refine s_iload_n (pc := 157) 2 dX4_pair_157 rfl rfl ?_
    refine s_ior (pc := 158) dX4_pair_158 ?_
    exact s_iret (pc := 159) rfl dX4_pair_159 rfl
def f_X4_wishOf (N : Nat) (a1 : Int32) (μ : z_S) : Option (Int32 × z_S) :=
  if a1 < 0 then (some ((0 : Int32), μ)) else if a1 < (4 : Int32) then (z_in a1 4 <| some ((μ.1 6 a1.toNatClampNeg), μ)) else some ((0 : Int32), μ)
theorem t_X4_wishOf (N : Nat) (a1 : Int32) (μ : z_S) : z_met true rI mX4_wishOf 0 [.ref 4, .int a1] μ (f_X4_wishOf N a1 μ) := by
  refine z_met.of (by decide +kernel) (by show _ ≤ _; first | decide | exact Nat.le_of_ble_eq_true rfl) (lv := [(0, .ref 4), (1, .int a1)]) rfl ?_
  unfold f_X4_wishOf
  refine s_iload_n (pc := 0) 1 dX4_wishOf_0 rfl rfl ?_
  refine s_if_lt (pc := 1) (tgt := 22) dX4_wishOf_1 (by decide) ?_ ?_
  · refine s_iconst (pc := 22) (v := (0 : Int32)) dX4_wishOf_22 (by decide) ?_
    exact s_iret (pc := 23) rfl dX4_wishOf_23 rfl
  · refine s_iload_n (pc := 4) 1 dX4_wishOf_4 rfl rfl ?_
    refine s_aload_n (pc := 5) 0 dX4_wishOf_5 rfl rfl ?_
    refine s_getR (pc := 6) (ci := 4) (k := 1) (r := 6) dX4_wishOf_6 fl_4_15 kd_4 rfl rs_4_1 ?_
    refine s_alen (pc := 9) (v := (4 : Int32)) dX4_wishOf_9 kd_6 (by decide) (by decide) (by decide) ?_
    refine s_icmp_ge (pc := 10) (tgt := 22) dX4_wishOf_10 (by decide) ?_ ?_
    · refine s_aload_n (pc := 13) 0 dX4_wishOf_13 rfl rfl ?_
      refine s_getR (pc := 14) (ci := 4) (k := 1) (r := 6) dX4_wishOf_14 fl_4_15 kd_4 rfl rs_4_1 ?_
      refine s_iload_n (pc := 17) 1 dX4_wishOf_17 rfl rfl ?_
      refine s_iald (pc := 18) dX4_wishOf_18 kd_6 ?_
      refine s_goto (pc := 19) (tgt := 23) dX4_wishOf_19 (by decide) ?_
      exact s_iret (pc := 23) rfl dX4_wishOf_23 rfl
    · refine s_iconst (pc := 22) (v := (0 : Int32)) dX4_wishOf_22 (by decide) ?_
      exact s_iret (pc := 23) rfl dX4_wishOf_23 rfl
def f_X4_run_B119 (N : Nat) (o1 : Nat) (c3 : Int32) (kb : Int32 → z_S → Option (Int32 × z_S)) (e125 : z_S → Option (Int32 × z_S)) (v4 : Int32) (μ : z_S) : Option (Int32 × z_S) :=
  z_bd (v4 + 1) fun x5 => kb x5 μ
theorem t_X4_run_B119 (N : Nat) (o1 : Nat) (c3 : Int32) (hk1 : z_kw true o1 = (0, 0)) (kb : Int32 → z_S → Option (Int32 × z_S)) (e125 : z_S → Option (Int32 × z_S)) (hkb : ∀ (a4 : Int32) (μ : z_S), z_sim true rI mX4_run 2 (kb a4 μ) 8 [(0, .ref 4), (1, .ref o1), (3, .int c3), (4, .int a4)] [] μ) (he125 : ∀  (μ : z_S), z_sim true rI mX4_run 2 (e125 μ) 125 [(0, .ref 4)] [] μ) (v4 : Int32)  (μ : z_S) : z_sim true rI mX4_run 2 (f_X4_run_B119 N o1 c3 kb e125 v4 μ) 119 [(0, .ref 4), (1, .ref o1), (3, .int c3), (4, .int v4)] [] μ := by
  unfold f_X4_run_B119
  refine s_iincB (pc := 119) (lv' := fun x5 => [(4, .int x5), (0, .ref 4), (1, .ref o1), (3, .int c3)]) (c := 1) 3 dX4_run_119 rfl (by decide) (by decide) (fun _ => rfl) (fun x5 => ?_)
  refine s_goto (pc := 122) (tgt := 8) dX4_run_122 (by decide) ?_
  refine s_sub (lv' := [(0, .ref 4), (1, .ref o1), (3, .int c3), (4, .int x5)]) [1, 2, 3, 0] rfl ?_
  exact hkb x5 μ
def f_X4_run_B116 (N : Nat) (o1 : Nat) (c3 : Int32) (kb : Int32 → z_S → Option (Int32 × z_S)) (e125 : z_S → Option (Int32 × z_S)) (v4 : Int32) (s0 : Int32) (μ : z_S) : Option (Int32 × z_S) :=
  z_bn (f_X4_push N s0 μ) fun _ μ_7 => f_X4_run_B119 N o1 c3 kb e125 v4 μ_7
theorem t_X4_run_B116 (N : Nat) (o1 : Nat) (c3 : Int32) (hk1 : z_kw true o1 = (0, 0)) (kb : Int32 → z_S → Option (Int32 × z_S)) (e125 : z_S → Option (Int32 × z_S)) (hkb : ∀ (a4 : Int32) (μ : z_S), z_sim true rI mX4_run 2 (kb a4 μ) 8 [(0, .ref 4), (1, .ref o1), (3, .int c3), (4, .int a4)] [] μ) (he125 : ∀  (μ : z_S), z_sim true rI mX4_run 2 (e125 μ) 125 [(0, .ref 4)] [] μ) (v4 : Int32) (s0 : Int32)  (μ : z_S) : z_sim true rI mX4_run 2 (f_X4_run_B116 N o1 c3 kb e125 v4 s0 μ) 116 [(0, .ref 4), (1, .ref o1), (3, .int c3), (4, .int v4)] [.int s0, .ref 4] μ := by
  unfold f_X4_run_B116
  refine s_callVV (pc := 116) (as := [.int s0]) (st := []) dX4_run_116 lk_4_112 kd_4 (t_X4_push N s0 μ) (by omega) rfl (by decide) rfl (fun _ μ_7 => ?_)
  exact t_X4_run_B119 N o1 c3 hk1 kb e125 hkb he125 v4 μ_7
def b_X4_run_L8 (N : Nat) (o1 : Nat) (c3 : Int32) (kb : Int32 → z_S → Option (Int32 × z_S)) (e125 : z_S → Option (Int32 × z_S)) (v4 : Int32) (μ : z_S) : Option (Int32 × z_S) :=
  if v4 < c3 then (z_in v4 1600 <| z_bd (μ.1 (o1 + 1) v4.toNatClampNeg) fun x1 => if x1 < 0 then (if x1 < (-10 : Int32) then (if (-22 : Int32) < x1 then (z_bn (f_X4_pop N μ) fun x2 μ_2 => z_bn (f_X4_pop N μ_2) fun x3 μ_3 => z_bn (f_X4_pair N x1 x3 x2 μ_3) fun x4 μ_4 => z_bn (f_X4_push N x4 μ_4) fun _ μ_5 => f_X4_run_B119 N o1 c3 kb e125 v4 μ_5) else if x1 = (-22 : Int32) then (z_bn (f_X4_pop N μ) fun x6 μ_6 => f_X4_run_B116 N o1 c3 kb e125 v4 ((1 : Int32) - x6) μ_6) else z_bn (f_X4_pop N μ) fun x7 μ_8 => z_bn (f_X4_wishOf N x7 μ_8) fun x8 μ_9 => f_X4_run_B116 N o1 c3 kb e125 v4 x8 μ_9) else z_in ((-1 : Int32) - x1) 10 <| z_bn (f_X4_push N (μ.1 5 ((-1 : Int32) - x1).toNatClampNeg) μ) fun _ μ_10 => f_X4_run_B119 N o1 c3 kb e125 v4 μ_10) else z_bn (f_X4_push N x1 μ) fun _ μ_11 => f_X4_run_B119 N o1 c3 kb e125 v4 μ_11) else e125 μ
theorem tb_X4_run_L8 (N : Nat) (o1 : Nat) (c3 : Int32) (hk1 : z_kw true o1 = (0, 0)) (kb : Int32 → z_S → Option (Int32 × z_S)) (e125 : z_S → Option (Int32 × z_S)) (hkb : ∀ (a4 : Int32) (μ : z_S), z_sim true rI mX4_run 2 (kb a4 μ) 8 [(0, .ref 4), (1, .ref o1), (3, .int c3), (4, .int a4)] [] μ) (he125 : ∀ (μ : z_S), z_sim true rI mX4_run 2 (e125 μ) 125 [(0, .ref 4)] [] μ) (v4 : Int32) (μ : z_S) : z_sim true rI mX4_run 2 (b_X4_run_L8 N o1 c3 kb e125 v4 μ) 8 [(0, .ref 4), (1, .ref o1), (3, .int c3), (4, .int v4)] [] μ := by
  unfold b_X4_run_L8
  refine s_iload (pc := 8) 3 dX4_run_8 rfl ?_
  refine s_iload_n (pc := 10) 2 dX4_run_10 rfl rfl ?_
  refine s_icmp_ge (pc := 11) (tgt := 125) dX4_run_11 (by decide) ?_ ?_
  · refine s_aload_n (pc := 14) 1 dX4_run_14 rfl rfl ?_
    refine s_getR (pc := 15) (ci := 0) (k := 0) (r := (o1 + 1)) dX4_run_15 fl_4_109 hk1 rfl (gr_0_0_0 hk1) ?_
    refine s_iload (pc := 18) 3 dX4_run_18 rfl ?_
    refine s_iald (pc := 20) dX4_run_20 (gk_0_1 hk1) ?_
    refine s_letI (fun x1 => ?_)
    refine s_istore (pc := 21) (lv' := [(5, .int x1), (0, .ref 4), (1, .ref o1), (3, .int c3), (4, .int v4)]) dX4_run_21 (by decide) rfl ?_
    refine s_iload (pc := 23) 0 dX4_run_23 rfl ?_
    refine s_if_lt (pc := 25) (tgt := 37) dX4_run_25 (by decide) ?_ ?_
    · refine s_iload (pc := 37) 0 dX4_run_37 rfl ?_
      refine s_bipush (pc := 39) (v := (-10 : Int32)) dX4_run_39 (by decide) ?_
      refine s_icmp_lt (pc := 41) (tgt := 60) dX4_run_41 (by decide) ?_ ?_
      · refine s_iload (pc := 60) 0 dX4_run_60 rfl ?_
        refine s_bipush (pc := 62) (v := (-22 : Int32)) dX4_run_62 (by decide) ?_
        refine s_icmp_le (pc := 64) (tgt := 91) dX4_run_64 (by decide) ?_ ?_
        · refine s_aload_n (pc := 67) 1 dX4_run_67 rfl rfl ?_
          refine s_callVI (pc := 68) (as := []) (st := []) dX4_run_68 lk_4_116 kd_4 (t_X4_pop N μ) (by omega) rfl (by decide) rfl (fun x2 μ_2 => ?_)
          refine s_istore (pc := 71) (lv' := [(6, .int x2), (5, .int x1), (0, .ref 4), (1, .ref o1), (3, .int c3), (4, .int v4)]) dX4_run_71 (by decide) rfl ?_
          refine s_aload_n (pc := 73) 2 dX4_run_73 rfl rfl ?_
          refine s_iload (pc := 74) 1 dX4_run_74 rfl ?_
          refine s_aload_n (pc := 76) 2 dX4_run_76 rfl rfl ?_
          refine s_callVI (pc := 77) (as := []) (st := [.int x1, .ref 4]) dX4_run_77 lk_4_116 kd_4 (t_X4_pop N μ_2) (by omega) rfl (Nat.le_of_ble_eq_true rfl) rfl (fun x3 μ_3 => ?_)
          refine s_iload (pc := 80) 0 dX4_run_80 rfl ?_
          refine s_callSI (pc := 82) (as := [.int x1, .int x3, .int x2]) (st := [.ref 4]) dX4_run_82 lk_4_120 (t_X4_pair N x1 x3 x2 μ_3) (by omega) rfl (Nat.le_of_ble_eq_true rfl) rfl (fun x4 μ_4 => ?_)
          refine s_callVV (pc := 85) (as := [.int x4]) (st := []) dX4_run_85 lk_4_112 kd_4 (t_X4_push N x4 μ_4) (by omega) rfl (by decide) rfl (fun _ μ_5 => ?_)
          refine s_goto (pc := 88) (tgt := 119) dX4_run_88 (by decide) ?_
          refine s_sub (lv' := [(0, .ref 4), (1, .ref o1), (3, .int c3), (4, .int v4)]) [2, 3, 4, 5] rfl ?_
          exact t_X4_run_B119 N o1 c3 hk1 kb e125 hkb he125 v4 μ_5
        · refine s_aload_n (pc := 91) 1 dX4_run_91 rfl rfl ?_
          refine s_iload (pc := 92) 0 dX4_run_92 rfl ?_
          refine s_bipush (pc := 94) (v := (-22 : Int32)) dX4_run_94 (by decide) ?_
          refine s_icmp_ne (pc := 96) (tgt := 108) dX4_run_96 (by decide) ?_ ?_
          · refine s_iconst (pc := 99) (v := (1 : Int32)) dX4_run_99 (by decide) ?_
            refine s_aload_n (pc := 100) 1 dX4_run_100 rfl rfl ?_
            refine s_callVI (pc := 101) (as := []) (st := [.int (1 : Int32), .ref 4]) dX4_run_101 lk_4_116 kd_4 (t_X4_pop N μ) (by omega) rfl (Nat.le_of_ble_eq_true rfl) rfl (fun x6 μ_6 => ?_)
            refine s_isub (pc := 104) dX4_run_104 ?_
            refine s_goto (pc := 105) (tgt := 116) dX4_run_105 (by decide) ?_
            refine s_sub (lv' := [(0, .ref 4), (1, .ref o1), (3, .int c3), (4, .int v4)]) [1, 2, 3, 4] rfl ?_
            exact t_X4_run_B116 N o1 c3 hk1 kb e125 hkb he125 v4 ((1 : Int32) - x6) μ_6
          · refine s_aload_n (pc := 108) 1 dX4_run_108 rfl rfl ?_
            refine s_aload_n (pc := 109) 1 dX4_run_109 rfl rfl ?_
            refine s_callVI (pc := 110) (as := []) (st := [.ref 4, .ref 4]) dX4_run_110 lk_4_116 kd_4 (t_X4_pop N μ) (by omega) rfl (Nat.le_of_ble_eq_true rfl) rfl (fun x7 μ_8 => ?_)
            refine s_callVI (pc := 113) (as := [.int x7]) (st := [.ref 4]) dX4_run_113 lk_4_124 kd_4 (t_X4_wishOf N x7 μ_8) (by omega) rfl (Nat.le_of_ble_eq_true rfl) rfl (fun x8 μ_9 => ?_)
            refine s_sub (lv' := [(0, .ref 4), (1, .ref o1), (3, .int c3), (4, .int v4)]) [1, 2, 3, 4] rfl ?_
            exact t_X4_run_B116 N o1 c3 hk1 kb e125 hkb he125 v4 x8 μ_9
      · refine s_aload_n (pc := 44) 1 dX4_run_44 rfl rfl ?_
        refine s_aload_n (pc := 45) 1 dX4_run_45 rfl rfl ?_
        refine s_getR (pc := 46) (ci := 4) (k := 0) (r := 5) dX4_run_46 fl_4_9 kd_4 rfl rs_4_0 ?_
        refine s_iconst (pc := 49) (v := (-1 : Int32)) dX4_run_49 (by decide) ?_
        refine s_iload (pc := 50) 0 dX4_run_50 rfl ?_
        refine s_isub (pc := 52) dX4_run_52 ?_
        refine s_iald (pc := 53) dX4_run_53 kd_5 ?_
        refine s_callVV (pc := 54) (as := [.int (μ.1 5 ((-1 : Int32) - x1).toNatClampNeg)]) (st := []) dX4_run_54 lk_4_112 kd_4 (t_X4_push N (μ.1 5 ((-1 : Int32) - x1).toNatClampNeg) μ) (by omega) rfl (by decide) rfl (fun _ μ_10 => ?_)
        refine s_goto (pc := 57) (tgt := 119) dX4_run_57 (by decide) ?_
        refine s_sub (lv' := [(0, .ref 4), (1, .ref o1), (3, .int c3), (4, .int v4)]) [1, 2, 3, 4] rfl ?_
        exact t_X4_run_B119 N o1 c3 hk1 kb e125 hkb he125 v4 μ_10
    · refine s_aload_n (pc := 28) 1 dX4_run_28 rfl rfl ?_
      refine s_iload (pc := 29) 0 dX4_run_29 rfl ?_
      refine s_callVV (pc := 31) (as := [.int x1]) (st := []) dX4_run_31 lk_4_112 kd_4 (t_X4_push N x1 μ) (by omega) rfl (by decide) rfl (fun _ μ_11 => ?_)
      refine s_goto (pc := 34) (tgt := 119) dX4_run_34 (by decide) ?_
      refine s_sub (lv' := [(0, .ref 4), (1, .ref o1), (3, .int c3), (4, .int v4)]) [1, 2, 3, 4] rfl ?_
      exact t_X4_run_B119 N o1 c3 hk1 kb e125 hkb he125 v4 μ_11
  · refine s_sub (lv' := [(0, .ref 4)]) [0] rfl ?_
    exact he125 μ
def f_X4_run_L8 (N : Nat) (o1 : Nat) (c3 : Int32) (e125 : z_S → Option (Int32 × z_S)) : Nat → Int32 → z_S → Option (Int32 × z_S)
  | 0, _, _ => none
  | n + 1, v4, μ => b_X4_run_L8 N o1 c3 (f_X4_run_L8 N o1 c3 e125 n) e125 v4 μ
theorem t_X4_run_L8 (N : Nat) (o1 : Nat) (c3 : Int32) (hk1 : z_kw true o1 = (0, 0)) (e125 : z_S → Option (Int32 × z_S)) (he125 : ∀ (μ : z_S), z_sim true rI mX4_run 2 (e125 μ) 125 [(0, .ref 4)] [] μ) : ∀ (n : Nat) (v4 : Int32) (μ : z_S), z_sim true rI mX4_run 2 (f_X4_run_L8 N o1 c3 e125 n v4 μ) 8 [(0, .ref 4), (1, .ref o1), (3, .int c3), (4, .int v4)] [] μ
  | 0, _, _ => s_none
  | n + 1, v4, μ => tb_X4_run_L8 N o1 c3 hk1 (f_X4_run_L8 N o1 c3 e125 n) e125 (t_X4_run_L8 N o1 c3 hk1 e125 he125 n) he125 v4 μ
def f_X4_run (N : Nat) (o1 : Nat) (a2 : Int32) (a3 : Int32) (μ : z_S) : Option (Int32 × z_S) :=
  z_ko true o1 0 <| z_bd (z_setI μ 4 3 (0 : Int32)) fun μ_1 => f_X4_run_L8 N o1 a3 (fun μ125 => z_bn (f_X4_pop N μ125) fun x9 μ_12 => some (x9, μ_12)) N a2 μ_1
theorem t_X4_run (N : Nat) (o1 : Nat) (a2 : Int32) (a3 : Int32) (μ : z_S) : z_met true rI mX4_run 2 [.ref 4, .ref o1, .int a2, .int a3] μ (f_X4_run N o1 a2 a3 μ) := by
  refine z_met.of (by decide +kernel) (by show _ ≤ _; first | decide | exact Nat.le_of_ble_eq_true rfl) (lv := [(0, .ref 4), (1, .ref o1), (2, .int a2), (3, .int a3)]) rfl ?_
  unfold f_X4_run
  refine s_ko (fun hk1 => ?_)
  refine s_aload_n (pc := 0) 0 dX4_run_0 rfl rfl ?_
  refine s_iconst (pc := 1) (v := (0 : Int32)) dX4_run_1 (by decide) ?_
  refine s_putI (pc := 2) (ci := 4) (k := 3) dX4_run_2 fl_4_106 kd_4 rfl rfl (fun μ_1 => ?_)
  refine s_iload_n (pc := 5) 2 dX4_run_5 rfl rfl ?_
  refine s_istore (pc := 6) (lv' := [(4, .int a2), (0, .ref 4), (1, .ref o1), (2, .int a2), (3, .int a3)]) dX4_run_6 (by decide) rfl ?_
  refine s_sub (lv' := [(0, .ref 4), (1, .ref o1), (3, .int a3), (4, .int a2)]) [1, 2, 4, 0] rfl ?_
  refine t_X4_run_L8 N o1 a3 hk1 _ ?_ N a2 μ_1
  · intro μ125
    refine s_aload_n (pc := 125) 0 dX4_run_125 rfl rfl ?_
    refine s_callVI (pc := 126) (as := []) (st := []) dX4_run_126 lk_4_116 kd_4 (t_X4_pop N μ125) (by omega) rfl (by decide) rfl (fun x9 μ_12 => ?_)
    exact s_iret (pc := 129) rfl dX4_run_129 rfl
def f_X4_timeOf (N : Nat) (o1 : Nat) (o2 : Nat) (a3 : Int32) (a4 : Int32) (μ : z_S) : Option (Int32 × z_S) :=
  z_ko true o1 2 <| z_ko true o2 8 <| z_bn (f_X4_lookAt N o1 o2 a3 μ) fun _ μ_1 => z_in a4 3 <| z_bd (z_setI μ_1 5 3 (μ_1.1 (o1 + 30) a4.toNatClampNeg)) fun μ_2 => z_bn (f_X4_run N (o1 + 32) (μ_2.1 (o1 + 34) 0) (μ_2.1 (o1 + 35) 0) μ_2) fun x1 μ_3 => z_bn (f_J9_min_7cf53 N (999 : Int32) x1 μ_3) fun x2 μ_4 => z_bn (f_J9_max_7cf53 N (1 : Int32) x2 μ_4) fun x3 μ_5 => some (x3, μ_5)
theorem t_X4_timeOf (N : Nat) (o1 : Nat) (o2 : Nat) (a3 : Int32) (a4 : Int32) (μ : z_S) : z_met true rI mX4_timeOf 3 [.ref 4, .ref o1, .ref o2, .int a3, .int a4] μ (f_X4_timeOf N o1 o2 a3 a4 μ) := by
  refine z_met.of (by decide +kernel) (by show _ ≤ _; first | decide | exact Nat.le_of_ble_eq_true rfl) (lv := [(0, .ref 4), (1, .ref o1), (2, .ref o2), (3, .int a3), (4, .int a4)]) rfl ?_
  unfold f_X4_timeOf
  refine s_ko (fun hk1 => ?_)
  refine s_ko (fun hk2 => ?_)
  refine s_aload_n (pc := 0) 0 dX4_timeOf_0 rfl rfl ?_
  refine s_aload_n (pc := 1) 1 dX4_timeOf_1 rfl rfl ?_
  refine s_aload_n (pc := 2) 2 dX4_timeOf_2 rfl rfl ?_
  refine s_iload_n (pc := 3) 3 dX4_timeOf_3 rfl rfl ?_
  refine s_callVV (pc := 4) (as := [.ref o1, .ref o2, .int a3]) (st := []) dX4_timeOf_4 lk_4_21 kd_4 (t_X4_lookAt N o1 o2 a3 μ) (by omega) rfl (by decide) rfl (fun _ μ_1 => ?_)
  refine s_aload_n (pc := 7) 0 dX4_timeOf_7 rfl rfl ?_
  refine s_getR (pc := 8) (ci := 4) (k := 0) (r := 5) dX4_timeOf_8 fl_4_9 kd_4 rfl rs_4_0 ?_
  refine s_iconst (pc := 11) (v := (3 : Int32)) dX4_timeOf_11 (by decide) ?_
  refine s_aload_n (pc := 12) 1 dX4_timeOf_12 rfl rfl ?_
  refine s_getR (pc := 13) (ci := 2) (k := 10) (r := (o1 + 30)) dX4_timeOf_13 fl_4_25 hk1 rfl (gr_2_0_10 hk1) ?_
  refine s_iload (pc := 16) 4 dX4_timeOf_16 rfl ?_
  refine s_iald (pc := 18) dX4_timeOf_18 (gk_2_30 hk1) ?_
  refine s_iastK (pc := 19) (k := 3) dX4_timeOf_19 kd_5 (by decide) (by decide) (by decide) (fun μ_2 => ?_)
  refine s_aload_n (pc := 20) 0 dX4_timeOf_20 rfl rfl ?_
  refine s_aload_n (pc := 21) 1 dX4_timeOf_21 rfl rfl ?_
  refine s_getR (pc := 22) (ci := 2) (k := 12) (r := (o1 + 32)) dX4_timeOf_22 fl_4_30 hk1 rfl (gr_2_0_12 hk1) ?_
  refine s_aload_n (pc := 25) 1 dX4_timeOf_25 rfl rfl ?_
  refine s_getR (pc := 26) (ci := 2) (k := 13) (r := (o1 + 34)) dX4_timeOf_26 fl_4_34 hk1 rfl (gr_2_0_13 hk1) ?_
  refine s_iconst (pc := 29) (v := (0 : Int32)) dX4_timeOf_29 (by decide) ?_
  refine s_ialdK (pc := 30) (k := 0) dX4_timeOf_30 (gk_2_34 hk1) (by decide) (by decide) (by decide) ?_
  refine s_aload_n (pc := 31) 1 dX4_timeOf_31 rfl rfl ?_
  refine s_getR (pc := 32) (ci := 2) (k := 14) (r := (o1 + 35)) dX4_timeOf_32 fl_4_37 hk1 rfl (gr_2_0_14 hk1) ?_
  refine s_iconst (pc := 35) (v := (0 : Int32)) dX4_timeOf_35 (by decide) ?_
  refine s_ialdK (pc := 36) (k := 0) dX4_timeOf_36 (gk_2_35 hk1) (by decide) (by decide) (by decide) ?_
  refine s_callVI (pc := 37) (as := [.ref (o1 + 32), .int (μ_2.1 (o1 + 34) 0), .int (μ_2.1 (o1 + 35) 0)]) (st := []) dX4_timeOf_37 lk_4_40 kd_4 (t_X4_run N (o1 + 32) (μ_2.1 (o1 + 34) 0) (μ_2.1 (o1 + 35) 0) μ_2) (by omega) rfl (by decide) rfl (fun x1 μ_3 => ?_)
  refine s_istore (pc := 40) (lv' := [(5, .int x1), (0, .ref 4), (1, .ref o1), (2, .ref o2), (3, .int a3), (4, .int a4)]) dX4_timeOf_40 (by decide) rfl ?_
  refine s_iconst (pc := 42) (v := (1 : Int32)) dX4_timeOf_42 (by decide) ?_
  refine s_sipush (pc := 43) (v := (999 : Int32)) dX4_timeOf_43 (by decide) ?_
  refine s_iload (pc := 46) 0 dX4_timeOf_46 rfl ?_
  refine s_callSI (pc := 48) (as := [.int (999 : Int32), .int x1]) (st := [.int (1 : Int32)]) dX4_timeOf_48 lk_4_44 (t_J9_min_7cf53 N (999 : Int32) x1 μ_3) (by omega) rfl (Nat.le_of_ble_eq_true rfl) rfl (fun x2 μ_4 => ?_)
  refine s_callSI (pc := 51) (as := [.int (1 : Int32), .int x2]) (st := []) dX4_timeOf_51 lk_4_50 (t_J9_max_7cf53 N (1 : Int32) x2 μ_4) (by omega) rfl (by decide) rfl (fun x3 μ_5 => ?_)
  exact s_iret (pc := 54) rfl dX4_timeOf_54 rfl
def f_X4_warmthOf (N : Nat) (o1 : Nat) (o2 : Nat) (a3 : Int32) (a4 : Int32) (μ : z_S) : Option (Int32 × z_S) :=
  z_ko true o1 2 <| z_ko true o2 8 <| z_bn (f_X4_lookAt N o1 o2 a3 μ) fun _ μ_1 => z_in a4 3 <| z_bd (z_setI μ_1 5 3 (μ_1.1 (o1 + 30) a4.toNatClampNeg)) fun μ_2 => z_bn (f_X4_run N (o1 + 32) (μ_2.1 (o1 + 34) 1) (μ_2.1 (o1 + 35) 1) μ_2) fun x1 μ_3 => some (x1, μ_3)
theorem t_X4_warmthOf (N : Nat) (o1 : Nat) (o2 : Nat) (a3 : Int32) (a4 : Int32) (μ : z_S) : z_met true rI mX4_warmthOf 3 [.ref 4, .ref o1, .ref o2, .int a3, .int a4] μ (f_X4_warmthOf N o1 o2 a3 a4 μ) := by
  refine z_met.of (by decide +kernel) (by show _ ≤ _; first | decide | exact Nat.le_of_ble_eq_true rfl) (lv := [(0, .ref 4), (1, .ref o1), (2, .ref o2), (3, .int a3), (4, .int a4)]) rfl ?_
  unfold f_X4_warmthOf
  refine s_ko (fun hk1 => ?_)
  refine s_ko (fun hk2 => ?_)
  refine s_aload_n (pc := 0) 0 dX4_warmthOf_0 rfl rfl ?_
  refine s_aload_n (pc := 1) 1 dX4_warmthOf_1 rfl rfl ?_
  refine s_aload_n (pc := 2) 2 dX4_warmthOf_2 rfl rfl ?_
  refine s_iload_n (pc := 3) 3 dX4_warmthOf_3 rfl rfl ?_
  refine s_callVV (pc := 4) (as := [.ref o1, .ref o2, .int a3]) (st := []) dX4_warmthOf_4 lk_4_21 kd_4 (t_X4_lookAt N o1 o2 a3 μ) (by omega) rfl (by decide) rfl (fun _ μ_1 => ?_)
  refine s_aload_n (pc := 7) 0 dX4_warmthOf_7 rfl rfl ?_
  refine s_getR (pc := 8) (ci := 4) (k := 0) (r := 5) dX4_warmthOf_8 fl_4_9 kd_4 rfl rs_4_0 ?_
  refine s_iconst (pc := 11) (v := (3 : Int32)) dX4_warmthOf_11 (by decide) ?_
  refine s_aload_n (pc := 12) 1 dX4_warmthOf_12 rfl rfl ?_
  refine s_getR (pc := 13) (ci := 2) (k := 10) (r := (o1 + 30)) dX4_warmthOf_13 fl_4_25 hk1 rfl (gr_2_0_10 hk1) ?_
  refine s_iload (pc := 16) 4 dX4_warmthOf_16 rfl ?_
  refine s_iald (pc := 18) dX4_warmthOf_18 (gk_2_30 hk1) ?_
  refine s_iastK (pc := 19) (k := 3) dX4_warmthOf_19 kd_5 (by decide) (by decide) (by decide) (fun μ_2 => ?_)
  refine s_aload_n (pc := 20) 0 dX4_warmthOf_20 rfl rfl ?_
  refine s_aload_n (pc := 21) 1 dX4_warmthOf_21 rfl rfl ?_
  refine s_getR (pc := 22) (ci := 2) (k := 12) (r := (o1 + 32)) dX4_warmthOf_22 fl_4_30 hk1 rfl (gr_2_0_12 hk1) ?_
  refine s_aload_n (pc := 25) 1 dX4_warmthOf_25 rfl rfl ?_
  refine s_getR (pc := 26) (ci := 2) (k := 13) (r := (o1 + 34)) dX4_warmthOf_26 fl_4_34 hk1 rfl (gr_2_0_13 hk1) ?_
  refine s_iconst (pc := 29) (v := (1 : Int32)) dX4_warmthOf_29 (by decide) ?_
  refine s_ialdK (pc := 30) (k := 1) dX4_warmthOf_30 (gk_2_34 hk1) (by decide) (by decide) (by decide) ?_
  refine s_aload_n (pc := 31) 1 dX4_warmthOf_31 rfl rfl ?_
  refine s_getR (pc := 32) (ci := 2) (k := 14) (r := (o1 + 35)) dX4_warmthOf_32 fl_4_37 hk1 rfl (gr_2_0_14 hk1) ?_
  refine s_iconst (pc := 35) (v := (1 : Int32)) dX4_warmthOf_35 (by decide) ?_
  refine s_ialdK (pc := 36) (k := 1) dX4_warmthOf_36 (gk_2_35 hk1) (by decide) (by decide) (by decide) ?_
  refine s_callVI (pc := 37) (as := [.ref (o1 + 32), .int (μ_2.1 (o1 + 34) 1), .int (μ_2.1 (o1 + 35) 1)]) (st := []) dX4_warmthOf_37 lk_4_40 kd_4 (t_X4_run N (o1 + 32) (μ_2.1 (o1 + 34) 1) (μ_2.1 (o1 + 35) 1) μ_2) (by omega) rfl (by decide) rfl (fun x1 μ_3 => ?_)
  exact s_iret (pc := 40) rfl dX4_warmthOf_40 rfl
def f_X4_timeIfAble (N : Nat) (o1 : Nat) (o2 : Nat) (a3 : Int32) (a4 : Int32) (μ : z_S) : Option (Int32 × z_S) :=
  z_ko true o1 2 <| z_ko true o2 8 <| z_in a3 8 <| if (μ.1 (o2 + 3) a3.toNatClampNeg) = (-1 : Int32) then (z_in a4 3 <| z_in a3 8 <| if (μ.1 (o1 + 31) a4.toNatClampNeg) < (μ.1 (o1 + 8) a3.toNatClampNeg) then (some ((-1 : Int32), μ)) else z_in a4 3 <| if (μ.1 (o2 + 1) a4.toNatClampNeg) = 0 then (some ((-1 : Int32), μ)) else z_bn (f_X4_timeOf N o1 o2 a3 a4 μ) fun x1 μ_1 => z_in a4 3 <| if (μ_1.1 (o2 + 1) a4.toNatClampNeg) < x1 then (some ((-1 : Int32), μ_1)) else some (x1, μ_1)) else some ((-1 : Int32), μ)
theorem t_X4_timeIfAble (N : Nat) (o1 : Nat) (o2 : Nat) (a3 : Int32) (a4 : Int32) (μ : z_S) : z_met true rI mX4_timeIfAble 4 [.ref 4, .ref o1, .ref o2, .int a3, .int a4] μ (f_X4_timeIfAble N o1 o2 a3 a4 μ) := by
  refine z_met.of (by decide +kernel) (by show _ ≤ _; first | decide | exact Nat.le_of_ble_eq_true rfl) (lv := [(0, .ref 4), (1, .ref o1), (2, .ref o2), (3, .int a3), (4, .int a4)]) rfl ?_
  unfold f_X4_timeIfAble
  refine s_ko (fun hk1 => ?_)
  refine s_ko (fun hk2 => ?_)
  refine s_aload_n (pc := 0) 2 dX4_timeIfAble_0 rfl rfl ?_
  refine s_getR (pc := 1) (ci := 8) (k := 3) (r := (o2 + 3)) dX4_timeIfAble_1 fl_4_53 hk2 rfl (gr_8_0_3 hk2) ?_
  refine s_iload_n (pc := 4) 3 dX4_timeIfAble_4 rfl rfl ?_
  refine s_iald (pc := 5) dX4_timeIfAble_5 (gk_8_3 hk2) ?_
  refine s_iconst (pc := 6) (v := (-1 : Int32)) dX4_timeIfAble_6 (by decide) ?_
  refine s_icmp_ne (pc := 7) (tgt := 36) dX4_timeIfAble_7 (by decide) ?_ ?_
  · refine s_aload_n (pc := 10) 1 dX4_timeIfAble_10 rfl rfl ?_
    refine s_getR (pc := 11) (ci := 2) (k := 11) (r := (o1 + 31)) dX4_timeIfAble_11 fl_4_58 hk1 rfl (gr_2_0_11 hk1) ?_
    refine s_iload (pc := 14) 4 dX4_timeIfAble_14 rfl ?_
    refine s_iald (pc := 16) dX4_timeIfAble_16 (gk_2_31 hk1) ?_
    refine s_aload_n (pc := 17) 1 dX4_timeIfAble_17 rfl rfl ?_
    refine s_getR (pc := 18) (ci := 2) (k := 4) (r := (o1 + 8)) dX4_timeIfAble_18 fl_4_61 hk1 rfl (gr_2_0_4 hk1) ?_
    refine s_iload_n (pc := 21) 3 dX4_timeIfAble_21 rfl rfl ?_
    refine s_iald (pc := 22) dX4_timeIfAble_22 (gk_2_8 hk1) ?_
    refine s_icmp_lt (pc := 23) (tgt := 36) dX4_timeIfAble_23 (by decide) ?_ ?_
    · refine s_iconst (pc := 36) (v := (-1 : Int32)) dX4_timeIfAble_36 (by decide) ?_
      exact s_iret (pc := 37) rfl dX4_timeIfAble_37 rfl
    · refine s_aload_n (pc := 26) 2 dX4_timeIfAble_26 rfl rfl ?_
      refine s_getR (pc := 27) (ci := 8) (k := 1) (r := (o2 + 1)) dX4_timeIfAble_27 fl_4_64 hk2 rfl (gr_8_0_1 hk2) ?_
      refine s_iload (pc := 30) 4 dX4_timeIfAble_30 rfl ?_
      refine s_iald (pc := 32) dX4_timeIfAble_32 (gk_8_1 hk2) ?_
      refine s_if_ne (pc := 33) (tgt := 38) dX4_timeIfAble_33 (by decide) ?_ ?_
      · refine s_iconst (pc := 36) (v := (-1 : Int32)) dX4_timeIfAble_36 (by decide) ?_
        exact s_iret (pc := 37) rfl dX4_timeIfAble_37 rfl
      · refine s_aload_n (pc := 38) 0 dX4_timeIfAble_38 rfl rfl ?_
        refine s_aload_n (pc := 39) 1 dX4_timeIfAble_39 rfl rfl ?_
        refine s_aload_n (pc := 40) 2 dX4_timeIfAble_40 rfl rfl ?_
        refine s_iload_n (pc := 41) 3 dX4_timeIfAble_41 rfl rfl ?_
        refine s_iload (pc := 42) 4 dX4_timeIfAble_42 rfl ?_
        refine s_callVI (pc := 44) (as := [.ref o1, .ref o2, .int a3, .int a4]) (st := []) dX4_timeIfAble_44 lk_4_67 kd_4 (t_X4_timeOf N o1 o2 a3 a4 μ) (by omega) rfl (by decide) rfl (fun x1 μ_1 => ?_)
        refine s_istore (pc := 47) (lv' := [(5, .int x1), (0, .ref 4), (1, .ref o1), (2, .ref o2), (3, .int a3), (4, .int a4)]) dX4_timeIfAble_47 (by decide) rfl ?_
        refine s_iload (pc := 49) 0 dX4_timeIfAble_49 rfl ?_
        refine s_aload_n (pc := 51) 3 dX4_timeIfAble_51 rfl rfl ?_
        refine s_getR (pc := 52) (ci := 8) (k := 1) (r := (o2 + 1)) dX4_timeIfAble_52 fl_4_64 hk2 rfl (gr_8_0_1 hk2) ?_
        refine s_iload (pc := 55) 5 dX4_timeIfAble_55 rfl ?_
        refine s_iald (pc := 57) dX4_timeIfAble_57 (gk_8_1 hk2) ?_
        refine s_icmp_gt (pc := 58) (tgt := 66) dX4_timeIfAble_58 (by decide) ?_ ?_
        · refine s_iconst (pc := 66) (v := (-1 : Int32)) dX4_timeIfAble_66 (by decide) ?_
          exact s_iret (pc := 67) rfl dX4_timeIfAble_67 rfl
        · refine s_iload (pc := 61) 0 dX4_timeIfAble_61 rfl ?_
          refine s_goto (pc := 63) (tgt := 67) dX4_timeIfAble_63 (by decide) ?_
          exact s_iret (pc := 67) rfl dX4_timeIfAble_67 rfl
  · refine s_iconst (pc := 36) (v := (-1 : Int32)) dX4_timeIfAble_36 (by decide) ?_
    exact s_iret (pc := 37) rfl dX4_timeIfAble_37 rfl
def f_X4_valueFor (N : Nat) (o1 : Nat) (o2 : Nat) (a3 : Int32) (o4 : Nat) (μ : z_S) : Option (Int32 × z_S) :=
  z_ko true o1 2 <| z_ko true o2 8 <| z_ko true o4 0 <| z_bn (f_X4_lookAt N o1 o2 a3 μ) fun _ μ_1 => z_bd (z_setI μ_1 5 3 (0 : Int32)) fun μ_2 => z_bn (f_X4_run N o4 (0 : Int32) (μ_2.1 o4 1) μ_2) fun x1 μ_3 => some (x1, μ_3)
theorem t_X4_valueFor (N : Nat) (o1 : Nat) (o2 : Nat) (a3 : Int32) (o4 : Nat) (μ : z_S) : z_met true rI mX4_valueFor 3 [.ref 4, .ref o1, .ref o2, .int a3, .ref o4] μ (f_X4_valueFor N o1 o2 a3 o4 μ) := by
  refine z_met.of (by decide +kernel) (by show _ ≤ _; first | decide | exact Nat.le_of_ble_eq_true rfl) (lv := [(0, .ref 4), (1, .ref o1), (2, .ref o2), (3, .int a3), (4, .ref o4)]) rfl ?_
  unfold f_X4_valueFor
  refine s_ko (fun hk1 => ?_)
  refine s_ko (fun hk2 => ?_)
  refine s_ko (fun hk4 => ?_)
  refine s_aload_n (pc := 0) 0 dX4_valueFor_0 rfl rfl ?_
  refine s_aload_n (pc := 1) 1 dX4_valueFor_1 rfl rfl ?_
  refine s_aload_n (pc := 2) 2 dX4_valueFor_2 rfl rfl ?_
  refine s_iload_n (pc := 3) 3 dX4_valueFor_3 rfl rfl ?_
  refine s_callVV (pc := 4) (as := [.ref o1, .ref o2, .int a3]) (st := []) dX4_valueFor_4 lk_4_21 kd_4 (t_X4_lookAt N o1 o2 a3 μ) (by omega) rfl (by decide) rfl (fun _ μ_1 => ?_)
  refine s_aload_n (pc := 7) 0 dX4_valueFor_7 rfl rfl ?_
  refine s_getR (pc := 8) (ci := 4) (k := 0) (r := 5) dX4_valueFor_8 fl_4_9 kd_4 rfl rs_4_0 ?_
  refine s_iconst (pc := 11) (v := (3 : Int32)) dX4_valueFor_11 (by decide) ?_
  refine s_iconst (pc := 12) (v := (0 : Int32)) dX4_valueFor_12 (by decide) ?_
  refine s_iastK (pc := 13) (k := 3) dX4_valueFor_13 kd_5 (by decide) (by decide) (by decide) (fun μ_2 => ?_)
  refine s_aload_n (pc := 14) 0 dX4_valueFor_14 rfl rfl ?_
  refine s_aload (pc := 15) 4 dX4_valueFor_15 rfl ?_
  refine s_iconst (pc := 17) (v := (0 : Int32)) dX4_valueFor_17 (by decide) ?_
  refine s_aload (pc := 18) 4 dX4_valueFor_18 rfl ?_
  refine s_getI (pc := 20) (ci := 0) (k := 1) dX4_valueFor_20 fl_4_71 hk4 rfl ?_
  refine s_callVI (pc := 23) (as := [.ref o4, .int (0 : Int32), .int (μ_2.1 o4 1)]) (st := []) dX4_valueFor_23 lk_4_40 kd_4 (t_X4_run N o4 (0 : Int32) (μ_2.1 o4 1) μ_2) (by omega) rfl (by decide) rfl (fun x1 μ_3 => ?_)
  exact s_iret (pc := 26) rfl dX4_valueFor_26 rfl
