def f_X5_read_B97 (N : Nat)   (μ : z_S) : Option (Int32 × z_S) :=
  some ((1 : Int32), μ)
theorem t_X5_read_B97 (N : Nat)       (μ : z_S) : z_sim true rI mX5_read 50 (f_X5_read_B97 N    μ) 97 [] [] μ := by
  unfold f_X5_read_B97
  refine s_iconst (pc := 97) (v := (1 : Int32)) dX5_read_97 (by decide) ?_
  refine s_goto (pc := 98) (tgt := 102) dX5_read_98 (by decide) ?_
  exact s_zret0 (pc := 102) dX5_read_102 rfl rfl
def f_X5_read_B69 (N : Nat)  (s0 : Int32) (μ : z_S) : Option (Int32 × z_S) :=
  if s0 = 0 then (some ((0 : Int32), μ)) else if (μ.1 1 4) = 0 then (f_X5_read_B97 N μ) else z_bn (f_X10_fail N (1 : Int32) μ) fun x3 μ_6 => if x3 = 0 then (some ((0 : Int32), μ_6)) else f_X5_read_B97 N μ_6
theorem t_X5_read_B69 (N : Nat)     (s0 : Int32)  (μ : z_S) : z_sim true rI mX5_read 50 (f_X5_read_B69 N   s0 μ) 69 [(0, .ref 132)] [.int s0] μ := by
  unfold f_X5_read_B69
  refine s_istore_n (pc := 69) (lv' := [(1, .int s0), (0, .ref 132)]) dX5_read_69 rfl (by decide) rfl ?_
  refine s_iload_n (pc := 70) 0 dX5_read_70 rfl rfl ?_
  refine s_if_ne (pc := 71) (tgt := 76) dX5_read_71 (by decide) ?_ ?_
  · refine s_iconst (pc := 74) (v := (0 : Int32)) dX5_read_74 (by decide) ?_
    exact s_zret0 (pc := 75) dX5_read_75 rfl rfl
  · refine s_aload_n (pc := 76) 1 dX5_read_76 rfl rfl ?_
    refine s_getR (pc := 77) (ci := 5) (k := 0) (r := 1) dX5_read_77 fl_5_9 kd_132 rfl rs_132_0 ?_
    refine s_getI (pc := 80) (ci := 10) (k := 4) dX5_read_80 fl_5_47 kd_1 rfl ?_
    refine s_if_eq (pc := 83) (tgt := 97) dX5_read_83 (by decide) ?_ ?_
    · refine s_sub (lv' := []) [] rfl ?_
      exact t_X5_read_B97 N μ
    · refine s_aload_n (pc := 86) 1 dX5_read_86 rfl rfl ?_
      refine s_getR (pc := 87) (ci := 5) (k := 0) (r := 1) dX5_read_87 fl_5_9 kd_132 rfl rs_132_0 ?_
      refine s_iconst (pc := 90) (v := (1 : Int32)) dX5_read_90 (by decide) ?_
      refine s_callVI (pc := 91) (as := [.int (1 : Int32)]) (st := []) dX5_read_91 lk_5_31 kd_1 (t_X10_fail N (1 : Int32) μ) (by omega) rfl (by decide) rfl (fun x3 μ_6 => ?_)
      refine s_if_eq (pc := 94) (tgt := 101) dX5_read_94 (by decide) ?_ ?_
      · refine s_iconst (pc := 101) (v := (0 : Int32)) dX5_read_101 (by decide) ?_
        exact s_zret0 (pc := 102) dX5_read_102 rfl rfl
      · refine s_sub (lv' := []) [] rfl ?_
        exact t_X5_read_B97 N μ_6
def f_X5_read (N : Nat) (μ : z_S) : Option (Int32 × z_S) :=
  z_bn (f_X10_open N μ) fun _ μ_1 => z_bd (z_setI μ_1 132 2 (μ_1.1 1 7)) fun μ_2 => if (μ_2.1 132 2) < (28 : Int32) then (z_bn (f_X10_fail N (1 : Int32) μ_2) fun x1 μ_3 => z_zb x1 (some (x1, μ_3))) else z_bn (f_X10_next N μ_2) fun _ μ_4 => if (μ_4.1 132 2) < (31 : Int32) then (z_bn (f_X9_readTest N μ_4) fun x2 μ_5 => f_X5_read_B69 N x2 μ_5) else z_bn (f_X9_readQuestionSum N μ_4) fun x4 μ_7 => f_X5_read_B69 N x4 μ_7
theorem t_X5_read (N : Nat) (μ : z_S) : z_met true rI mX5_read 50 [.ref 132] μ (f_X5_read N μ) := by
  refine z_met.of (by decide +kernel) (by show _ ≤ _; first | decide | exact Nat.le_of_ble_eq_true rfl) (lv := [(0, .ref 132)]) rfl ?_
  unfold f_X5_read
  refine s_aload_n (pc := 0) 0 dX5_read_0 rfl rfl ?_
  refine s_getR (pc := 1) (ci := 5) (k := 0) (r := 1) dX5_read_1 fl_5_9 kd_132 rfl rs_132_0 ?_
  refine s_callVV (pc := 4) (as := []) (st := []) dX5_read_4 lk_5_19 kd_1 (t_X10_open N μ) (by omega) rfl (by decide) rfl (fun _ μ_1 => ?_)
  refine s_aload_n (pc := 7) 0 dX5_read_7 rfl rfl ?_
  refine s_aload_n (pc := 8) 0 dX5_read_8 rfl rfl ?_
  refine s_getR (pc := 9) (ci := 5) (k := 0) (r := 1) dX5_read_9 fl_5_9 kd_132 rfl rs_132_0 ?_
  refine s_getI (pc := 12) (ci := 10) (k := 7) dX5_read_12 fl_5_24 kd_1 rfl ?_
  refine s_putI (pc := 15) (ci := 5) (k := 2) dX5_read_15 fl_5_28 kd_132 rfl rfl (fun μ_2 => ?_)
  refine s_aload_n (pc := 18) 0 dX5_read_18 rfl rfl ?_
  refine s_getI (pc := 19) (ci := 5) (k := 2) dX5_read_19 fl_5_28 kd_132 rfl ?_
  refine s_bipush (pc := 22) (v := (28 : Int32)) dX5_read_22 (by decide) ?_
  refine s_icmp_ge (pc := 24) (tgt := 36) dX5_read_24 (by decide) ?_ ?_
  · refine s_aload_n (pc := 27) 0 dX5_read_27 rfl rfl ?_
    refine s_getR (pc := 28) (ci := 5) (k := 0) (r := 1) dX5_read_28 fl_5_9 kd_132 rfl rs_132_0 ?_
    refine s_iconst (pc := 31) (v := (1 : Int32)) dX5_read_31 (by decide) ?_
    refine s_callVI (pc := 32) (as := [.int (1 : Int32)]) (st := []) dX5_read_32 lk_5_31 kd_1 (t_X10_fail N (1 : Int32) μ_2) (by omega) rfl (by decide) rfl (fun x1 μ_3 => ?_)
    exact s_zret (pc := 35) dX5_read_35 rfl
  · refine s_aload_n (pc := 36) 0 dX5_read_36 rfl rfl ?_
    refine s_getR (pc := 37) (ci := 5) (k := 0) (r := 1) dX5_read_37 fl_5_9 kd_132 rfl rs_132_0 ?_
    refine s_callVV (pc := 40) (as := []) (st := []) dX5_read_40 lk_5_35 kd_1 (t_X10_next N μ_2) (by omega) rfl (by decide) rfl (fun _ μ_4 => ?_)
    refine s_aload_n (pc := 43) 0 dX5_read_43 rfl rfl ?_
    refine s_getI (pc := 44) (ci := 5) (k := 2) dX5_read_44 fl_5_28 kd_132 rfl ?_
    refine s_bipush (pc := 47) (v := (31 : Int32)) dX5_read_47 (by decide) ?_
    refine s_icmp_ge (pc := 49) (tgt := 62) dX5_read_49 (by decide) ?_ ?_
    · refine s_aload_n (pc := 52) 0 dX5_read_52 rfl rfl ?_
      refine s_getR (pc := 53) (ci := 5) (k := 1) (r := 92) dX5_read_53 fl_5_15 kd_132 rfl rs_132_1 ?_
      refine s_callVI (pc := 56) (as := []) (st := []) dX5_read_56 lk_5_38 kd_92 (t_X9_readTest N μ_4) (by omega) rfl (by decide) rfl (fun x2 μ_5 => ?_)
      refine s_goto (pc := 59) (tgt := 69) dX5_read_59 (by decide) ?_
      exact t_X5_read_B69 N x2 μ_5
    · refine s_aload_n (pc := 62) 0 dX5_read_62 rfl rfl ?_
      refine s_getR (pc := 63) (ci := 5) (k := 1) (r := 92) dX5_read_63 fl_5_15 kd_132 rfl rs_132_1 ?_
      refine s_callVI (pc := 66) (as := []) (st := []) dX5_read_66 lk_5_44 kd_92 (t_X9_readQuestionSum N μ_4) (by omega) rfl (by decide) rfl (fun x4 μ_7 => ?_)
      exact t_X5_read_B69 N x4 μ_7
def f_X5_with_B52 (N : Nat)  (v1 : Int64) (v4 : Int32) (μ : z_S) : Option (Int64 × z_S) :=
  some ((v1 + v4.toInt64), μ)
theorem t_X5_with_B52 (N : Nat)     (v1 : Int64) (v4 : Int32)  (μ : z_S) : z_sim true rJ mX5_with 1 (f_X5_with_B52 N   v1 v4 μ) 52 [(1, .long v1), (4, .int v4)] [] μ := by
  unfold f_X5_with_B52
  refine s_lload_n (pc := 52) 0 dX5_with_52 rfl rfl ?_
  refine s_iload (pc := 53) 1 dX5_with_53 rfl ?_
  refine s_i2l (pc := 55) dX5_with_55 ?_
  refine s_ladd (pc := 56) dX5_with_56 ?_
  exact s_lret (pc := 57) dX5_with_57 rfl
def f_X5_with (N : Nat) (a1 : Int64) (a3 : Int32) (a4 : Int32) (μ : z_S) : Option (Int64 × z_S) :=
  z_bd (μ.1 132 2) fun x1 => if x1 = 29 then (if a4 = 0 then (some (a1, μ)) else some (a3.toInt64, μ)) else if x1 = 30 then (f_X5_with_B52 N a1 a4 μ) else if x1 = 31 then (f_X5_with_B52 N a1 a4 μ) else if x1 = 32 then (z_bn (f_J9_max_f86c9 N a1 a4.toInt64 μ) fun x2 μ_1 => some (x2, μ_1)) else if x1 = 33 then (z_bn (f_J9_min_f86c9 N a1 a4.toInt64 μ) fun x3 μ_2 => some (x3, μ_2)) else some (a1, μ)
theorem t_X5_with (N : Nat) (a1 : Int64) (a3 : Int32) (a4 : Int32) (μ : z_S) : z_met true rJ mX5_with 1 [.ref 132, .long a1, .int a3, .int a4] μ (f_X5_with N a1 a3 a4 μ) := by
  refine z_met.of (by decide +kernel) (by show _ ≤ _; first | decide | exact Nat.le_of_ble_eq_true rfl) (lv := [(0, .ref 132), (1, .long a1), (3, .int a3), (4, .int a4)]) rfl ?_
  unfold f_X5_with
  refine s_aload_n (pc := 0) 0 dX5_with_0 rfl rfl ?_
  refine s_getI (pc := 1) (ci := 5) (k := 2) dX5_with_1 fl_5_28 kd_132 rfl ?_
  refine s_letI (fun x1 => ?_)
  refine s_ite (fun hs1 => ?_) (fun hs1 => ?_)
  · subst hs1
    refine s_tswIn (pc := 4) (tgt := 40) dX5_with_4 (by decide) (by decide) rfl (by decide) ?_
    refine s_iload (pc := 40) 3 dX5_with_40 rfl ?_
    refine s_if_eq (pc := 42) (tgt := 50) dX5_with_42 (by decide) ?_ ?_
    · refine s_lload_n (pc := 50) 1 dX5_with_50 rfl rfl ?_
      exact s_lret (pc := 51) dX5_with_51 rfl
    · refine s_iload_n (pc := 45) 2 dX5_with_45 rfl rfl ?_
      refine s_i2l (pc := 46) dX5_with_46 ?_
      refine s_goto (pc := 47) (tgt := 51) dX5_with_47 (by decide) ?_
      exact s_lret (pc := 51) dX5_with_51 rfl
  refine s_ite (fun hs2 => ?_) (fun hs2 => ?_)
  · subst hs2
    refine s_tswIn (pc := 4) (tgt := 52) dX5_with_4 (by decide) (by decide) rfl (by decide) ?_
    refine s_sub (lv' := [(1, .long a1), (4, .int a4)]) [1, 3] rfl ?_
    exact t_X5_with_B52 N a1 a4 μ
  refine s_ite (fun hs3 => ?_) (fun hs3 => ?_)
  · subst hs3
    refine s_tswIn (pc := 4) (tgt := 52) dX5_with_4 (by decide) (by decide) rfl (by decide) ?_
    refine s_sub (lv' := [(1, .long a1), (4, .int a4)]) [1, 3] rfl ?_
    exact t_X5_with_B52 N a1 a4 μ
  refine s_ite (fun hs4 => ?_) (fun hs4 => ?_)
  · subst hs4
    refine s_tswIn (pc := 4) (tgt := 58) dX5_with_4 (by decide) (by decide) rfl (by decide) ?_
    refine s_lload_n (pc := 58) 1 dX5_with_58 rfl rfl ?_
    refine s_iload (pc := 59) 3 dX5_with_59 rfl ?_
    refine s_i2l (pc := 61) dX5_with_61 ?_
    refine s_callSJ (pc := 62) (as := [.long a1, .long a4.toInt64]) (st := []) dX5_with_62 lk_5_72 (t_J9_max_f86c9 N a1 a4.toInt64 μ) (by omega) rfl (by decide) rfl (fun x2 μ_1 => ?_)
    exact s_lret (pc := 65) dX5_with_65 rfl
  refine s_ite (fun hs5 => ?_) (fun hs5 => ?_)
  · subst hs5
    refine s_tswIn (pc := 4) (tgt := 66) dX5_with_4 (by decide) (by decide) rfl (by decide) ?_
    refine s_lload_n (pc := 66) 1 dX5_with_66 rfl rfl ?_
    refine s_iload (pc := 67) 3 dX5_with_67 rfl ?_
    refine s_i2l (pc := 69) dX5_with_69 ?_
    refine s_callSJ (pc := 70) (as := [.long a1, .long a4.toInt64]) (st := []) dX5_with_70 lk_5_78 (t_J9_min_f86c9 N a1 a4.toInt64 μ) (by omega) rfl (by decide) rfl (fun x3 μ_2 => ?_)
    exact s_lret (pc := 73) dX5_with_73 rfl
  · have q_hs1 := lv_neT (a := 29) hs1 (by decide)
    have q_hs2 := lv_neT (a := 30) hs2 (by decide)
    have q_hs3 := lv_neT (a := 31) hs3 (by decide)
    have q_hs4 := lv_neT (a := 32) hs4 (by decide)
    have q_hs5 := lv_neT (a := 33) hs5 (by decide)
    refine s_tswOut (pc := 4) (tgt := 74) dX5_with_4 (by omega) (by decide) ?_
    refine s_lload_n (pc := 74) 1 dX5_with_74 rfl rfl ?_
    exact s_lret (pc := 75) dX5_with_75 rfl
def f_X5_over_B106 (N : Nat) (o1 : Nat) (o2 : Nat) (kb : Int64 → Int32 → z_S → Option (Int64 × z_S)) (v6 : Int32) (s0 : Int64) (μ : z_S) : Option (Int64 × z_S) :=
  z_bd (v6 + 1) fun x3 => kb s0 x3 μ
theorem t_X5_over_B106 (N : Nat) (o1 : Nat) (o2 : Nat) (hk1 : z_kw true o1 = (2, 0)) (hk2 : z_kw true o2 = (8, 0)) (kb : Int64 → Int32 → z_S → Option (Int64 × z_S)) (hkb : ∀ (a4 : Int64) (a6 : Int32) (μ : z_S), z_sim true rJ mX5_over 4 (kb a4 a6 μ) 30 [(0, .ref 132), (1, .ref o1), (2, .ref o2), (3, .ref 4), (4, .long a4), (6, .int a6)] [] μ) (v6 : Int32) (s0 : Int64)  (μ : z_S) : z_sim true rJ mX5_over 4 (f_X5_over_B106 N o1 o2 kb v6 s0 μ) 106 [(0, .ref 132), (1, .ref o1), (2, .ref o2), (3, .ref 4), (6, .int v6)] [.long s0] μ := by
  unfold f_X5_over_B106
  refine s_lstore (pc := 106) (lv' := [(4, .long s0), (0, .ref 132), (1, .ref o1), (2, .ref o2), (3, .ref 4), (6, .int v6)]) dX5_over_106 (by decide) rfl ?_
  refine s_iincB (pc := 108) (lv' := fun x3 => [(6, .int x3), (4, .long s0), (0, .ref 132), (1, .ref o1), (2, .ref o2), (3, .ref 4)]) (c := 1) 5 dX5_over_108 rfl (by decide) (by decide) (fun _ => rfl) (fun x3 => ?_)
  refine s_goto (pc := 111) (tgt := 30) dX5_over_111 (by decide) ?_
  refine s_sub (lv' := [(0, .ref 132), (1, .ref o1), (2, .ref o2), (3, .ref 4), (4, .long s0), (6, .int x3)]) [2, 3, 4, 5, 1, 0] rfl ?_
  exact hkb s0 x3 μ
def f_X5_over_B96 (N : Nat) (o1 : Nat) (o2 : Nat) (kb : Int64 → Int32 → z_S → Option (Int64 × z_S)) (v4 : Int64) (v6 : Int32) (v7 : Int32) (μ : z_S) : Option (Int64 × z_S) :=
  z_bn (f_X5_with N v4 v6 v7 μ) fun x2 μ_2 => f_X5_over_B106 N o1 o2 kb v6 x2 μ_2
theorem t_X5_over_B96 (N : Nat) (o1 : Nat) (o2 : Nat) (hk1 : z_kw true o1 = (2, 0)) (hk2 : z_kw true o2 = (8, 0)) (kb : Int64 → Int32 → z_S → Option (Int64 × z_S)) (hkb : ∀ (a4 : Int64) (a6 : Int32) (μ : z_S), z_sim true rJ mX5_over 4 (kb a4 a6 μ) 30 [(0, .ref 132), (1, .ref o1), (2, .ref o2), (3, .ref 4), (4, .long a4), (6, .int a6)] [] μ) (v4 : Int64) (v6 : Int32) (v7 : Int32)  (μ : z_S) : z_sim true rJ mX5_over 4 (f_X5_over_B96 N o1 o2 kb v4 v6 v7 μ) 96 [(0, .ref 132), (1, .ref o1), (2, .ref o2), (3, .ref 4), (4, .long v4), (6, .int v6), (7, .int v7)] [] μ := by
  unfold f_X5_over_B96
  refine s_aload_n (pc := 96) 0 dX5_over_96 rfl rfl ?_
  refine s_lload (pc := 97) 4 dX5_over_97 rfl ?_
  refine s_iload (pc := 99) 5 dX5_over_99 rfl ?_
  refine s_iload (pc := 101) 6 dX5_over_101 rfl ?_
  refine s_callVJ (pc := 103) (as := [.long v4, .int v6, .int v7]) (st := []) dX5_over_103 lk_5_68 kd_132 (t_X5_with N v4 v6 v7 μ) (by omega) rfl (by decide) rfl (fun x2 μ_2 => ?_)
  refine s_sub (lv' := [(0, .ref 132), (1, .ref o1), (2, .ref o2), (3, .ref 4), (6, .int v6)]) [0, 1, 2, 3, 5] rfl ?_
  exact t_X5_over_B106 N o1 o2 hk1 hk2 kb hkb v6 x2 μ_2
def f_X5_over_B76 (N : Nat) (o1 : Nat) (o2 : Nat) (kb : Int64 → Int32 → z_S → Option (Int64 × z_S)) (v4 : Int64) (v6 : Int32) (v7 : Int32) (μ : z_S) : Option (Int64 × z_S) :=
  if v6 = 0 then (if (μ.1 132 2) < (32 : Int32) then (f_X5_over_B96 N o1 o2 kb v4 v6 v7 μ) else f_X5_over_B106 N o1 o2 kb v6 v7.toInt64 μ) else f_X5_over_B96 N o1 o2 kb v4 v6 v7 μ
theorem t_X5_over_B76 (N : Nat) (o1 : Nat) (o2 : Nat) (hk1 : z_kw true o1 = (2, 0)) (hk2 : z_kw true o2 = (8, 0)) (kb : Int64 → Int32 → z_S → Option (Int64 × z_S)) (hkb : ∀ (a4 : Int64) (a6 : Int32) (μ : z_S), z_sim true rJ mX5_over 4 (kb a4 a6 μ) 30 [(0, .ref 132), (1, .ref o1), (2, .ref o2), (3, .ref 4), (4, .long a4), (6, .int a6)] [] μ) (v4 : Int64) (v6 : Int32) (v7 : Int32)  (μ : z_S) : z_sim true rJ mX5_over 4 (f_X5_over_B76 N o1 o2 kb v4 v6 v7 μ) 76 [(0, .ref 132), (1, .ref o1), (2, .ref o2), (3, .ref 4), (4, .long v4), (6, .int v6), (7, .int v7)] [] μ := by
  unfold f_X5_over_B76
  refine s_iload (pc := 76) 5 dX5_over_76 rfl ?_
  refine s_if_ne (pc := 78) (tgt := 96) dX5_over_78 (by decide) ?_ ?_
  · refine s_aload_n (pc := 81) 0 dX5_over_81 rfl rfl ?_
    refine s_getI (pc := 82) (ci := 5) (k := 2) dX5_over_82 fl_5_28 kd_132 rfl ?_
    refine s_bipush (pc := 85) (v := (32 : Int32)) dX5_over_85 (by decide) ?_
    refine s_icmp_lt (pc := 87) (tgt := 96) dX5_over_87 (by decide) ?_ ?_
    · exact t_X5_over_B96 N o1 o2 hk1 hk2 kb hkb v4 v6 v7 μ
    · refine s_iload (pc := 90) 6 dX5_over_90 rfl ?_
      refine s_i2l (pc := 92) dX5_over_92 ?_
      refine s_goto (pc := 93) (tgt := 106) dX5_over_93 (by decide) ?_
      refine s_sub (lv' := [(0, .ref 132), (1, .ref o1), (2, .ref o2), (3, .ref 4), (6, .int v6)]) [0, 1, 2, 3, 5] rfl ?_
      exact t_X5_over_B106 N o1 o2 hk1 hk2 kb hkb v6 v7.toInt64 μ
  · exact t_X5_over_B96 N o1 o2 hk1 hk2 kb hkb v4 v6 v7 μ
def b_X5_over_L30 (N : Nat) (o1 : Nat) (o2 : Nat) (kb : Int64 → Int32 → z_S → Option (Int64 × z_S)) (v4 : Int64) (v6 : Int32) (μ : z_S) : Option (Int64 × z_S) :=
  if v6 < (μ.1 (o1 + 1) 0) then (z_bn (f_X4_valueFor N o1 o2 v6 93 μ) fun x1 μ_1 => if (μ_1.1 132 2) = (28 : Int32) then (if x1 = 0 then (f_X5_over_B76 N o1 o2 kb v4 v6 x1 μ_1) else some (v6.toInt64, μ_1)) else f_X5_over_B76 N o1 o2 kb v4 v6 x1 μ_1) else some (v4, μ)
theorem tb_X5_over_L30 (N : Nat) (o1 : Nat) (o2 : Nat) (hk1 : z_kw true o1 = (2, 0)) (hk2 : z_kw true o2 = (8, 0)) (kb : Int64 → Int32 → z_S → Option (Int64 × z_S)) (hkb : ∀ (a4 : Int64) (a6 : Int32) (μ : z_S), z_sim true rJ mX5_over 4 (kb a4 a6 μ) 30 [(0, .ref 132), (1, .ref o1), (2, .ref o2), (3, .ref 4), (4, .long a4), (6, .int a6)] [] μ) (v4 : Int64) (v6 : Int32) (μ : z_S) : z_sim true rJ mX5_over 4 (b_X5_over_L30 N o1 o2 kb v4 v6 μ) 30 [(0, .ref 132), (1, .ref o1), (2, .ref o2), (3, .ref 4), (4, .long v4), (6, .int v6)] [] μ := by
  unfold b_X5_over_L30
  refine s_iload (pc := 30) 5 dX5_over_30 rfl ?_
  refine s_aload_n (pc := 32) 1 dX5_over_32 rfl rfl ?_
  refine s_getR (pc := 33) (ci := 2) (k := 0) (r := (o1 + 1)) dX5_over_33 fl_5_52 hk1 rfl (gr_2_0_0 hk1) ?_
  refine s_iconst (pc := 36) (v := (0 : Int32)) dX5_over_36 (by decide) ?_
  refine s_ialdK (pc := 37) (k := 0) dX5_over_37 (gk_2_1 hk1) (by decide) (by decide) (by decide) ?_
  refine s_icmp_ge (pc := 38) (tgt := 114) dX5_over_38 (by decide) ?_ ?_
  · refine s_aload_n (pc := 41) 3 dX5_over_41 rfl rfl ?_
    refine s_aload_n (pc := 42) 1 dX5_over_42 rfl rfl ?_
    refine s_aload_n (pc := 43) 2 dX5_over_43 rfl rfl ?_
    refine s_iload (pc := 44) 5 dX5_over_44 rfl ?_
    refine s_aload_n (pc := 46) 0 dX5_over_46 rfl rfl ?_
    refine s_getR (pc := 47) (ci := 5) (k := 1) (r := 92) dX5_over_47 fl_5_15 kd_132 rfl rs_132_1 ?_
    refine s_getR (pc := 50) (ci := 9) (k := 0) (r := 93) dX5_over_50 fl_5_58 kd_92 rfl rs_92_0 ?_
    refine s_callVI (pc := 53) (as := [.ref o1, .ref o2, .int v6, .ref 93]) (st := []) dX5_over_53 lk_5_62 kd_4 (t_X4_valueFor N o1 o2 v6 93 μ) (by omega) rfl (by decide) rfl (fun x1 μ_1 => ?_)
    refine s_istore (pc := 56) (lv' := [(7, .int x1), (0, .ref 132), (1, .ref o1), (2, .ref o2), (3, .ref 4), (4, .long v4), (6, .int v6)]) dX5_over_56 (by decide) rfl ?_
    refine s_aload_n (pc := 58) 1 dX5_over_58 rfl rfl ?_
    refine s_getI (pc := 59) (ci := 5) (k := 2) dX5_over_59 fl_5_28 kd_132 rfl ?_
    refine s_bipush (pc := 62) (v := (28 : Int32)) dX5_over_62 (by decide) ?_
    refine s_icmp_ne (pc := 64) (tgt := 76) dX5_over_64 (by decide) ?_ ?_
    · refine s_iload (pc := 67) 0 dX5_over_67 rfl ?_
      refine s_if_eq (pc := 69) (tgt := 76) dX5_over_69 (by decide) ?_ ?_
      · refine s_sub (lv' := [(0, .ref 132), (1, .ref o1), (2, .ref o2), (3, .ref 4), (4, .long v4), (6, .int v6), (7, .int x1)]) [1, 2, 3, 4, 5, 6, 0] rfl ?_
        exact t_X5_over_B76 N o1 o2 hk1 hk2 kb hkb v4 v6 x1 μ_1
      · refine s_iload (pc := 72) 6 dX5_over_72 rfl ?_
        refine s_i2l (pc := 74) dX5_over_74 ?_
        exact s_lret (pc := 75) dX5_over_75 rfl
    · refine s_sub (lv' := [(0, .ref 132), (1, .ref o1), (2, .ref o2), (3, .ref 4), (4, .long v4), (6, .int v6), (7, .int x1)]) [1, 2, 3, 4, 5, 6, 0] rfl ?_
      exact t_X5_over_B76 N o1 o2 hk1 hk2 kb hkb v4 v6 x1 μ_1
  · refine s_lload (pc := 114) 4 dX5_over_114 rfl ?_
    exact s_lret (pc := 116) dX5_over_116 rfl
def f_X5_over_L30 (N : Nat) (o1 : Nat) (o2 : Nat) : Nat → Int64 → Int32 → z_S → Option (Int64 × z_S)
  | 0, _, _, _ => none
  | n + 1, v4, v6, μ => b_X5_over_L30 N o1 o2 (f_X5_over_L30 N o1 o2 n) v4 v6 μ
theorem t_X5_over_L30 (N : Nat) (o1 : Nat) (o2 : Nat) (hk1 : z_kw true o1 = (2, 0)) (hk2 : z_kw true o2 = (8, 0)) : ∀ (n : Nat) (v4 : Int64) (v6 : Int32) (μ : z_S), z_sim true rJ mX5_over 4 (f_X5_over_L30 N o1 o2 n v4 v6 μ) 30 [(0, .ref 132), (1, .ref o1), (2, .ref o2), (3, .ref 4), (4, .long v4), (6, .int v6)] [] μ
  | 0, _, _, _ => s_none
  | n + 1, v4, v6, μ => tb_X5_over_L30 N o1 o2 hk1 hk2 (f_X5_over_L30 N o1 o2 n) (t_X5_over_L30 N o1 o2 hk1 hk2 n) v4 v6 μ
def f_X5_over_B25 (N : Nat) (o1 : Nat) (o2 : Nat) (s0 : Int64) (μ : z_S) : Option (Int64 × z_S) :=
  f_X5_over_L30 N o1 o2 N s0 (0 : Int32) μ
theorem t_X5_over_B25 (N : Nat) (o1 : Nat) (o2 : Nat) (hk1 : z_kw true o1 = (2, 0)) (hk2 : z_kw true o2 = (8, 0))   (s0 : Int64)  (μ : z_S) : z_sim true rJ mX5_over 4 (f_X5_over_B25 N o1 o2  s0 μ) 25 [(0, .ref 132), (1, .ref o1), (2, .ref o2), (3, .ref 4)] [.long s0] μ := by
  unfold f_X5_over_B25
  refine s_lstore (pc := 25) (lv' := [(4, .long s0), (0, .ref 132), (1, .ref o1), (2, .ref o2), (3, .ref 4)]) dX5_over_25 (by decide) rfl ?_
  refine s_iconst (pc := 27) (v := (0 : Int32)) dX5_over_27 (by decide) ?_
  refine s_istore (pc := 28) (lv' := [(6, .int (0 : Int32)), (4, .long s0), (0, .ref 132), (1, .ref o1), (2, .ref o2), (3, .ref 4)]) dX5_over_28 (by decide) rfl ?_
  refine s_sub (lv' := [(0, .ref 132), (1, .ref o1), (2, .ref o2), (3, .ref 4), (4, .long s0), (6, .int (0 : Int32))]) [2, 3, 4, 5, 1, 0] rfl ?_
  refine t_X5_over_L30 N o1 o2 hk1 hk2 N s0 (0 : Int32) μ
def f_X5_over_B18 (N : Nat) (o1 : Nat) (o2 : Nat)  (μ : z_S) : Option (Int64 × z_S) :=
  f_X5_over_B25 N o1 o2 (-1 : Int64) μ
theorem t_X5_over_B18 (N : Nat) (o1 : Nat) (o2 : Nat) (hk1 : z_kw true o1 = (2, 0)) (hk2 : z_kw true o2 = (8, 0))     (μ : z_S) : z_sim true rJ mX5_over 4 (f_X5_over_B18 N o1 o2   μ) 18 [(0, .ref 132), (1, .ref o1), (2, .ref o2), (3, .ref 4)] [] μ := by
  unfold f_X5_over_B18
  refine s_ldc2 (pc := 18) (v := (-1 : Int64)) dX5_over_18 w_1269 ?_
  refine s_goto (pc := 21) (tgt := 25) dX5_over_21 (by decide) ?_
  exact t_X5_over_B25 N o1 o2 hk1 hk2 (-1 : Int64) μ
def f_X5_over (N : Nat) (o1 : Nat) (o2 : Nat) (μ : z_S) : Option (Int64 × z_S) :=
  z_ko true o1 2 <| z_ko true o2 8 <| if (μ.1 132 2) = (28 : Int32) then (f_X5_over_B18 N o1 o2 μ) else if (μ.1 132 2) = (29 : Int32) then (f_X5_over_B18 N o1 o2 μ) else f_X5_over_B25 N o1 o2 (0 : Int64) μ
theorem t_X5_over (N : Nat) (o1 : Nat) (o2 : Nat) (μ : z_S) : z_met true rJ mX5_over 4 [.ref 132, .ref o1, .ref o2, .ref 4] μ (f_X5_over N o1 o2 μ) := by
  refine z_met.of (by decide +kernel) (by show _ ≤ _; first | decide | exact Nat.le_of_ble_eq_true rfl) (lv := [(0, .ref 132), (1, .ref o1), (2, .ref o2), (3, .ref 4)]) rfl ?_
  unfold f_X5_over
  refine s_ko (fun hk1 => ?_)
  refine s_ko (fun hk2 => ?_)
  refine s_aload_n (pc := 0) 0 dX5_over_0 rfl rfl ?_
  refine s_getI (pc := 1) (ci := 5) (k := 2) dX5_over_1 fl_5_28 kd_132 rfl ?_
  refine s_bipush (pc := 4) (v := (28 : Int32)) dX5_over_4 (by decide) ?_
  refine s_icmp_eq (pc := 6) (tgt := 18) dX5_over_6 (by decide) ?_ ?_
  · exact t_X5_over_B18 N o1 o2 hk1 hk2 μ
  · refine s_aload_n (pc := 9) 0 dX5_over_9 rfl rfl ?_
    refine s_getI (pc := 10) (ci := 5) (k := 2) dX5_over_10 fl_5_28 kd_132 rfl ?_
    refine s_bipush (pc := 13) (v := (29 : Int32)) dX5_over_13 (by decide) ?_
    refine s_icmp_ne (pc := 15) (tgt := 24) dX5_over_15 (by decide) ?_ ?_
    · exact t_X5_over_B18 N o1 o2 hk1 hk2 μ
    · refine s_lconst (pc := 24) (v := (0 : Int64)) dX5_over_24 (by decide) ?_
      exact t_X5_over_B25 N o1 o2 hk1 hk2 (0 : Int64) μ
