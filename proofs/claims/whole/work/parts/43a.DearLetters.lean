def f_X11_refuseNumber (N : Nat) (a1 : Int32) (μ : z_S) : Option (Int32 × z_S) :=
  z_in a1 6 <| z_in a1 6 <| z_bd (z_setI μ 55 a1.toNatClampNeg ((μ.1 55 a1.toNatClampNeg) + (1 : Int32))) fun μ_1 => some ((-1 : Int32), μ_1)
theorem t_X11_refuseNumber (N : Nat) (a1 : Int32) (μ : z_S) : z_met true rI mX11_refuseNumber 0 [.ref 0, .int a1] μ (f_X11_refuseNumber N a1 μ) := by
  refine z_met.of (by decide +kernel) (by show _ ≤ _; first | decide | exact Nat.le_of_ble_eq_true rfl) (lv := [(0, .ref 0), (1, .int a1)]) rfl ?_
  unfold f_X11_refuseNumber
  refine s_aload_n (pc := 0) 0 dX11_refuseNumber_0 rfl rfl ?_
  refine s_getR (pc := 1) (ci := 11) (k := 13) (r := 55) dX11_refuseNumber_1 fl_11_70 kd_0 rfl rs_0_13 ?_
  refine s_iload_n (pc := 4) 1 dX11_refuseNumber_4 rfl rfl ?_
  refine s_dup2 (pc := 5) dX11_refuseNumber_5 rfl rfl ?_
  refine s_iald (pc := 6) dX11_refuseNumber_6 kd_55 ?_
  refine s_iconst (pc := 7) (v := (1 : Int32)) dX11_refuseNumber_7 (by decide) ?_
  refine s_iadd (pc := 8) dX11_refuseNumber_8 ?_
  refine s_iast (pc := 9) dX11_refuseNumber_9 kd_55 (fun μ_1 => ?_)
  refine s_iconst (pc := 10) (v := (-1 : Int32)) dX11_refuseNumber_10 (by decide) ?_
  exact s_iret (pc := 11) rfl dX11_refuseNumber_11 rfl
def f_X11_feed (N : Nat) (a1 : Int32) (a2 : Int32) (a3 : Int32) (a4 : Int32) (a5 : Int32) (μ : z_S) : Option (Int32 × z_S) :=
  if (1600 : Int32) < ((μ.1 1 1) + (20 : Int32)) then (z_bn (f_X11_refuseNumber N (0 : Int32) μ) fun x1 μ_1 => some (x1, μ_1)) else z_bn (f_X10_append N a1 μ) fun _ μ_2 => z_bn (f_X10_append N a2 μ_2) fun _ μ_3 => z_bn (f_X10_append N a3 μ_3) fun _ μ_4 => z_bn (f_X10_append N a4 μ_4) fun _ μ_5 => z_bn (f_X10_append N a5 μ_5) fun _ μ_6 => some ((μ_6.1 1 1), μ_6)
theorem t_X11_feed (N : Nat) (a1 : Int32) (a2 : Int32) (a3 : Int32) (a4 : Int32) (a5 : Int32) (μ : z_S) : z_met true rI mX11_feed 1 [.ref 0, .int a1, .int a2, .int a3, .int a4, .int a5] μ (f_X11_feed N a1 a2 a3 a4 a5 μ) := by
  refine z_met.of (by decide +kernel) (by show _ ≤ _; first | decide | exact Nat.le_of_ble_eq_true rfl) (lv := [(0, .ref 0), (1, .int a1), (2, .int a2), (3, .int a3), (4, .int a4), (5, .int a5)]) rfl ?_
  unfold f_X11_feed
  refine s_aload_n (pc := 0) 0 dX11_feed_0 rfl rfl ?_
  refine s_getR (pc := 1) (ci := 11) (k := 0) (r := 1) dX11_feed_1 fl_11_12 kd_0 rfl rs_0_0 ?_
  refine s_getI (pc := 4) (ci := 10) (k := 1) dX11_feed_4 fl_11_105 kd_1 rfl ?_
  refine s_bipush (pc := 7) (v := (20 : Int32)) dX11_feed_7 (by decide) ?_
  refine s_iadd (pc := 9) dX11_feed_9 ?_
  refine s_sipush (pc := 10) (v := (1600 : Int32)) dX11_feed_10 (by decide) ?_
  refine s_icmp_le (pc := 13) (tgt := 22) dX11_feed_13 (by decide) ?_ ?_
  · refine s_aload_n (pc := 16) 0 dX11_feed_16 rfl rfl ?_
    refine s_iconst (pc := 17) (v := (0 : Int32)) dX11_feed_17 (by decide) ?_
    refine s_callVI (pc := 18) (as := [.int (0 : Int32)]) (st := []) dX11_feed_18 lk_11_108 kd_0 (t_X11_refuseNumber N (0 : Int32) μ) (by omega) rfl (by decide) rfl (fun x1 μ_1 => ?_)
    exact s_iret (pc := 21) rfl dX11_feed_21 rfl
  · refine s_aload_n (pc := 22) 0 dX11_feed_22 rfl rfl ?_
    refine s_getR (pc := 23) (ci := 11) (k := 0) (r := 1) dX11_feed_23 fl_11_12 kd_0 rfl rs_0_0 ?_
    refine s_iload_n (pc := 26) 1 dX11_feed_26 rfl rfl ?_
    refine s_callVV (pc := 27) (as := [.int a1]) (st := []) dX11_feed_27 lk_11_112 kd_1 (t_X10_append N a1 μ) (by omega) rfl (by decide) rfl (fun _ μ_2 => ?_)
    refine s_aload_n (pc := 30) 0 dX11_feed_30 rfl rfl ?_
    refine s_getR (pc := 31) (ci := 11) (k := 0) (r := 1) dX11_feed_31 fl_11_12 kd_0 rfl rs_0_0 ?_
    refine s_iload_n (pc := 34) 2 dX11_feed_34 rfl rfl ?_
    refine s_callVV (pc := 35) (as := [.int a2]) (st := []) dX11_feed_35 lk_11_112 kd_1 (t_X10_append N a2 μ_2) (by omega) rfl (by decide) rfl (fun _ μ_3 => ?_)
    refine s_aload_n (pc := 38) 0 dX11_feed_38 rfl rfl ?_
    refine s_getR (pc := 39) (ci := 11) (k := 0) (r := 1) dX11_feed_39 fl_11_12 kd_0 rfl rs_0_0 ?_
    refine s_iload_n (pc := 42) 3 dX11_feed_42 rfl rfl ?_
    refine s_callVV (pc := 43) (as := [.int a3]) (st := []) dX11_feed_43 lk_11_112 kd_1 (t_X10_append N a3 μ_3) (by omega) rfl (by decide) rfl (fun _ μ_4 => ?_)
    refine s_aload_n (pc := 46) 0 dX11_feed_46 rfl rfl ?_
    refine s_getR (pc := 47) (ci := 11) (k := 0) (r := 1) dX11_feed_47 fl_11_12 kd_0 rfl rs_0_0 ?_
    refine s_iload (pc := 50) 4 dX11_feed_50 rfl ?_
    refine s_callVV (pc := 52) (as := [.int a4]) (st := []) dX11_feed_52 lk_11_112 kd_1 (t_X10_append N a4 μ_4) (by omega) rfl (by decide) rfl (fun _ μ_5 => ?_)
    refine s_aload_n (pc := 55) 0 dX11_feed_55 rfl rfl ?_
    refine s_getR (pc := 56) (ci := 11) (k := 0) (r := 1) dX11_feed_56 fl_11_12 kd_0 rfl rs_0_0 ?_
    refine s_iload (pc := 59) 5 dX11_feed_59 rfl ?_
    refine s_callVV (pc := 61) (as := [.int a5]) (st := []) dX11_feed_61 lk_11_112 kd_1 (t_X10_append N a5 μ_5) (by omega) rfl (by decide) rfl (fun _ μ_6 => ?_)
    refine s_aload_n (pc := 64) 0 dX11_feed_64 rfl rfl ?_
    refine s_getR (pc := 65) (ci := 11) (k := 0) (r := 1) dX11_feed_65 fl_11_12 kd_0 rfl rs_0_0 ?_
    refine s_getI (pc := 68) (ci := 10) (k := 1) dX11_feed_68 fl_11_105 kd_1 rfl ?_
    exact s_iret (pc := 71) rfl dX11_feed_71 rfl
def f_X11_refuse (N : Nat) (a1 : Int32) (μ : z_S) : Option (Int32 × z_S) :=
  z_in a1 6 <| z_in a1 6 <| z_bd (z_setI μ 55 a1.toNatClampNeg ((μ.1 55 a1.toNatClampNeg) + (1 : Int32))) fun μ_1 => some ((0 : Int32), μ_1)
theorem t_X11_refuse (N : Nat) (a1 : Int32) (μ : z_S) : z_met true rI mX11_refuse 0 [.ref 0, .int a1] μ (f_X11_refuse N a1 μ) := by
  refine z_met.of (by decide +kernel) (by show _ ≤ _; first | decide | exact Nat.le_of_ble_eq_true rfl) (lv := [(0, .ref 0), (1, .int a1)]) rfl ?_
  unfold f_X11_refuse
  refine s_aload_n (pc := 0) 0 dX11_refuse_0 rfl rfl ?_
  refine s_getR (pc := 1) (ci := 11) (k := 13) (r := 55) dX11_refuse_1 fl_11_70 kd_0 rfl rs_0_13 ?_
  refine s_iload_n (pc := 4) 1 dX11_refuse_4 rfl rfl ?_
  refine s_dup2 (pc := 5) dX11_refuse_5 rfl rfl ?_
  refine s_iald (pc := 6) dX11_refuse_6 kd_55 ?_
  refine s_iconst (pc := 7) (v := (1 : Int32)) dX11_refuse_7 (by decide) ?_
  refine s_iadd (pc := 8) dX11_refuse_8 ?_
  refine s_iast (pc := 9) dX11_refuse_9 kd_55 (fun μ_1 => ?_)
  refine s_iconst (pc := 10) (v := (0 : Int32)) dX11_refuse_10 (by decide) ?_
  exact s_zret0 (pc := 11) dX11_refuse_11 rfl rfl
def f_X11_end_B15 (N : Nat)   (μ : z_S) : Option (Int32 × z_S) :=
  z_bn (f_X11_refuse N (0 : Int32) μ) fun x1 μ_1 => z_zb x1 (some (x1, μ_1))
theorem t_X11_end_B15 (N : Nat)       (μ : z_S) : z_sim true rI mX11_end 1 (f_X11_end_B15 N    μ) 15 [(0, .ref 0)] [] μ := by
  unfold f_X11_end_B15
  refine s_aload_n (pc := 15) 0 dX11_end_15 rfl rfl ?_
  refine s_iconst (pc := 16) (v := (0 : Int32)) dX11_end_16 (by decide) ?_
  refine s_callVI (pc := 17) (as := [.int (0 : Int32)]) (st := []) dX11_end_17 lk_11_116 kd_0 (t_X11_refuse N (0 : Int32) μ) (by omega) rfl (by decide) rfl (fun x1 μ_1 => ?_)
  exact s_zret (pc := 20) dX11_end_20 rfl
def f_X11_end (N : Nat) (a1 : Int32) (μ : z_S) : Option (Int32 × z_S) :=
  if a1 < 0 then (f_X11_end_B15 N μ) else if (μ.1 1 1) < a1 then (f_X11_end_B15 N μ) else z_bd (z_setI μ 1 1 a1) fun μ_2 => some ((1 : Int32), μ_2)
theorem t_X11_end (N : Nat) (a1 : Int32) (μ : z_S) : z_met true rI mX11_end 1 [.ref 0, .int a1] μ (f_X11_end N a1 μ) := by
  refine z_met.of (by decide +kernel) (by show _ ≤ _; first | decide | exact Nat.le_of_ble_eq_true rfl) (lv := [(0, .ref 0), (1, .int a1)]) rfl ?_
  unfold f_X11_end
  refine s_iload_n (pc := 0) 1 dX11_end_0 rfl rfl ?_
  refine s_if_lt (pc := 1) (tgt := 15) dX11_end_1 (by decide) ?_ ?_
  · refine s_sub (lv' := [(0, .ref 0)]) [0] rfl ?_
    exact t_X11_end_B15 N μ
  · refine s_iload_n (pc := 4) 1 dX11_end_4 rfl rfl ?_
    refine s_aload_n (pc := 5) 0 dX11_end_5 rfl rfl ?_
    refine s_getR (pc := 6) (ci := 11) (k := 0) (r := 1) dX11_end_6 fl_11_12 kd_0 rfl rs_0_0 ?_
    refine s_getI (pc := 9) (ci := 10) (k := 1) dX11_end_9 fl_11_105 kd_1 rfl ?_
    refine s_icmp_le (pc := 12) (tgt := 21) dX11_end_12 (by decide) ?_ ?_
    · refine s_sub (lv' := [(0, .ref 0)]) [0] rfl ?_
      exact t_X11_end_B15 N μ
    · refine s_aload_n (pc := 21) 0 dX11_end_21 rfl rfl ?_
      refine s_getR (pc := 22) (ci := 11) (k := 0) (r := 1) dX11_end_22 fl_11_12 kd_0 rfl rs_0_0 ?_
      refine s_iload_n (pc := 25) 1 dX11_end_25 rfl rfl ?_
      refine s_putI (pc := 26) (ci := 10) (k := 1) dX11_end_26 fl_11_105 kd_1 rfl rfl (fun μ_2 => ?_)
      refine s_iconst (pc := 29) (v := (1 : Int32)) dX11_end_29 (by decide) ?_
      exact s_zret0 (pc := 30) dX11_end_30 rfl rfl
def f_X11_heap (N : Nat) (μ : z_S) : Option (Int32 × z_S) :=
  z_bn (f_X3_read N μ) fun x1 μ_1 => z_bd (z_setI μ_1 1 1 (0 : Int32)) fun μ_2 => if x1 = 0 then (z_bn (f_X11_refuseNumber N (1 : Int32) μ_2) fun x2 μ_3 => some (x2, μ_3)) else z_bd (z_setC μ_2 μ_2.2.2.2) fun μ_4 => z_bd (z_setH μ_4 μ_2.2.2.1) fun μ_5 => z_bn (f_X8_begin N 39 (z_hn μ_5.2.2.1) μ_5) fun _ μ_6 => z_bd (z_setI μ_6 0 17 (0 : Int32)) fun μ_7 => z_bd (z_setI μ_7 0 15 (0 : Int32)) fun μ_8 => some ((μ_8.1 95 3), μ_8)
theorem t_X11_heap (N : Nat) (μ : z_S) : z_met true rI mX11_heap 52 [.ref 0] μ (f_X11_heap N μ) := by
  refine z_met.of (by decide +kernel) (by show _ ≤ _; first | decide | exact Nat.le_of_ble_eq_true rfl) (lv := [(0, .ref 0)]) rfl ?_
  unfold f_X11_heap
  refine s_aload_n (pc := 0) 0 dX11_heap_0 rfl rfl ?_
  refine s_getR (pc := 1) (ci := 11) (k := 1) (r := 95) dX11_heap_1 fl_11_94 kd_0 rfl rs_0_1 ?_
  refine s_callVI (pc := 4) (as := []) (st := []) dX11_heap_4 lk_11_120 kd_95 (t_X3_read N μ) (by omega) rfl (by decide) rfl (fun x1 μ_1 => ?_)
  refine s_istore_n (pc := 7) (lv' := [(1, .int x1), (0, .ref 0)]) dX11_heap_7 rfl (by decide) rfl ?_
  refine s_aload_n (pc := 8) 1 dX11_heap_8 rfl rfl ?_
  refine s_getR (pc := 9) (ci := 11) (k := 0) (r := 1) dX11_heap_9 fl_11_12 kd_0 rfl rs_0_0 ?_
  refine s_iconst (pc := 12) (v := (0 : Int32)) dX11_heap_12 (by decide) ?_
  refine s_putI (pc := 13) (ci := 10) (k := 1) dX11_heap_13 fl_11_105 kd_1 rfl rfl (fun μ_2 => ?_)
  refine s_iload_n (pc := 16) 0 dX11_heap_16 rfl rfl ?_
  refine s_if_ne (pc := 17) (tgt := 26) dX11_heap_17 (by decide) ?_ ?_
  · refine s_aload_n (pc := 20) 1 dX11_heap_20 rfl rfl ?_
    refine s_iconst (pc := 21) (v := (1 : Int32)) dX11_heap_21 (by decide) ?_
    refine s_callVI (pc := 22) (as := [.int (1 : Int32)]) (st := []) dX11_heap_22 lk_11_108 kd_0 (t_X11_refuseNumber N (1 : Int32) μ_2) (by omega) rfl (by decide) rfl (fun x2 μ_3 => ?_)
    exact s_iret (pc := 25) rfl dX11_heap_25 rfl
  · refine s_aload_n (pc := 26) 1 dX11_heap_26 rfl rfl ?_
    refine s_getC (pc := 27) dX11_heap_27 fl_11_76 ?_
    refine s_astore_n (pc := 30) (lv' := [(2, .ref (z_hn μ_2.2.2.1)), (1, .int x1), (0, .ref 0)]) dX11_heap_30 rfl (by decide) rfl ?_
    refine s_aload_n (pc := 31) 2 dX11_heap_31 rfl rfl ?_
    refine s_aload_n (pc := 32) 2 dX11_heap_32 rfl rfl ?_
    refine s_getR (pc := 33) (ci := 11) (k := 1) (r := 95) dX11_heap_33 fl_11_94 kd_0 rfl rs_0_1 ?_
    refine s_getH (pc := 36) dX11_heap_36 fl_11_124 ?_
    refine s_putC (pc := 39) dX11_heap_39 fl_11_76 (fun μ_4 => ?_)
    refine s_aload_n (pc := 42) 2 dX11_heap_42 rfl rfl ?_
    refine s_getR (pc := 43) (ci := 11) (k := 1) (r := 95) dX11_heap_43 fl_11_94 kd_0 rfl rs_0_1 ?_
    refine s_aload_n (pc := 46) 0 dX11_heap_46 rfl rfl ?_
    refine s_putH (pc := 47) dX11_heap_47 fl_11_124 (fun μ_5 => ?_)
    refine s_aload_n (pc := 50) 2 dX11_heap_50 rfl rfl ?_
    refine s_getR (pc := 51) (ci := 11) (k := 7) (r := 39) dX11_heap_51 fl_11_49 kd_0 rfl rs_0_7 ?_
    refine s_aload_n (pc := 54) 2 dX11_heap_54 rfl rfl ?_
    refine s_getC (pc := 55) dX11_heap_55 fl_11_76 ?_
    refine s_callVV (pc := 58) (as := [.ref (z_hn μ_5.2.2.1)]) (st := []) dX11_heap_58 lk_11_127 kd_39 (t_X8_begin N 39 (z_hn μ_5.2.2.1) μ_5) (by omega) rfl (by decide) rfl (fun _ μ_6 => ?_)
    refine s_aload_n (pc := 61) 2 dX11_heap_61 rfl rfl ?_
    refine s_iconst (pc := 62) (v := (0 : Int32)) dX11_heap_62 (by decide) ?_
    refine s_putI (pc := 63) (ci := 11) (k := 17) dX11_heap_63 fl_11_131 kd_0 rfl rfl (fun μ_7 => ?_)
    refine s_aload_n (pc := 66) 2 dX11_heap_66 rfl rfl ?_
    refine s_iconst (pc := 67) (v := (0 : Int32)) dX11_heap_67 (by decide) ?_
    refine s_putI (pc := 68) (ci := 11) (k := 15) dX11_heap_68 fl_11_134 kd_0 rfl rfl (fun μ_8 => ?_)
    refine s_aload_n (pc := 71) 2 dX11_heap_71 rfl rfl ?_
    refine s_getR (pc := 72) (ci := 11) (k := 1) (r := 95) dX11_heap_72 fl_11_94 kd_0 rfl rs_0_1 ?_
    refine s_getI (pc := 75) (ci := 3) (k := 3) dX11_heap_75 fl_11_137 kd_95 rfl ?_
    exact s_iret (pc := 78) rfl dX11_heap_78 rfl
def f_X11_fault (N : Nat) (a1 : Int32) (μ : z_S) : Option (Int32 × z_S) :=
  if a1 = 0 then (some ((μ.1 1 2), μ)) else if a1 = (1 : Int32) then (some ((μ.1 1 3), μ)) else some ((-1 : Int32), μ)
theorem t_X11_fault (N : Nat) (a1 : Int32) (μ : z_S) : z_met true rI mX11_fault 0 [.ref 0, .int a1] μ (f_X11_fault N a1 μ) := by
  refine z_met.of (by decide +kernel) (by show _ ≤ _; first | decide | exact Nat.le_of_ble_eq_true rfl) (lv := [(0, .ref 0), (1, .int a1)]) rfl ?_
  unfold f_X11_fault
  refine s_iload_n (pc := 0) 1 dX11_fault_0 rfl rfl ?_
  refine s_if_ne (pc := 1) (tgt := 12) dX11_fault_1 (by decide) ?_ ?_
  · refine s_aload_n (pc := 4) 0 dX11_fault_4 rfl rfl ?_
    refine s_getR (pc := 5) (ci := 11) (k := 0) (r := 1) dX11_fault_5 fl_11_12 kd_0 rfl rs_0_0 ?_
    refine s_getI (pc := 8) (ci := 10) (k := 2) dX11_fault_8 fl_11_140 kd_1 rfl ?_
    exact s_iret (pc := 11) rfl dX11_fault_11 rfl
  · refine s_iload_n (pc := 12) 1 dX11_fault_12 rfl rfl ?_
    refine s_iconst (pc := 13) (v := (1 : Int32)) dX11_fault_13 (by decide) ?_
    refine s_icmp_ne (pc := 14) (tgt := 27) dX11_fault_14 (by decide) ?_ ?_
    · refine s_aload_n (pc := 17) 0 dX11_fault_17 rfl rfl ?_
      refine s_getR (pc := 18) (ci := 11) (k := 0) (r := 1) dX11_fault_18 fl_11_12 kd_0 rfl rs_0_0 ?_
      refine s_getI (pc := 21) (ci := 10) (k := 3) dX11_fault_21 fl_11_143 kd_1 rfl ?_
      refine s_goto (pc := 24) (tgt := 28) dX11_fault_24 (by decide) ?_
      exact s_iret (pc := 28) rfl dX11_fault_28 rfl
    · refine s_iconst (pc := 27) (v := (-1 : Int32)) dX11_fault_27 (by decide) ?_
      exact s_iret (pc := 28) rfl dX11_fault_28 rfl
def f_X11_has_B64 (N : Nat)  (v1 : Int32) (μ : z_S) : Option (Int32 × z_S) :=
  z_in v1 10 <| some ((μ.1 ((z_hn μ.2.2.1) + 1) v1.toNatClampNeg), μ)
theorem t_X11_has_B64 (N : Nat)     (v1 : Int32)  (μ : z_S) : z_sim true rI mX11_has 2 (f_X11_has_B64 N   v1 μ) 64 [(0, .ref 0), (1, .int v1)] [] μ := by
  unfold f_X11_has_B64
  refine s_aload_n (pc := 64) 0 dX11_has_64 rfl rfl ?_
  refine s_getC (pc := 65) dX11_has_65 fl_11_76 ?_
  refine s_getR (pc := 68) (ci := 2) (k := 0) (r := ((z_hn μ.2.2.1) + 1)) dX11_has_68 fl_11_146 (z_hn_k μ.2.2.1) rfl (gr_2_0_0 (z_hn_k μ.2.2.1)) ?_
  refine s_iload_n (pc := 71) 1 dX11_has_71 rfl rfl ?_
  refine s_iald (pc := 72) dX11_has_72 (gk_2_1 (z_hn_k μ.2.2.1)) ?_
  exact s_iret (pc := 73) rfl dX11_has_73 rfl
def f_X11_has (N : Nat) (a1 : Int32) (μ : z_S) : Option (Int32 × z_S) :=
  z_bd a1 fun x1 => if x1 = 0 then (f_X11_has_B64 N a1 μ) else if x1 = 1 then (f_X11_has_B64 N a1 μ) else if x1 = 2 then (f_X11_has_B64 N a1 μ) else if x1 = 3 then (f_X11_has_B64 N a1 μ) else if x1 = 4 then (f_X11_has_B64 N a1 μ) else if x1 = 5 then (some ((μ.1 39 0), μ)) else if x1 = 6 then (z_bn (f_X8_countDone N 39 μ) fun x2 μ_1 => some (x2, μ_1)) else if x1 = 7 then (z_bn (f_X8_countSheets N 39 μ) fun x3 μ_2 => some (x3, μ_2)) else if x1 = 8 then (z_bn (f_X8_countGiven N 39 μ) fun x4 μ_3 => some (x4, μ_3)) else if x1 = 9 then (z_bn (f_X8_countLeft N 39 μ) fun x5 μ_4 => some (x5, μ_4)) else if x1 = 10 then (some ((μ.1 0 15), μ)) else if x1 = 11 then (some ((μ.1 0 17), μ)) else some ((-1 : Int32), μ)
theorem t_X11_has (N : Nat) (a1 : Int32) (μ : z_S) : z_met true rI mX11_has 2 [.ref 0, .int a1] μ (f_X11_has N a1 μ) := by
  refine z_met.of (by decide +kernel) (by show _ ≤ _; first | decide | exact Nat.le_of_ble_eq_true rfl) (lv := [(0, .ref 0), (1, .int a1)]) rfl ?_
  unfold f_X11_has
  refine s_iload_n (pc := 0) 1 dX11_has_0 rfl rfl ?_
  refine s_letI (fun x1 => ?_)
  refine s_ite (fun hs1 => ?_) (fun hs1 => ?_)
  · subst hs1
    refine s_tswIn (pc := 1) (tgt := 64) dX11_has_1 (by decide) (by decide) rfl (by decide) ?_
    exact t_X11_has_B64 N a1 μ
  refine s_ite (fun hs2 => ?_) (fun hs2 => ?_)
  · subst hs2
    refine s_tswIn (pc := 1) (tgt := 64) dX11_has_1 (by decide) (by decide) rfl (by decide) ?_
    exact t_X11_has_B64 N a1 μ
  refine s_ite (fun hs3 => ?_) (fun hs3 => ?_)
  · subst hs3
    refine s_tswIn (pc := 1) (tgt := 64) dX11_has_1 (by decide) (by decide) rfl (by decide) ?_
    exact t_X11_has_B64 N a1 μ
  refine s_ite (fun hs4 => ?_) (fun hs4 => ?_)
  · subst hs4
    refine s_tswIn (pc := 1) (tgt := 64) dX11_has_1 (by decide) (by decide) rfl (by decide) ?_
    exact t_X11_has_B64 N a1 μ
  refine s_ite (fun hs5 => ?_) (fun hs5 => ?_)
  · subst hs5
    refine s_tswIn (pc := 1) (tgt := 64) dX11_has_1 (by decide) (by decide) rfl (by decide) ?_
    exact t_X11_has_B64 N a1 μ
  refine s_ite (fun hs6 => ?_) (fun hs6 => ?_)
  · subst hs6
    refine s_tswIn (pc := 1) (tgt := 74) dX11_has_1 (by decide) (by decide) rfl (by decide) ?_
    refine s_aload_n (pc := 74) 0 dX11_has_74 rfl rfl ?_
    refine s_getR (pc := 75) (ci := 11) (k := 7) (r := 39) dX11_has_75 fl_11_49 kd_0 rfl rs_0_7 ?_
    refine s_getI (pc := 78) (ci := 8) (k := 0) dX11_has_78 fl_11_149 kd_39 rfl ?_
    exact s_iret (pc := 81) rfl dX11_has_81 rfl
  refine s_ite (fun hs7 => ?_) (fun hs7 => ?_)
  · subst hs7
    refine s_tswIn (pc := 1) (tgt := 82) dX11_has_1 (by decide) (by decide) rfl (by decide) ?_
    refine s_aload_n (pc := 82) 0 dX11_has_82 rfl rfl ?_
    refine s_getR (pc := 83) (ci := 11) (k := 7) (r := 39) dX11_has_83 fl_11_49 kd_0 rfl rs_0_7 ?_
    refine s_callVI (pc := 86) (as := []) (st := []) dX11_has_86 lk_11_152 kd_39 (t_X8_countDone N 39 μ) (by omega) rfl (by decide) rfl (fun x2 μ_1 => ?_)
    exact s_iret (pc := 89) rfl dX11_has_89 rfl
  refine s_ite (fun hs8 => ?_) (fun hs8 => ?_)
  · subst hs8
    refine s_tswIn (pc := 1) (tgt := 90) dX11_has_1 (by decide) (by decide) rfl (by decide) ?_
    refine s_aload_n (pc := 90) 0 dX11_has_90 rfl rfl ?_
    refine s_getR (pc := 91) (ci := 11) (k := 7) (r := 39) dX11_has_91 fl_11_49 kd_0 rfl rs_0_7 ?_
    refine s_callVI (pc := 94) (as := []) (st := []) dX11_has_94 lk_11_156 kd_39 (t_X8_countSheets N 39 μ) (by omega) rfl (by decide) rfl (fun x3 μ_2 => ?_)
    exact s_iret (pc := 97) rfl dX11_has_97 rfl
  refine s_ite (fun hs9 => ?_) (fun hs9 => ?_)
  · subst hs9
    refine s_tswIn (pc := 1) (tgt := 98) dX11_has_1 (by decide) (by decide) rfl (by decide) ?_
    refine s_aload_n (pc := 98) 0 dX11_has_98 rfl rfl ?_
    refine s_getR (pc := 99) (ci := 11) (k := 7) (r := 39) dX11_has_99 fl_11_49 kd_0 rfl rs_0_7 ?_
    refine s_callVI (pc := 102) (as := []) (st := []) dX11_has_102 lk_11_159 kd_39 (t_X8_countGiven N 39 μ) (by omega) rfl (by decide) rfl (fun x4 μ_3 => ?_)
    exact s_iret (pc := 105) rfl dX11_has_105 rfl
  refine s_ite (fun hs10 => ?_) (fun hs10 => ?_)
  · subst hs10
    refine s_tswIn (pc := 1) (tgt := 106) dX11_has_1 (by decide) (by decide) rfl (by decide) ?_
    refine s_aload_n (pc := 106) 0 dX11_has_106 rfl rfl ?_
    refine s_getR (pc := 107) (ci := 11) (k := 7) (r := 39) dX11_has_107 fl_11_49 kd_0 rfl rs_0_7 ?_
    refine s_callVI (pc := 110) (as := []) (st := []) dX11_has_110 lk_11_162 kd_39 (t_X8_countLeft N 39 μ) (by omega) rfl (by decide) rfl (fun x5 μ_4 => ?_)
    exact s_iret (pc := 113) rfl dX11_has_113 rfl
  refine s_ite (fun hs11 => ?_) (fun hs11 => ?_)
  · subst hs11
    refine s_tswIn (pc := 1) (tgt := 114) dX11_has_1 (by decide) (by decide) rfl (by decide) ?_
    refine s_aload_n (pc := 114) 0 dX11_has_114 rfl rfl ?_
    refine s_getI (pc := 115) (ci := 11) (k := 15) dX11_has_115 fl_11_134 kd_0 rfl ?_
    exact s_iret (pc := 118) rfl dX11_has_118 rfl
  refine s_ite (fun hs12 => ?_) (fun hs12 => ?_)
  · subst hs12
    refine s_tswIn (pc := 1) (tgt := 119) dX11_has_1 (by decide) (by decide) rfl (by decide) ?_
    refine s_aload_n (pc := 119) 0 dX11_has_119 rfl rfl ?_
    refine s_getI (pc := 120) (ci := 11) (k := 17) dX11_has_120 fl_11_131 kd_0 rfl ?_
    exact s_iret (pc := 123) rfl dX11_has_123 rfl
  · have q_hs1 := lv_neT (a := 0) hs1 (by decide)
    have q_hs2 := lv_neT (a := 1) hs2 (by decide)
    have q_hs3 := lv_neT (a := 2) hs3 (by decide)
    have q_hs4 := lv_neT (a := 3) hs4 (by decide)
    have q_hs5 := lv_neT (a := 4) hs5 (by decide)
    have q_hs6 := lv_neT (a := 5) hs6 (by decide)
    have q_hs7 := lv_neT (a := 6) hs7 (by decide)
    have q_hs8 := lv_neT (a := 7) hs8 (by decide)
    have q_hs9 := lv_neT (a := 8) hs9 (by decide)
    have q_hs10 := lv_neT (a := 9) hs10 (by decide)
    have q_hs11 := lv_neT (a := 10) hs11 (by decide)
    have q_hs12 := lv_neT (a := 11) hs12 (by decide)
    refine s_tswOut (pc := 1) (tgt := 124) dX11_has_1 (by omega) (by decide) ?_
    refine s_iconst (pc := 124) (v := (-1 : Int32)) dX11_has_124 (by decide) ?_
    exact s_iret (pc := 125) rfl dX11_has_125 rfl
def f_X11_letter (N : Nat) (a1 : Int32) (a2 : Int32) (a3 : Int32) (μ : z_S) : Option (Int32 × z_S) :=
  if a1 < 0 then (some ((-1 : Int32), μ)) else if a1 < (3 : Int32) then (if a2 < 0 then (some ((-1 : Int32), μ)) else z_in a1 10 <| if a2 < (μ.1 ((z_hn μ.2.2.1) + 1) a1.toNatClampNeg) then (if a3 < 0 then (some ((-1 : Int32), μ)) else if a3 < (6 : Int32) then (z_in a1 3 <| z_in a2 8 <| some ((((μ.1 ((z_hn μ.2.2.1) + 3 + a1.toNatClampNeg) a2.toNatClampNeg) >>> (((5 : Int32) * ((5 : Int32) - a3)) &&& 31)) &&& (31 : Int32)), μ)) else some ((-1 : Int32), μ)) else some ((-1 : Int32), μ)) else some ((-1 : Int32), μ)
theorem t_X11_letter (N : Nat) (a1 : Int32) (a2 : Int32) (a3 : Int32) (μ : z_S) : z_met true rI mX11_letter 0 [.ref 0, .int a1, .int a2, .int a3] μ (f_X11_letter N a1 a2 a3 μ) := by
  refine z_met.of (by decide +kernel) (by show _ ≤ _; first | decide | exact Nat.le_of_ble_eq_true rfl) (lv := [(0, .ref 0), (1, .int a1), (2, .int a2), (3, .int a3)]) rfl ?_
  unfold f_X11_letter
  refine s_iload_n (pc := 0) 1 dX11_letter_0 rfl rfl ?_
  refine s_if_lt (pc := 1) (tgt := 26) dX11_letter_1 (by decide) ?_ ?_
  · refine s_iconst (pc := 26) (v := (-1 : Int32)) dX11_letter_26 (by decide) ?_
    exact s_iret (pc := 27) rfl dX11_letter_27 rfl
  · refine s_iload_n (pc := 4) 1 dX11_letter_4 rfl rfl ?_
    refine s_iconst (pc := 5) (v := (3 : Int32)) dX11_letter_5 (by decide) ?_
    refine s_icmp_ge (pc := 6) (tgt := 26) dX11_letter_6 (by decide) ?_ ?_
    · refine s_iload_n (pc := 9) 2 dX11_letter_9 rfl rfl ?_
      refine s_if_lt (pc := 10) (tgt := 26) dX11_letter_10 (by decide) ?_ ?_
      · refine s_iconst (pc := 26) (v := (-1 : Int32)) dX11_letter_26 (by decide) ?_
        exact s_iret (pc := 27) rfl dX11_letter_27 rfl
      · refine s_iload_n (pc := 13) 2 dX11_letter_13 rfl rfl ?_
        refine s_aload_n (pc := 14) 0 dX11_letter_14 rfl rfl ?_
        refine s_getC (pc := 15) dX11_letter_15 fl_11_76 ?_
        refine s_getR (pc := 18) (ci := 2) (k := 0) (r := ((z_hn μ.2.2.1) + 1)) dX11_letter_18 fl_11_146 (z_hn_k μ.2.2.1) rfl (gr_2_0_0 (z_hn_k μ.2.2.1)) ?_
        refine s_iload_n (pc := 21) 1 dX11_letter_21 rfl rfl ?_
        refine s_iald (pc := 22) dX11_letter_22 (gk_2_1 (z_hn_k μ.2.2.1)) ?_
        refine s_icmp_lt (pc := 23) (tgt := 28) dX11_letter_23 (by decide) ?_ ?_
        · refine s_iload_n (pc := 28) 3 dX11_letter_28 rfl rfl ?_
          refine s_if_lt (pc := 29) (tgt := 38) dX11_letter_29 (by decide) ?_ ?_
          · refine s_iconst (pc := 38) (v := (-1 : Int32)) dX11_letter_38 (by decide) ?_
            exact s_iret (pc := 39) rfl dX11_letter_39 rfl
          · refine s_iload_n (pc := 32) 3 dX11_letter_32 rfl rfl ?_
            refine s_bipush (pc := 33) (v := (6 : Int32)) dX11_letter_33 (by decide) ?_
            refine s_icmp_lt (pc := 35) (tgt := 40) dX11_letter_35 (by decide) ?_ ?_
            · refine s_aload_n (pc := 40) 0 dX11_letter_40 rfl rfl ?_
              refine s_getC (pc := 41) dX11_letter_41 fl_11_76 ?_
              refine s_getR (pc := 44) (ci := 2) (k := 1) (r := ((z_hn μ.2.2.1) + 2)) dX11_letter_44 fl_11_165 (z_hn_k μ.2.2.1) rfl (gr_2_0_1 (z_hn_k μ.2.2.1)) ?_
              refine s_iload_n (pc := 47) 1 dX11_letter_47 rfl rfl ?_
              refine s_aald (pc := 48) (r := ((z_hn μ.2.2.1) + 3 + a1.toNatClampNeg)) dX11_letter_48 (gk_2_2 (z_hn_k μ.2.2.1)) (by decide) (by decide) (fun hi => ga_2_2 (z_hn_k μ.2.2.1) hi) (fun hi1 => ?_)
              refine s_iload_n (pc := 49) 2 dX11_letter_49 rfl rfl ?_
              refine s_iald (pc := 50) dX11_letter_50 (gb_2_2 (z_hn_k μ.2.2.1) hi1) ?_
              refine s_iconst (pc := 51) (v := (5 : Int32)) dX11_letter_51 (by decide) ?_
              refine s_iconst (pc := 52) (v := (5 : Int32)) dX11_letter_52 (by decide) ?_
              refine s_iload_n (pc := 53) 3 dX11_letter_53 rfl rfl ?_
              refine s_isub (pc := 54) dX11_letter_54 ?_
              refine s_imul (pc := 55) dX11_letter_55 ?_
              refine s_ishr (pc := 56) dX11_letter_56 ?_
              refine s_bipush (pc := 57) (v := (31 : Int32)) dX11_letter_57 (by decide) ?_
              refine s_iand (pc := 59) dX11_letter_59 ?_
              exact s_iret (pc := 60) rfl dX11_letter_60 rfl
            · refine s_iconst (pc := 38) (v := (-1 : Int32)) dX11_letter_38 (by decide) ?_
              exact s_iret (pc := 39) rfl dX11_letter_39 rfl
        · refine s_iconst (pc := 26) (v := (-1 : Int32)) dX11_letter_26 (by decide) ?_
          exact s_iret (pc := 27) rfl dX11_letter_27 rfl
    · refine s_iconst (pc := 26) (v := (-1 : Int32)) dX11_letter_26 (by decide) ?_
      exact s_iret (pc := 27) rfl dX11_letter_27 rfl
def f_X11_isLetter (N : Nat) (a1 : Int32) (μ : z_S) : Option (Int32 × z_S) :=
  if a1 < 0 then (some ((0 : Int32), μ)) else if a1 < (μ.1 ((z_hn μ.2.2.1) + 1) 0) then (some ((1 : Int32), μ)) else some ((0 : Int32), μ)
theorem t_X11_isLetter (N : Nat) (a1 : Int32) (μ : z_S) : z_met true rI mX11_isLetter 0 [.ref 0, .int a1] μ (f_X11_isLetter N a1 μ) := by
  refine z_met.of (by decide +kernel) (by show _ ≤ _; first | decide | exact Nat.le_of_ble_eq_true rfl) (lv := [(0, .ref 0), (1, .int a1)]) rfl ?_
  unfold f_X11_isLetter
  refine s_iload_n (pc := 0) 1 dX11_isLetter_0 rfl rfl ?_
  refine s_if_lt (pc := 1) (tgt := 21) dX11_isLetter_1 (by decide) ?_ ?_
  · refine s_iconst (pc := 21) (v := (0 : Int32)) dX11_isLetter_21 (by decide) ?_
    exact s_zret0 (pc := 22) dX11_isLetter_22 rfl rfl
  · refine s_iload_n (pc := 4) 1 dX11_isLetter_4 rfl rfl ?_
    refine s_aload_n (pc := 5) 0 dX11_isLetter_5 rfl rfl ?_
    refine s_getC (pc := 6) dX11_isLetter_6 fl_11_76 ?_
    refine s_getR (pc := 9) (ci := 2) (k := 0) (r := ((z_hn μ.2.2.1) + 1)) dX11_isLetter_9 fl_11_146 (z_hn_k μ.2.2.1) rfl (gr_2_0_0 (z_hn_k μ.2.2.1)) ?_
    refine s_iconst (pc := 12) (v := (0 : Int32)) dX11_isLetter_12 (by decide) ?_
    refine s_ialdK (pc := 13) (k := 0) dX11_isLetter_13 (gk_2_1 (z_hn_k μ.2.2.1)) (by decide) (by decide) (by decide) ?_
    refine s_icmp_ge (pc := 14) (tgt := 21) dX11_isLetter_14 (by decide) ?_ ?_
    · refine s_iconst (pc := 17) (v := (1 : Int32)) dX11_isLetter_17 (by decide) ?_
      refine s_goto (pc := 18) (tgt := 22) dX11_isLetter_18 (by decide) ?_
      exact s_zret0 (pc := 22) dX11_isLetter_22 rfl rfl
    · refine s_iconst (pc := 21) (v := (0 : Int32)) dX11_isLetter_21 (by decide) ?_
      exact s_zret0 (pc := 22) dX11_isLetter_22 rfl rfl
def f_X11_mail (N : Nat) (a1 : Int32) (a2 : Int32) (μ : z_S) : Option (Int32 × z_S) :=
  z_bn (f_X11_isLetter N a1 μ) fun x1 μ_1 => if x1 = 0 then (some ((-1 : Int32), μ_1)) else z_bd a2 fun x2 => if x2 = 0 then (z_in a1 8 <| some ((μ_1.1 ((z_hn μ_1.2.2.1) + 6) a1.toNatClampNeg), μ_1)) else if x2 = 1 then (z_in a1 8 <| some ((μ_1.1 ((z_hn μ_1.2.2.1) + 7) a1.toNatClampNeg), μ_1)) else if x2 = 2 then (z_in a1 8 <| some ((μ_1.1 ((z_hn μ_1.2.2.1) + 8) a1.toNatClampNeg), μ_1)) else if x2 = 3 then (z_in a1 8 <| some ((μ_1.1 42 a1.toNatClampNeg), μ_1)) else if x2 = 4 then (z_in a1 8 <| some ((μ_1.1 43 a1.toNatClampNeg), μ_1)) else if x2 = 5 then (z_in a1 8 <| some ((μ_1.1 44 a1.toNatClampNeg), μ_1)) else if x2 = 6 then (z_bn (f_X2_allWishes N (z_hn μ_1.2.2.1) a1 μ_1) fun x3 μ_2 => some (x3, μ_2)) else if x2 = 7 then (z_in a1 8 <| some ((μ_1.1 ((z_hn μ_1.2.2.1) + 9) a1.toNatClampNeg), μ_1)) else some ((-1 : Int32), μ_1)
theorem t_X11_mail (N : Nat) (a1 : Int32) (a2 : Int32) (μ : z_S) : z_met true rI mX11_mail 1 [.ref 0, .int a1, .int a2] μ (f_X11_mail N a1 a2 μ) := by
  refine z_met.of (by decide +kernel) (by show _ ≤ _; first | decide | exact Nat.le_of_ble_eq_true rfl) (lv := [(0, .ref 0), (1, .int a1), (2, .int a2)]) rfl ?_
  unfold f_X11_mail
  refine s_aload_n (pc := 0) 0 dX11_mail_0 rfl rfl ?_
  refine s_iload_n (pc := 1) 1 dX11_mail_1 rfl rfl ?_
  refine s_callVI (pc := 2) (as := [.int a1]) (st := []) dX11_mail_2 lk_11_169 kd_0 (t_X11_isLetter N a1 μ) (by omega) rfl (by decide) rfl (fun x1 μ_1 => ?_)
  refine s_if_ne (pc := 5) (tgt := 10) dX11_mail_5 (by decide) ?_ ?_
  · refine s_iconst (pc := 8) (v := (-1 : Int32)) dX11_mail_8 (by decide) ?_
    exact s_iret (pc := 9) rfl dX11_mail_9 rfl
  · refine s_iload_n (pc := 10) 2 dX11_mail_10 rfl rfl ?_
    refine s_letI (fun x2 => ?_)
    refine s_ite (fun hs1 => ?_) (fun hs1 => ?_)
    · subst hs1
      refine s_tswIn (pc := 11) (tgt := 56) dX11_mail_11 (by decide) (by decide) rfl (by decide) ?_
      refine s_aload_n (pc := 56) 0 dX11_mail_56 rfl rfl ?_
      refine s_getC (pc := 57) dX11_mail_57 fl_11_76 ?_
      refine s_getR (pc := 60) (ci := 2) (k := 2) (r := ((z_hn μ_1.2.2.1) + 6)) dX11_mail_60 fl_11_172 (z_hn_k μ_1.2.2.1) rfl (gr_2_0_2 (z_hn_k μ_1.2.2.1)) ?_
      refine s_iload_n (pc := 63) 1 dX11_mail_63 rfl rfl ?_
      refine s_iald (pc := 64) dX11_mail_64 (gk_2_6 (z_hn_k μ_1.2.2.1)) ?_
      exact s_iret (pc := 65) rfl dX11_mail_65 rfl
    refine s_ite (fun hs2 => ?_) (fun hs2 => ?_)
    · subst hs2
      refine s_tswIn (pc := 11) (tgt := 66) dX11_mail_11 (by decide) (by decide) rfl (by decide) ?_
      refine s_aload_n (pc := 66) 0 dX11_mail_66 rfl rfl ?_
      refine s_getC (pc := 67) dX11_mail_67 fl_11_76 ?_
      refine s_getR (pc := 70) (ci := 2) (k := 3) (r := ((z_hn μ_1.2.2.1) + 7)) dX11_mail_70 fl_11_175 (z_hn_k μ_1.2.2.1) rfl (gr_2_0_3 (z_hn_k μ_1.2.2.1)) ?_
      refine s_iload_n (pc := 73) 1 dX11_mail_73 rfl rfl ?_
      refine s_iald (pc := 74) dX11_mail_74 (gk_2_7 (z_hn_k μ_1.2.2.1)) ?_
      exact s_iret (pc := 75) rfl dX11_mail_75 rfl
    refine s_ite (fun hs3 => ?_) (fun hs3 => ?_)
    · subst hs3
      refine s_tswIn (pc := 11) (tgt := 76) dX11_mail_11 (by decide) (by decide) rfl (by decide) ?_
      refine s_aload_n (pc := 76) 0 dX11_mail_76 rfl rfl ?_
      refine s_getC (pc := 77) dX11_mail_77 fl_11_76 ?_
      refine s_getR (pc := 80) (ci := 2) (k := 4) (r := ((z_hn μ_1.2.2.1) + 8)) dX11_mail_80 fl_11_178 (z_hn_k μ_1.2.2.1) rfl (gr_2_0_4 (z_hn_k μ_1.2.2.1)) ?_
      refine s_iload_n (pc := 83) 1 dX11_mail_83 rfl rfl ?_
      refine s_iald (pc := 84) dX11_mail_84 (gk_2_8 (z_hn_k μ_1.2.2.1)) ?_
      exact s_iret (pc := 85) rfl dX11_mail_85 rfl
    refine s_ite (fun hs4 => ?_) (fun hs4 => ?_)
    · subst hs4
      refine s_tswIn (pc := 11) (tgt := 86) dX11_mail_11 (by decide) (by decide) rfl (by decide) ?_
      refine s_aload_n (pc := 86) 0 dX11_mail_86 rfl rfl ?_
      refine s_getR (pc := 87) (ci := 11) (k := 7) (r := 39) dX11_mail_87 fl_11_49 kd_0 rfl rs_0_7 ?_
      refine s_getR (pc := 90) (ci := 8) (k := 3) (r := 42) dX11_mail_90 fl_11_181 kd_39 rfl rs_39_3 ?_
      refine s_iload_n (pc := 93) 1 dX11_mail_93 rfl rfl ?_
      refine s_iald (pc := 94) dX11_mail_94 kd_42 ?_
      exact s_iret (pc := 95) rfl dX11_mail_95 rfl
    refine s_ite (fun hs5 => ?_) (fun hs5 => ?_)
    · subst hs5
      refine s_tswIn (pc := 11) (tgt := 96) dX11_mail_11 (by decide) (by decide) rfl (by decide) ?_
      refine s_aload_n (pc := 96) 0 dX11_mail_96 rfl rfl ?_
      refine s_getR (pc := 97) (ci := 11) (k := 7) (r := 39) dX11_mail_97 fl_11_49 kd_0 rfl rs_0_7 ?_
      refine s_getR (pc := 100) (ci := 8) (k := 4) (r := 43) dX11_mail_100 fl_11_184 kd_39 rfl rs_39_4 ?_
      refine s_iload_n (pc := 103) 1 dX11_mail_103 rfl rfl ?_
      refine s_iald (pc := 104) dX11_mail_104 kd_43 ?_
      exact s_iret (pc := 105) rfl dX11_mail_105 rfl
    refine s_ite (fun hs6 => ?_) (fun hs6 => ?_)
    · subst hs6
      refine s_tswIn (pc := 11) (tgt := 106) dX11_mail_11 (by decide) (by decide) rfl (by decide) ?_
      refine s_aload_n (pc := 106) 0 dX11_mail_106 rfl rfl ?_
      refine s_getR (pc := 107) (ci := 11) (k := 7) (r := 39) dX11_mail_107 fl_11_49 kd_0 rfl rs_0_7 ?_
      refine s_getR (pc := 110) (ci := 8) (k := 5) (r := 44) dX11_mail_110 fl_11_187 kd_39 rfl rs_39_5 ?_
      refine s_iload_n (pc := 113) 1 dX11_mail_113 rfl rfl ?_
      refine s_iald (pc := 114) dX11_mail_114 kd_44 ?_
      exact s_iret (pc := 115) rfl dX11_mail_115 rfl
    refine s_ite (fun hs7 => ?_) (fun hs7 => ?_)
    · subst hs7
      refine s_tswIn (pc := 11) (tgt := 116) dX11_mail_11 (by decide) (by decide) rfl (by decide) ?_
      refine s_aload_n (pc := 116) 0 dX11_mail_116 rfl rfl ?_
      refine s_getC (pc := 117) dX11_mail_117 fl_11_76 ?_
      refine s_iload_n (pc := 120) 1 dX11_mail_120 rfl rfl ?_
      refine s_callVI (pc := 121) (as := [.int a1]) (st := []) dX11_mail_121 lk_11_190 (z_hn_k μ_1.2.2.1) (t_X2_allWishes N (z_hn μ_1.2.2.1) a1 μ_1) (by omega) rfl (by decide) rfl (fun x3 μ_2 => ?_)
      exact s_iret (pc := 124) rfl dX11_mail_124 rfl
    refine s_ite (fun hs8 => ?_) (fun hs8 => ?_)
    · subst hs8
      refine s_tswIn (pc := 11) (tgt := 125) dX11_mail_11 (by decide) (by decide) rfl (by decide) ?_
      refine s_aload_n (pc := 125) 0 dX11_mail_125 rfl rfl ?_
      refine s_getC (pc := 126) dX11_mail_126 fl_11_76 ?_
      refine s_getR (pc := 129) (ci := 2) (k := 5) (r := ((z_hn μ_1.2.2.1) + 9)) dX11_mail_129 fl_11_193 (z_hn_k μ_1.2.2.1) rfl (gr_2_0_5 (z_hn_k μ_1.2.2.1)) ?_
      refine s_iload_n (pc := 132) 1 dX11_mail_132 rfl rfl ?_
      refine s_iald (pc := 133) dX11_mail_133 (gk_2_9 (z_hn_k μ_1.2.2.1)) ?_
      exact s_iret (pc := 134) rfl dX11_mail_134 rfl
    · have q_hs1 := lv_neT (a := 0) hs1 (by decide)
      have q_hs2 := lv_neT (a := 1) hs2 (by decide)
      have q_hs3 := lv_neT (a := 2) hs3 (by decide)
      have q_hs4 := lv_neT (a := 3) hs4 (by decide)
      have q_hs5 := lv_neT (a := 4) hs5 (by decide)
      have q_hs6 := lv_neT (a := 5) hs6 (by decide)
      have q_hs7 := lv_neT (a := 6) hs7 (by decide)
      have q_hs8 := lv_neT (a := 7) hs8 (by decide)
      refine s_tswOut (pc := 11) (tgt := 135) dX11_mail_11 (by omega) (by decide) ?_
      refine s_iconst (pc := 135) (v := (-1 : Int32)) dX11_mail_135 (by decide) ?_
      exact s_iret (pc := 136) rfl dX11_mail_136 rfl
def f_X11_isGift (N : Nat) (a1 : Int32) (μ : z_S) : Option (Int32 × z_S) :=
  if a1 < 0 then (some ((0 : Int32), μ)) else if a1 < (μ.1 ((z_hn μ.2.2.1) + 1) 1) then (some ((1 : Int32), μ)) else some ((0 : Int32), μ)
theorem t_X11_isGift (N : Nat) (a1 : Int32) (μ : z_S) : z_met true rI mX11_isGift 0 [.ref 0, .int a1] μ (f_X11_isGift N a1 μ) := by
  refine z_met.of (by decide +kernel) (by show _ ≤ _; first | decide | exact Nat.le_of_ble_eq_true rfl) (lv := [(0, .ref 0), (1, .int a1)]) rfl ?_
  unfold f_X11_isGift
  refine s_iload_n (pc := 0) 1 dX11_isGift_0 rfl rfl ?_
  refine s_if_lt (pc := 1) (tgt := 21) dX11_isGift_1 (by decide) ?_ ?_
  · refine s_iconst (pc := 21) (v := (0 : Int32)) dX11_isGift_21 (by decide) ?_
    exact s_zret0 (pc := 22) dX11_isGift_22 rfl rfl
  · refine s_iload_n (pc := 4) 1 dX11_isGift_4 rfl rfl ?_
    refine s_aload_n (pc := 5) 0 dX11_isGift_5 rfl rfl ?_
    refine s_getC (pc := 6) dX11_isGift_6 fl_11_76 ?_
    refine s_getR (pc := 9) (ci := 2) (k := 0) (r := ((z_hn μ.2.2.1) + 1)) dX11_isGift_9 fl_11_146 (z_hn_k μ.2.2.1) rfl (gr_2_0_0 (z_hn_k μ.2.2.1)) ?_
    refine s_iconst (pc := 12) (v := (1 : Int32)) dX11_isGift_12 (by decide) ?_
    refine s_ialdK (pc := 13) (k := 1) dX11_isGift_13 (gk_2_1 (z_hn_k μ.2.2.1)) (by decide) (by decide) (by decide) ?_
    refine s_icmp_ge (pc := 14) (tgt := 21) dX11_isGift_14 (by decide) ?_ ?_
    · refine s_iconst (pc := 17) (v := (1 : Int32)) dX11_isGift_17 (by decide) ?_
      refine s_goto (pc := 18) (tgt := 22) dX11_isGift_18 (by decide) ?_
      exact s_zret0 (pc := 22) dX11_isGift_22 rfl rfl
    · refine s_iconst (pc := 21) (v := (0 : Int32)) dX11_isGift_21 (by decide) ?_
      exact s_zret0 (pc := 22) dX11_isGift_22 rfl rfl
def f_X11_gift (N : Nat) (a1 : Int32) (a2 : Int32) (μ : z_S) : Option (Int32 × z_S) :=
  z_bn (f_X11_isGift N a1 μ) fun x1 μ_1 => if x1 = 0 then (some ((-1 : Int32), μ_1)) else if a2 = 0 then (z_in a1 4 <| some ((μ_1.1 41 a1.toNatClampNeg), μ_1)) else if a2 < (10 : Int32) then (some ((-1 : Int32), μ_1)) else z_bn (f_X11_isLetter N (a2 - (10 : Int32)) μ_1) fun x2 μ_2 => if x2 = 0 then (some ((-1 : Int32), μ_2)) else z_in (a2 - (10 : Int32)) 8 <| z_in a1 4 <| some ((μ_2.1 ((z_hn μ_2.2.2.1) + 11 + (a2 - (10 : Int32)).toNatClampNeg) a1.toNatClampNeg), μ_2)
theorem t_X11_gift (N : Nat) (a1 : Int32) (a2 : Int32) (μ : z_S) : z_met true rI mX11_gift 1 [.ref 0, .int a1, .int a2] μ (f_X11_gift N a1 a2 μ) := by
  refine z_met.of (by decide +kernel) (by show _ ≤ _; first | decide | exact Nat.le_of_ble_eq_true rfl) (lv := [(0, .ref 0), (1, .int a1), (2, .int a2)]) rfl ?_
  unfold f_X11_gift
  refine s_aload_n (pc := 0) 0 dX11_gift_0 rfl rfl ?_
  refine s_iload_n (pc := 1) 1 dX11_gift_1 rfl rfl ?_
  refine s_callVI (pc := 2) (as := [.int a1]) (st := []) dX11_gift_2 lk_11_196 kd_0 (t_X11_isGift N a1 μ) (by omega) rfl (by decide) rfl (fun x1 μ_1 => ?_)
  refine s_if_ne (pc := 5) (tgt := 10) dX11_gift_5 (by decide) ?_ ?_
  · refine s_iconst (pc := 8) (v := (-1 : Int32)) dX11_gift_8 (by decide) ?_
    exact s_iret (pc := 9) rfl dX11_gift_9 rfl
  · refine s_iload_n (pc := 10) 2 dX11_gift_10 rfl rfl ?_
    refine s_if_ne (pc := 11) (tgt := 24) dX11_gift_11 (by decide) ?_ ?_
    · refine s_aload_n (pc := 14) 0 dX11_gift_14 rfl rfl ?_
      refine s_getR (pc := 15) (ci := 11) (k := 7) (r := 39) dX11_gift_15 fl_11_49 kd_0 rfl rs_0_7 ?_
      refine s_getR (pc := 18) (ci := 8) (k := 2) (r := 41) dX11_gift_18 fl_11_199 kd_39 rfl rs_39_2 ?_
      refine s_iload_n (pc := 21) 1 dX11_gift_21 rfl rfl ?_
      refine s_iald (pc := 22) dX11_gift_22 kd_41 ?_
      exact s_iret (pc := 23) rfl dX11_gift_23 rfl
    · refine s_iload_n (pc := 24) 2 dX11_gift_24 rfl rfl ?_
      refine s_bipush (pc := 25) (v := (10 : Int32)) dX11_gift_25 (by decide) ?_
      refine s_icmp_lt (pc := 27) (tgt := 41) dX11_gift_27 (by decide) ?_ ?_
      · refine s_iconst (pc := 41) (v := (-1 : Int32)) dX11_gift_41 (by decide) ?_
        exact s_iret (pc := 42) rfl dX11_gift_42 rfl
      · refine s_aload_n (pc := 30) 0 dX11_gift_30 rfl rfl ?_
        refine s_iload_n (pc := 31) 2 dX11_gift_31 rfl rfl ?_
        refine s_bipush (pc := 32) (v := (10 : Int32)) dX11_gift_32 (by decide) ?_
        refine s_isub (pc := 34) dX11_gift_34 ?_
        refine s_callVI (pc := 35) (as := [.int (a2 - (10 : Int32))]) (st := []) dX11_gift_35 lk_11_169 kd_0 (t_X11_isLetter N (a2 - (10 : Int32)) μ_1) (by omega) rfl (by decide) rfl (fun x2 μ_2 => ?_)
        refine s_if_ne (pc := 38) (tgt := 43) dX11_gift_38 (by decide) ?_ ?_
        · refine s_iconst (pc := 41) (v := (-1 : Int32)) dX11_gift_41 (by decide) ?_
          exact s_iret (pc := 42) rfl dX11_gift_42 rfl
        · refine s_aload_n (pc := 43) 0 dX11_gift_43 rfl rfl ?_
          refine s_getC (pc := 44) dX11_gift_44 fl_11_76 ?_
          refine s_getR (pc := 47) (ci := 2) (k := 6) (r := ((z_hn μ_2.2.2.1) + 10)) dX11_gift_47 fl_11_202 (z_hn_k μ_2.2.2.1) rfl (gr_2_0_6 (z_hn_k μ_2.2.2.1)) ?_
          refine s_iload_n (pc := 50) 2 dX11_gift_50 rfl rfl ?_
          refine s_bipush (pc := 51) (v := (10 : Int32)) dX11_gift_51 (by decide) ?_
          refine s_isub (pc := 53) dX11_gift_53 ?_
          refine s_aald (pc := 54) (r := ((z_hn μ_2.2.2.1) + 11 + (a2 - (10 : Int32)).toNatClampNeg)) dX11_gift_54 (gk_2_10 (z_hn_k μ_2.2.2.1)) (by decide) (by decide) (fun hi => ga_2_10 (z_hn_k μ_2.2.2.1) hi) (fun hi1 => ?_)
          refine s_iload_n (pc := 55) 1 dX11_gift_55 rfl rfl ?_
          refine s_iald (pc := 56) dX11_gift_56 (gb_2_10 (z_hn_k μ_2.2.2.1) hi1) ?_
          exact s_iret (pc := 57) rfl dX11_gift_57 rfl
def f_X11_isHelper (N : Nat) (a1 : Int32) (μ : z_S) : Option (Int32 × z_S) :=
  if a1 < 0 then (some ((0 : Int32), μ)) else if a1 < (μ.1 ((z_hn μ.2.2.1) + 1) 2) then (some ((1 : Int32), μ)) else some ((0 : Int32), μ)
theorem t_X11_isHelper (N : Nat) (a1 : Int32) (μ : z_S) : z_met true rI mX11_isHelper 0 [.ref 0, .int a1] μ (f_X11_isHelper N a1 μ) := by
  refine z_met.of (by decide +kernel) (by show _ ≤ _; first | decide | exact Nat.le_of_ble_eq_true rfl) (lv := [(0, .ref 0), (1, .int a1)]) rfl ?_
  unfold f_X11_isHelper
  refine s_iload_n (pc := 0) 1 dX11_isHelper_0 rfl rfl ?_
  refine s_if_lt (pc := 1) (tgt := 21) dX11_isHelper_1 (by decide) ?_ ?_
  · refine s_iconst (pc := 21) (v := (0 : Int32)) dX11_isHelper_21 (by decide) ?_
    exact s_zret0 (pc := 22) dX11_isHelper_22 rfl rfl
  · refine s_iload_n (pc := 4) 1 dX11_isHelper_4 rfl rfl ?_
    refine s_aload_n (pc := 5) 0 dX11_isHelper_5 rfl rfl ?_
    refine s_getC (pc := 6) dX11_isHelper_6 fl_11_76 ?_
    refine s_getR (pc := 9) (ci := 2) (k := 0) (r := ((z_hn μ.2.2.1) + 1)) dX11_isHelper_9 fl_11_146 (z_hn_k μ.2.2.1) rfl (gr_2_0_0 (z_hn_k μ.2.2.1)) ?_
    refine s_iconst (pc := 12) (v := (2 : Int32)) dX11_isHelper_12 (by decide) ?_
    refine s_ialdK (pc := 13) (k := 2) dX11_isHelper_13 (gk_2_1 (z_hn_k μ.2.2.1)) (by decide) (by decide) (by decide) ?_
    refine s_icmp_ge (pc := 14) (tgt := 21) dX11_isHelper_14 (by decide) ?_ ?_
    · refine s_iconst (pc := 17) (v := (1 : Int32)) dX11_isHelper_17 (by decide) ?_
      refine s_goto (pc := 18) (tgt := 22) dX11_isHelper_18 (by decide) ?_
      exact s_zret0 (pc := 22) dX11_isHelper_22 rfl rfl
    · refine s_iconst (pc := 21) (v := (0 : Int32)) dX11_isHelper_21 (by decide) ?_
      exact s_zret0 (pc := 22) dX11_isHelper_22 rfl rfl
def f_X11_helper (N : Nat) (a1 : Int32) (a2 : Int32) (μ : z_S) : Option (Int32 × z_S) :=
  z_bn (f_X11_isHelper N a1 μ) fun x1 μ_1 => if x1 = 0 then (some ((-1 : Int32), μ_1)) else z_bd a2 fun x2 => if x2 = 0 then (z_in a1 3 <| some ((μ_1.1 ((z_hn μ_1.2.2.1) + 29) a1.toNatClampNeg), μ_1)) else if x2 = 1 then (z_in a1 3 <| some ((μ_1.1 ((z_hn μ_1.2.2.1) + 30) a1.toNatClampNeg), μ_1)) else if x2 = 2 then (z_in a1 3 <| some ((μ_1.1 ((z_hn μ_1.2.2.1) + 31) a1.toNatClampNeg), μ_1)) else if x2 = 3 then (z_in a1 3 <| some ((μ_1.1 40 a1.toNatClampNeg), μ_1)) else if x2 = 4 then (z_bn (f_X8_doneByHelper N 39 a1 μ_1) fun x3 μ_2 => some (x3, μ_2)) else some ((-1 : Int32), μ_1)
theorem t_X11_helper (N : Nat) (a1 : Int32) (a2 : Int32) (μ : z_S) : z_met true rI mX11_helper 1 [.ref 0, .int a1, .int a2] μ (f_X11_helper N a1 a2 μ) := by
  refine z_met.of (by decide +kernel) (by show _ ≤ _; first | decide | exact Nat.le_of_ble_eq_true rfl) (lv := [(0, .ref 0), (1, .int a1), (2, .int a2)]) rfl ?_
  unfold f_X11_helper
  refine s_aload_n (pc := 0) 0 dX11_helper_0 rfl rfl ?_
  refine s_iload_n (pc := 1) 1 dX11_helper_1 rfl rfl ?_
  refine s_callVI (pc := 2) (as := [.int a1]) (st := []) dX11_helper_2 lk_11_205 kd_0 (t_X11_isHelper N a1 μ) (by omega) rfl (by decide) rfl (fun x1 μ_1 => ?_)
  refine s_if_ne (pc := 5) (tgt := 10) dX11_helper_5 (by decide) ?_ ?_
  · refine s_iconst (pc := 8) (v := (-1 : Int32)) dX11_helper_8 (by decide) ?_
    exact s_iret (pc := 9) rfl dX11_helper_9 rfl
  · refine s_iload_n (pc := 10) 2 dX11_helper_10 rfl rfl ?_
    refine s_letI (fun x2 => ?_)
    refine s_ite (fun hs1 => ?_) (fun hs1 => ?_)
    · subst hs1
      refine s_tswIn (pc := 11) (tgt := 44) dX11_helper_11 (by decide) (by decide) rfl (by decide) ?_
      refine s_aload_n (pc := 44) 0 dX11_helper_44 rfl rfl ?_
      refine s_getC (pc := 45) dX11_helper_45 fl_11_76 ?_
      refine s_getR (pc := 48) (ci := 2) (k := 9) (r := ((z_hn μ_1.2.2.1) + 29)) dX11_helper_48 fl_11_208 (z_hn_k μ_1.2.2.1) rfl (gr_2_0_9 (z_hn_k μ_1.2.2.1)) ?_
      refine s_iload_n (pc := 51) 1 dX11_helper_51 rfl rfl ?_
      refine s_iald (pc := 52) dX11_helper_52 (gk_2_29 (z_hn_k μ_1.2.2.1)) ?_
      exact s_iret (pc := 53) rfl dX11_helper_53 rfl
    refine s_ite (fun hs2 => ?_) (fun hs2 => ?_)
    · subst hs2
      refine s_tswIn (pc := 11) (tgt := 54) dX11_helper_11 (by decide) (by decide) rfl (by decide) ?_
      refine s_aload_n (pc := 54) 0 dX11_helper_54 rfl rfl ?_
      refine s_getC (pc := 55) dX11_helper_55 fl_11_76 ?_
      refine s_getR (pc := 58) (ci := 2) (k := 10) (r := ((z_hn μ_1.2.2.1) + 30)) dX11_helper_58 fl_11_211 (z_hn_k μ_1.2.2.1) rfl (gr_2_0_10 (z_hn_k μ_1.2.2.1)) ?_
      refine s_iload_n (pc := 61) 1 dX11_helper_61 rfl rfl ?_
      refine s_iald (pc := 62) dX11_helper_62 (gk_2_30 (z_hn_k μ_1.2.2.1)) ?_
      exact s_iret (pc := 63) rfl dX11_helper_63 rfl
    refine s_ite (fun hs3 => ?_) (fun hs3 => ?_)
    · subst hs3
      refine s_tswIn (pc := 11) (tgt := 64) dX11_helper_11 (by decide) (by decide) rfl (by decide) ?_
      refine s_aload_n (pc := 64) 0 dX11_helper_64 rfl rfl ?_
      refine s_getC (pc := 65) dX11_helper_65 fl_11_76 ?_
      refine s_getR (pc := 68) (ci := 2) (k := 11) (r := ((z_hn μ_1.2.2.1) + 31)) dX11_helper_68 fl_11_214 (z_hn_k μ_1.2.2.1) rfl (gr_2_0_11 (z_hn_k μ_1.2.2.1)) ?_
      refine s_iload_n (pc := 71) 1 dX11_helper_71 rfl rfl ?_
      refine s_iald (pc := 72) dX11_helper_72 (gk_2_31 (z_hn_k μ_1.2.2.1)) ?_
      exact s_iret (pc := 73) rfl dX11_helper_73 rfl
    refine s_ite (fun hs4 => ?_) (fun hs4 => ?_)
    · subst hs4
      refine s_tswIn (pc := 11) (tgt := 74) dX11_helper_11 (by decide) (by decide) rfl (by decide) ?_
      refine s_aload_n (pc := 74) 0 dX11_helper_74 rfl rfl ?_
      refine s_getR (pc := 75) (ci := 11) (k := 7) (r := 39) dX11_helper_75 fl_11_49 kd_0 rfl rs_0_7 ?_
      refine s_getR (pc := 78) (ci := 8) (k := 1) (r := 40) dX11_helper_78 fl_11_217 kd_39 rfl rs_39_1 ?_
      refine s_iload_n (pc := 81) 1 dX11_helper_81 rfl rfl ?_
      refine s_iald (pc := 82) dX11_helper_82 kd_40 ?_
      exact s_iret (pc := 83) rfl dX11_helper_83 rfl
    refine s_ite (fun hs5 => ?_) (fun hs5 => ?_)
    · subst hs5
      refine s_tswIn (pc := 11) (tgt := 84) dX11_helper_11 (by decide) (by decide) rfl (by decide) ?_
      refine s_aload_n (pc := 84) 0 dX11_helper_84 rfl rfl ?_
      refine s_getR (pc := 85) (ci := 11) (k := 7) (r := 39) dX11_helper_85 fl_11_49 kd_0 rfl rs_0_7 ?_
      refine s_iload_n (pc := 88) 1 dX11_helper_88 rfl rfl ?_
      refine s_callVI (pc := 89) (as := [.int a1]) (st := []) dX11_helper_89 lk_11_220 kd_39 (t_X8_doneByHelper N 39 a1 μ_1) (by omega) rfl (by decide) rfl (fun x3 μ_2 => ?_)
      exact s_iret (pc := 92) rfl dX11_helper_92 rfl
    · have q_hs1 := lv_neT (a := 0) hs1 (by decide)
      have q_hs2 := lv_neT (a := 1) hs2 (by decide)
      have q_hs3 := lv_neT (a := 2) hs3 (by decide)
      have q_hs4 := lv_neT (a := 3) hs4 (by decide)
      have q_hs5 := lv_neT (a := 4) hs5 (by decide)
      refine s_tswOut (pc := 11) (tgt := 93) dX11_helper_11 (by omega) (by decide) ?_
      refine s_iconst (pc := 93) (v := (-1 : Int32)) dX11_helper_93 (by decide) ?_
      exact s_iret (pc := 94) rfl dX11_helper_94 rfl
def f_X11_takes (N : Nat) (a1 : Int32) (a2 : Int32) (μ : z_S) : Option (Int32 × z_S) :=
  z_bn (f_X11_isLetter N a1 μ) fun x1 μ_1 => if x1 = 0 then (some ((-1 : Int32), μ_1)) else z_bn (f_X11_isHelper N a2 μ_1) fun x2 μ_2 => if x2 = 0 then (some ((-1 : Int32), μ_2)) else z_bn (f_X4_timeOf N (z_hn μ_2.2.2.1) 39 a1 a2 μ_2) fun x3 μ_3 => some (x3, μ_3)
theorem t_X11_takes (N : Nat) (a1 : Int32) (a2 : Int32) (μ : z_S) : z_met true rI mX11_takes 4 [.ref 0, .int a1, .int a2] μ (f_X11_takes N a1 a2 μ) := by
  refine z_met.of (by decide +kernel) (by show _ ≤ _; first | decide | exact Nat.le_of_ble_eq_true rfl) (lv := [(0, .ref 0), (1, .int a1), (2, .int a2)]) rfl ?_
  unfold f_X11_takes
  refine s_aload_n (pc := 0) 0 dX11_takes_0 rfl rfl ?_
  refine s_iload_n (pc := 1) 1 dX11_takes_1 rfl rfl ?_
  refine s_callVI (pc := 2) (as := [.int a1]) (st := []) dX11_takes_2 lk_11_169 kd_0 (t_X11_isLetter N a1 μ) (by omega) rfl (by decide) rfl (fun x1 μ_1 => ?_)
  refine s_if_eq (pc := 5) (tgt := 16) dX11_takes_5 (by decide) ?_ ?_
  · refine s_iconst (pc := 16) (v := (-1 : Int32)) dX11_takes_16 (by decide) ?_
    exact s_iret (pc := 17) rfl dX11_takes_17 rfl
  · refine s_aload_n (pc := 8) 0 dX11_takes_8 rfl rfl ?_
    refine s_iload_n (pc := 9) 2 dX11_takes_9 rfl rfl ?_
    refine s_callVI (pc := 10) (as := [.int a2]) (st := []) dX11_takes_10 lk_11_205 kd_0 (t_X11_isHelper N a2 μ_1) (by omega) rfl (by decide) rfl (fun x2 μ_2 => ?_)
    refine s_if_ne (pc := 13) (tgt := 18) dX11_takes_13 (by decide) ?_ ?_
    · refine s_iconst (pc := 16) (v := (-1 : Int32)) dX11_takes_16 (by decide) ?_
      exact s_iret (pc := 17) rfl dX11_takes_17 rfl
    · refine s_aload_n (pc := 18) 0 dX11_takes_18 rfl rfl ?_
      refine s_getR (pc := 19) (ci := 11) (k := 3) (r := 4) dX11_takes_19 fl_11_19 kd_0 rfl rs_0_3 ?_
      refine s_aload_n (pc := 22) 0 dX11_takes_22 rfl rfl ?_
      refine s_getC (pc := 23) dX11_takes_23 fl_11_76 ?_
      refine s_aload_n (pc := 26) 0 dX11_takes_26 rfl rfl ?_
      refine s_getR (pc := 27) (ci := 11) (k := 7) (r := 39) dX11_takes_27 fl_11_49 kd_0 rfl rs_0_7 ?_
      refine s_iload_n (pc := 30) 1 dX11_takes_30 rfl rfl ?_
      refine s_iload_n (pc := 31) 2 dX11_takes_31 rfl rfl ?_
      refine s_callVI (pc := 32) (as := [.ref (z_hn μ_2.2.2.1), .ref 39, .int a1, .int a2]) (st := []) dX11_takes_32 lk_11_223 kd_4 (t_X4_timeOf N (z_hn μ_2.2.2.1) 39 a1 a2 μ_2) (by omega) rfl (by decide) rfl (fun x3 μ_3 => ?_)
      exact s_iret (pc := 35) rfl dX11_takes_35 rfl
def f_X11_warmth (N : Nat) (a1 : Int32) (a2 : Int32) (μ : z_S) : Option (Int64 × z_S) :=
  z_bn (f_X11_isLetter N a1 μ) fun x1 μ_1 => if x1 = 0 then (some ((-1000000000000000 : Int64), μ_1)) else z_bn (f_X11_isHelper N a2 μ_1) fun x2 μ_2 => if x2 = 0 then (some ((-1000000000000000 : Int64), μ_2)) else z_bn (f_X4_warmthOf N (z_hn μ_2.2.2.1) 39 a1 a2 μ_2) fun x3 μ_3 => some (x3.toInt64, μ_3)
theorem t_X11_warmth (N : Nat) (a1 : Int32) (a2 : Int32) (μ : z_S) : z_met true rJ mX11_warmth 4 [.ref 0, .int a1, .int a2] μ (f_X11_warmth N a1 a2 μ) := by
  refine z_met.of (by decide +kernel) (by show _ ≤ _; first | decide | exact Nat.le_of_ble_eq_true rfl) (lv := [(0, .ref 0), (1, .int a1), (2, .int a2)]) rfl ?_
  unfold f_X11_warmth
  refine s_aload_n (pc := 0) 0 dX11_warmth_0 rfl rfl ?_
  refine s_iload_n (pc := 1) 1 dX11_warmth_1 rfl rfl ?_
  refine s_callVI (pc := 2) (as := [.int a1]) (st := []) dX11_warmth_2 lk_11_169 kd_0 (t_X11_isLetter N a1 μ) (by omega) rfl (by decide) rfl (fun x1 μ_1 => ?_)
  refine s_if_eq (pc := 5) (tgt := 16) dX11_warmth_5 (by decide) ?_ ?_
  · refine s_ldc2 (pc := 16) (v := (-1000000000000000 : Int64)) dX11_warmth_16 w_995 ?_
    exact s_lret (pc := 19) dX11_warmth_19 rfl
  · refine s_aload_n (pc := 8) 0 dX11_warmth_8 rfl rfl ?_
    refine s_iload_n (pc := 9) 2 dX11_warmth_9 rfl rfl ?_
    refine s_callVI (pc := 10) (as := [.int a2]) (st := []) dX11_warmth_10 lk_11_205 kd_0 (t_X11_isHelper N a2 μ_1) (by omega) rfl (by decide) rfl (fun x2 μ_2 => ?_)
    refine s_if_ne (pc := 13) (tgt := 20) dX11_warmth_13 (by decide) ?_ ?_
    · refine s_ldc2 (pc := 16) (v := (-1000000000000000 : Int64)) dX11_warmth_16 w_995 ?_
      exact s_lret (pc := 19) dX11_warmth_19 rfl
    · refine s_aload_n (pc := 20) 0 dX11_warmth_20 rfl rfl ?_
      refine s_getR (pc := 21) (ci := 11) (k := 3) (r := 4) dX11_warmth_21 fl_11_19 kd_0 rfl rs_0_3 ?_
      refine s_aload_n (pc := 24) 0 dX11_warmth_24 rfl rfl ?_
      refine s_getC (pc := 25) dX11_warmth_25 fl_11_76 ?_
      refine s_aload_n (pc := 28) 0 dX11_warmth_28 rfl rfl ?_
      refine s_getR (pc := 29) (ci := 11) (k := 7) (r := 39) dX11_warmth_29 fl_11_49 kd_0 rfl rs_0_7 ?_
      refine s_iload_n (pc := 32) 1 dX11_warmth_32 rfl rfl ?_
      refine s_iload_n (pc := 33) 2 dX11_warmth_33 rfl rfl ?_
      refine s_callVI (pc := 34) (as := [.ref (z_hn μ_2.2.2.1), .ref 39, .int a1, .int a2]) (st := []) dX11_warmth_34 lk_11_229 kd_4 (t_X4_warmthOf N (z_hn μ_2.2.2.1) 39 a1 a2 μ_2) (by omega) rfl (by decide) rfl (fun x3 μ_3 => ?_)
      refine s_i2l (pc := 37) dX11_warmth_37 ?_
      exact s_lret (pc := 38) dX11_warmth_38 rfl
def f_X11_can (N : Nat) (a1 : Int32) (a2 : Int32) (μ : z_S) : Option (Int32 × z_S) :=
  z_bn (f_X11_isLetter N a1 μ) fun x1 μ_1 => if x1 = 0 then (some ((-1 : Int32), μ_1)) else z_bn (f_X11_isHelper N a2 μ_1) fun x2 μ_2 => if x2 = 0 then (some ((-1 : Int32), μ_2)) else z_bn (f_X4_timeIfAble N (z_hn μ_2.2.2.1) 39 a1 a2 μ_2) fun x3 μ_3 => if x3 = (-1 : Int32) then (some ((0 : Int32), μ_3)) else some ((1 : Int32), μ_3)
theorem t_X11_can (N : Nat) (a1 : Int32) (a2 : Int32) (μ : z_S) : z_met true rI mX11_can 5 [.ref 0, .int a1, .int a2] μ (f_X11_can N a1 a2 μ) := by
  refine z_met.of (by decide +kernel) (by show _ ≤ _; first | decide | exact Nat.le_of_ble_eq_true rfl) (lv := [(0, .ref 0), (1, .int a1), (2, .int a2)]) rfl ?_
  unfold f_X11_can
  refine s_aload_n (pc := 0) 0 dX11_can_0 rfl rfl ?_
  refine s_iload_n (pc := 1) 1 dX11_can_1 rfl rfl ?_
  refine s_callVI (pc := 2) (as := [.int a1]) (st := []) dX11_can_2 lk_11_169 kd_0 (t_X11_isLetter N a1 μ) (by omega) rfl (by decide) rfl (fun x1 μ_1 => ?_)
  refine s_if_eq (pc := 5) (tgt := 16) dX11_can_5 (by decide) ?_ ?_
  · refine s_iconst (pc := 16) (v := (-1 : Int32)) dX11_can_16 (by decide) ?_
    exact s_iret (pc := 17) rfl dX11_can_17 rfl
  · refine s_aload_n (pc := 8) 0 dX11_can_8 rfl rfl ?_
    refine s_iload_n (pc := 9) 2 dX11_can_9 rfl rfl ?_
    refine s_callVI (pc := 10) (as := [.int a2]) (st := []) dX11_can_10 lk_11_205 kd_0 (t_X11_isHelper N a2 μ_1) (by omega) rfl (by decide) rfl (fun x2 μ_2 => ?_)
    refine s_if_ne (pc := 13) (tgt := 18) dX11_can_13 (by decide) ?_ ?_
    · refine s_iconst (pc := 16) (v := (-1 : Int32)) dX11_can_16 (by decide) ?_
      exact s_iret (pc := 17) rfl dX11_can_17 rfl
    · refine s_aload_n (pc := 18) 0 dX11_can_18 rfl rfl ?_
      refine s_getR (pc := 19) (ci := 11) (k := 3) (r := 4) dX11_can_19 fl_11_19 kd_0 rfl rs_0_3 ?_
      refine s_aload_n (pc := 22) 0 dX11_can_22 rfl rfl ?_
      refine s_getC (pc := 23) dX11_can_23 fl_11_76 ?_
      refine s_aload_n (pc := 26) 0 dX11_can_26 rfl rfl ?_
      refine s_getR (pc := 27) (ci := 11) (k := 7) (r := 39) dX11_can_27 fl_11_49 kd_0 rfl rs_0_7 ?_
      refine s_iload_n (pc := 30) 1 dX11_can_30 rfl rfl ?_
      refine s_iload_n (pc := 31) 2 dX11_can_31 rfl rfl ?_
      refine s_callVI (pc := 32) (as := [.ref (z_hn μ_2.2.2.1), .ref 39, .int a1, .int a2]) (st := []) dX11_can_32 lk_11_232 kd_4 (t_X4_timeIfAble N (z_hn μ_2.2.2.1) 39 a1 a2 μ_2) (by omega) rfl (by decide) rfl (fun x3 μ_3 => ?_)
      refine s_iconst (pc := 35) (v := (-1 : Int32)) dX11_can_35 (by decide) ?_
      refine s_icmp_ne (pc := 36) (tgt := 43) dX11_can_36 (by decide) ?_ ?_
      · refine s_iconst (pc := 39) (v := (0 : Int32)) dX11_can_39 (by decide) ?_
        refine s_goto (pc := 40) (tgt := 44) dX11_can_40 (by decide) ?_
        exact s_iret (pc := 44) rfl dX11_can_44 rfl
      · refine s_iconst (pc := 43) (v := (1 : Int32)) dX11_can_43 (by decide) ?_
        exact s_iret (pc := 44) rfl dX11_can_44 rfl
def f_X11_warmest_B15 (N : Nat)  (v1 : Int32) (μ : z_S) : Option (Int32 × z_S) :=
  z_bn (f_X1_plan N (z_hn μ.2.2.1) 39 μ) fun _ μ_1 => if v1 = (-1 : Int32) then (some ((μ_1.1 8 2), μ_1)) else z_in v1 8 <| some ((μ_1.1 9 v1.toNatClampNeg), μ_1)
theorem t_X11_warmest_B15 (N : Nat)     (v1 : Int32)  (μ : z_S) : z_sim true rI mX11_warmest 7 (f_X11_warmest_B15 N   v1 μ) 15 [(0, .ref 0), (1, .int v1)] [] μ := by
  unfold f_X11_warmest_B15
  refine s_aload_n (pc := 15) 0 dX11_warmest_15 rfl rfl ?_
  refine s_getR (pc := 16) (ci := 11) (k := 4) (r := 8) dX11_warmest_16 fl_11_28 kd_0 rfl rs_0_4 ?_
  refine s_aload_n (pc := 19) 0 dX11_warmest_19 rfl rfl ?_
  refine s_getC (pc := 20) dX11_warmest_20 fl_11_76 ?_
  refine s_aload_n (pc := 23) 0 dX11_warmest_23 rfl rfl ?_
  refine s_getR (pc := 24) (ci := 11) (k := 7) (r := 39) dX11_warmest_24 fl_11_49 kd_0 rfl rs_0_7 ?_
  refine s_callVV (pc := 27) (as := [.ref (z_hn μ.2.2.1), .ref 39]) (st := []) dX11_warmest_27 lk_11_235 kd_8 (t_X1_plan N (z_hn μ.2.2.1) 39 μ) (by omega) rfl (by decide) rfl (fun _ μ_1 => ?_)
  refine s_iload_n (pc := 30) 1 dX11_warmest_30 rfl rfl ?_
  refine s_iconst (pc := 31) (v := (-1 : Int32)) dX11_warmest_31 (by decide) ?_
  refine s_icmp_ne (pc := 32) (tgt := 45) dX11_warmest_32 (by decide) ?_ ?_
  · refine s_aload_n (pc := 35) 0 dX11_warmest_35 rfl rfl ?_
    refine s_getR (pc := 36) (ci := 11) (k := 4) (r := 8) dX11_warmest_36 fl_11_28 kd_0 rfl rs_0_4 ?_
    refine s_getI (pc := 39) (ci := 1) (k := 2) dX11_warmest_39 fl_11_239 kd_8 rfl ?_
    refine s_goto (pc := 42) (tgt := 54) dX11_warmest_42 (by decide) ?_
    exact s_iret (pc := 54) rfl dX11_warmest_54 rfl
  · refine s_aload_n (pc := 45) 0 dX11_warmest_45 rfl rfl ?_
    refine s_getR (pc := 46) (ci := 11) (k := 4) (r := 8) dX11_warmest_46 fl_11_28 kd_0 rfl rs_0_4 ?_
    refine s_getR (pc := 49) (ci := 1) (k := 1) (r := 9) dX11_warmest_49 fl_11_242 kd_8 rfl rs_8_1 ?_
    refine s_iload_n (pc := 52) 1 dX11_warmest_52 rfl rfl ?_
    refine s_iald (pc := 53) dX11_warmest_53 kd_9 ?_
    exact s_iret (pc := 54) rfl dX11_warmest_54 rfl
def f_X11_warmest (N : Nat) (a1 : Int32) (μ : z_S) : Option (Int32 × z_S) :=
  if a1 = (-1 : Int32) then (f_X11_warmest_B15 N a1 μ) else z_bn (f_X11_isLetter N a1 μ) fun x1 μ_2 => if x1 = 0 then (some ((-1 : Int32), μ_2)) else f_X11_warmest_B15 N a1 μ_2
theorem t_X11_warmest (N : Nat) (a1 : Int32) (μ : z_S) : z_met true rI mX11_warmest 7 [.ref 0, .int a1] μ (f_X11_warmest N a1 μ) := by
  refine z_met.of (by decide +kernel) (by show _ ≤ _; first | decide | exact Nat.le_of_ble_eq_true rfl) (lv := [(0, .ref 0), (1, .int a1)]) rfl ?_
  unfold f_X11_warmest
  refine s_iload_n (pc := 0) 1 dX11_warmest_0 rfl rfl ?_
  refine s_iconst (pc := 1) (v := (-1 : Int32)) dX11_warmest_1 (by decide) ?_
  refine s_icmp_eq (pc := 2) (tgt := 15) dX11_warmest_2 (by decide) ?_ ?_
  · exact t_X11_warmest_B15 N a1 μ
  · refine s_aload_n (pc := 5) 0 dX11_warmest_5 rfl rfl ?_
    refine s_iload_n (pc := 6) 1 dX11_warmest_6 rfl rfl ?_
    refine s_callVI (pc := 7) (as := [.int a1]) (st := []) dX11_warmest_7 lk_11_169 kd_0 (t_X11_isLetter N a1 μ) (by omega) rfl (by decide) rfl (fun x1 μ_2 => ?_)
    refine s_if_ne (pc := 10) (tgt := 15) dX11_warmest_10 (by decide) ?_ ?_
    · refine s_iconst (pc := 13) (v := (-1 : Int32)) dX11_warmest_13 (by decide) ?_
      exact s_iret (pc := 14) rfl dX11_warmest_14 rfl
    · exact t_X11_warmest_B15 N a1 μ_2
def f_X11_warms (N : Nat) (μ : z_S) : Option (Int64 × z_S) :=
  z_bn (f_X1_plan N (z_hn μ.2.2.1) 39 μ) fun _ μ_1 => some ((μ_1.2.1 8 3), μ_1)
theorem t_X11_warms (N : Nat) (μ : z_S) : z_met true rJ mX11_warms 7 [.ref 0] μ (f_X11_warms N μ) := by
  refine z_met.of (by decide +kernel) (by show _ ≤ _; first | decide | exact Nat.le_of_ble_eq_true rfl) (lv := [(0, .ref 0)]) rfl ?_
  unfold f_X11_warms
  refine s_aload_n (pc := 0) 0 dX11_warms_0 rfl rfl ?_
  refine s_getR (pc := 1) (ci := 11) (k := 4) (r := 8) dX11_warms_1 fl_11_28 kd_0 rfl rs_0_4 ?_
  refine s_aload_n (pc := 4) 0 dX11_warms_4 rfl rfl ?_
  refine s_getC (pc := 5) dX11_warms_5 fl_11_76 ?_
  refine s_aload_n (pc := 8) 0 dX11_warms_8 rfl rfl ?_
  refine s_getR (pc := 9) (ci := 11) (k := 7) (r := 39) dX11_warms_9 fl_11_49 kd_0 rfl rs_0_7 ?_
  refine s_callVV (pc := 12) (as := [.ref (z_hn μ.2.2.1), .ref 39]) (st := []) dX11_warms_12 lk_11_235 kd_8 (t_X1_plan N (z_hn μ.2.2.1) 39 μ) (by omega) rfl (by decide) rfl (fun _ μ_1 => ?_)
  refine s_aload_n (pc := 15) 0 dX11_warms_15 rfl rfl ?_
  refine s_getR (pc := 16) (ci := 11) (k := 4) (r := 8) dX11_warms_16 fl_11_28 kd_0 rfl rs_0_4 ?_
  refine s_getJ (pc := 19) (ci := 1) (k := 3) dX11_warms_19 fl_11_245 kd_8 rfl ?_
  exact s_lret (pc := 22) dX11_warms_22 rfl
def b_X11_later_L40 (N : Nat) (c1 : Int32) (kb : Int32 → z_S → Option (Int32 × z_S)) (e81 : z_S → Option (Int32 × z_S)) (v2 : Int32) (μ : z_S) : Option (Int32 × z_S) :=
  if v2 < c1 then (z_bn (f_X1_plan N (z_hn μ.2.2.1) 45 μ) fun _ μ_2 => z_bn (f_X1_close N (z_hn μ_2.2.2.1) 45 μ_2) fun _ μ_3 => z_bd (v2 + 1) fun x1 => kb x1 μ_3) else e81 μ
theorem tb_X11_later_L40 (N : Nat) (c1 : Int32) (kb : Int32 → z_S → Option (Int32 × z_S)) (e81 : z_S → Option (Int32 × z_S)) (hkb : ∀ (a2 : Int32) (μ : z_S), z_sim true rI mX11_later 7 (kb a2 μ) 40 [(0, .ref 0), (1, .int c1), (2, .int a2)] [] μ) (he81 : ∀ (μ : z_S), z_sim true rI mX11_later 7 (e81 μ) 81 [(0, .ref 0)] [] μ) (v2 : Int32) (μ : z_S) : z_sim true rI mX11_later 7 (b_X11_later_L40 N c1 kb e81 v2 μ) 40 [(0, .ref 0), (1, .int c1), (2, .int v2)] [] μ := by
  unfold b_X11_later_L40
  refine s_iload_n (pc := 40) 2 dX11_later_40 rfl rfl ?_
  refine s_iload_n (pc := 41) 1 dX11_later_41 rfl rfl ?_
  refine s_icmp_ge (pc := 42) (tgt := 81) dX11_later_42 (by decide) ?_ ?_
  · refine s_aload_n (pc := 45) 0 dX11_later_45 rfl rfl ?_
    refine s_getR (pc := 46) (ci := 11) (k := 4) (r := 8) dX11_later_46 fl_11_28 kd_0 rfl rs_0_4 ?_
    refine s_aload_n (pc := 49) 0 dX11_later_49 rfl rfl ?_
    refine s_getC (pc := 50) dX11_later_50 fl_11_76 ?_
    refine s_aload_n (pc := 53) 0 dX11_later_53 rfl rfl ?_
    refine s_getR (pc := 54) (ci := 11) (k := 8) (r := 45) dX11_later_54 fl_11_53 kd_0 rfl rs_0_8 ?_
    refine s_callVV (pc := 57) (as := [.ref (z_hn μ.2.2.1), .ref 45]) (st := []) dX11_later_57 lk_11_235 kd_8 (t_X1_plan N (z_hn μ.2.2.1) 45 μ) (by omega) rfl (by decide) rfl (fun _ μ_2 => ?_)
    refine s_aload_n (pc := 60) 0 dX11_later_60 rfl rfl ?_
    refine s_getR (pc := 61) (ci := 11) (k := 4) (r := 8) dX11_later_61 fl_11_28 kd_0 rfl rs_0_4 ?_
    refine s_aload_n (pc := 64) 0 dX11_later_64 rfl rfl ?_
    refine s_getC (pc := 65) dX11_later_65 fl_11_76 ?_
    refine s_aload_n (pc := 68) 0 dX11_later_68 rfl rfl ?_
    refine s_getR (pc := 69) (ci := 11) (k := 8) (r := 45) dX11_later_69 fl_11_53 kd_0 rfl rs_0_8 ?_
    refine s_callVV (pc := 72) (as := [.ref (z_hn μ_2.2.2.1), .ref 45]) (st := []) dX11_later_72 lk_11_253 kd_8 (t_X1_close N (z_hn μ_2.2.2.1) 45 μ_2) (by omega) rfl (by decide) rfl (fun _ μ_3 => ?_)
    refine s_iincB (pc := 75) (lv' := fun x1 => [(2, .int x1), (0, .ref 0), (1, .int c1)]) (c := 1) 2 dX11_later_75 rfl (by decide) (by decide) (fun _ => rfl) (fun x1 => ?_)
    refine s_goto (pc := 78) (tgt := 40) dX11_later_78 (by decide) ?_
    refine s_sub (lv' := [(0, .ref 0), (1, .int c1), (2, .int x1)]) [1, 2, 0] rfl ?_
    exact hkb x1 μ_3
  · refine s_sub (lv' := [(0, .ref 0)]) [0] rfl ?_
    exact he81 μ
def f_X11_later_L40 (N : Nat) (c1 : Int32) (e81 : z_S → Option (Int32 × z_S)) : Nat → Int32 → z_S → Option (Int32 × z_S)
  | 0, _, _ => none
  | n + 1, v2, μ => b_X11_later_L40 N c1 (f_X11_later_L40 N c1 e81 n) e81 v2 μ
theorem t_X11_later_L40 (N : Nat) (c1 : Int32) (e81 : z_S → Option (Int32 × z_S)) (he81 : ∀ (μ : z_S), z_sim true rI mX11_later 7 (e81 μ) 81 [(0, .ref 0)] [] μ) : ∀ (n : Nat) (v2 : Int32) (μ : z_S), z_sim true rI mX11_later 7 (f_X11_later_L40 N c1 e81 n v2 μ) 40 [(0, .ref 0), (1, .int c1), (2, .int v2)] [] μ
  | 0, _, _ => s_none
  | n + 1, v2, μ => tb_X11_later_L40 N c1 (f_X11_later_L40 N c1 e81 n) e81 (t_X11_later_L40 N c1 e81 he81 n) he81 v2 μ
def f_X11_later (N : Nat) (a1 : Int32) (μ : z_S) : Option (Int32 × z_S) :=
  if a1 < 0 then (some ((-1 : Int32), μ)) else if (30 : Int32) < a1 then (some ((-1 : Int32), μ)) else if (999 : Int32) < ((μ.1 39 0) + a1) then (some ((-1 : Int32), μ)) else z_bn (f_X8_copyFrom N 45 39 μ) fun _ μ_1 => f_X11_later_L40 N a1 (fun μ81 => z_bn (f_X8_countDone N 45 μ81) fun x2 μ_4 => some (x2, μ_4)) N (0 : Int32) μ_1
theorem t_X11_later (N : Nat) (a1 : Int32) (μ : z_S) : z_met true rI mX11_later 7 [.ref 0, .int a1] μ (f_X11_later N a1 μ) := by
  refine z_met.of (by decide +kernel) (by show _ ≤ _; first | decide | exact Nat.le_of_ble_eq_true rfl) (lv := [(0, .ref 0), (1, .int a1)]) rfl ?_
  unfold f_X11_later
  refine s_iload_n (pc := 0) 1 dX11_later_0 rfl rfl ?_
  refine s_if_lt (pc := 1) (tgt := 25) dX11_later_1 (by decide) ?_ ?_
  · refine s_iconst (pc := 25) (v := (-1 : Int32)) dX11_later_25 (by decide) ?_
    exact s_iret (pc := 26) rfl dX11_later_26 rfl
  · refine s_iload_n (pc := 4) 1 dX11_later_4 rfl rfl ?_
    refine s_bipush (pc := 5) (v := (30 : Int32)) dX11_later_5 (by decide) ?_
    refine s_icmp_gt (pc := 7) (tgt := 25) dX11_later_7 (by decide) ?_ ?_
    · refine s_iconst (pc := 25) (v := (-1 : Int32)) dX11_later_25 (by decide) ?_
      exact s_iret (pc := 26) rfl dX11_later_26 rfl
    · refine s_aload_n (pc := 10) 0 dX11_later_10 rfl rfl ?_
      refine s_getR (pc := 11) (ci := 11) (k := 7) (r := 39) dX11_later_11 fl_11_49 kd_0 rfl rs_0_7 ?_
      refine s_getI (pc := 14) (ci := 8) (k := 0) dX11_later_14 fl_11_149 kd_39 rfl ?_
      refine s_iload_n (pc := 17) 1 dX11_later_17 rfl rfl ?_
      refine s_iadd (pc := 18) dX11_later_18 ?_
      refine s_sipush (pc := 19) (v := (999 : Int32)) dX11_later_19 (by decide) ?_
      refine s_icmp_le (pc := 22) (tgt := 27) dX11_later_22 (by decide) ?_ ?_
      · refine s_iconst (pc := 25) (v := (-1 : Int32)) dX11_later_25 (by decide) ?_
        exact s_iret (pc := 26) rfl dX11_later_26 rfl
      · refine s_aload_n (pc := 27) 0 dX11_later_27 rfl rfl ?_
        refine s_getR (pc := 28) (ci := 11) (k := 8) (r := 45) dX11_later_28 fl_11_53 kd_0 rfl rs_0_8 ?_
        refine s_aload_n (pc := 31) 0 dX11_later_31 rfl rfl ?_
        refine s_getR (pc := 32) (ci := 11) (k := 7) (r := 39) dX11_later_32 fl_11_49 kd_0 rfl rs_0_7 ?_
        refine s_callVV (pc := 35) (as := [.ref 39]) (st := []) dX11_later_35 lk_11_249 kd_45 (t_X8_copyFrom N 45 39 μ) (by omega) rfl (by decide) rfl (fun _ μ_1 => ?_)
        refine s_iconst (pc := 38) (v := (0 : Int32)) dX11_later_38 (by decide) ?_
        refine s_istore_n (pc := 39) (lv' := [(2, .int (0 : Int32)), (0, .ref 0), (1, .int a1)]) dX11_later_39 rfl (by decide) rfl ?_
        refine s_sub (lv' := [(0, .ref 0), (1, .int a1), (2, .int (0 : Int32))]) [1, 2, 0] rfl ?_
        refine t_X11_later_L40 N a1 _ ?_ N (0 : Int32) μ_1
        · intro μ81
          refine s_aload_n (pc := 81) 0 dX11_later_81 rfl rfl ?_
          refine s_getR (pc := 82) (ci := 11) (k := 8) (r := 45) dX11_later_82 fl_11_53 kd_0 rfl rs_0_8 ?_
          refine s_callVI (pc := 85) (as := []) (st := []) dX11_later_85 lk_11_152 kd_45 (t_X8_countDone N 45 μ81) (by omega) rfl (by decide) rfl (fun x2 μ_4 => ?_)
          exact s_iret (pc := 88) rfl dX11_later_88 rfl
def f_X11_finished_B91 (N : Nat) (c1 : Int32) (kb : Int32 → z_S → Option (Int32 × z_S)) (v2 : Int32) (μ : z_S) : Option (Int32 × z_S) :=
  z_bd (v2 + 1) fun x3 => kb x3 μ
theorem t_X11_finished_B91 (N : Nat) (c1 : Int32)  (kb : Int32 → z_S → Option (Int32 × z_S)) (hkb : ∀ (a2 : Int32) (μ : z_S), z_sim true rI mX11_finished 7 (kb a2 μ) 30 [(0, .ref 0), (1, .int c1), (2, .int a2)] [] μ) (v2 : Int32)  (μ : z_S) : z_sim true rI mX11_finished 7 (f_X11_finished_B91 N c1 kb v2 μ) 91 [(0, .ref 0), (1, .int c1), (2, .int v2)] [] μ := by
  unfold f_X11_finished_B91
  refine s_iincB (pc := 91) (lv' := fun x3 => [(2, .int x3), (0, .ref 0), (1, .int c1)]) (c := 1) 2 dX11_finished_91 rfl (by decide) (by decide) (fun _ => rfl) (fun x3 => ?_)
  refine s_goto (pc := 94) (tgt := 30) dX11_finished_94 (by decide) ?_
  refine s_sub (lv' := [(0, .ref 0), (1, .int c1), (2, .int x3)]) [1, 2, 0] rfl ?_
  exact hkb x3 μ
def b_X11_finished_L30 (N : Nat) (c1 : Int32) (kb : Int32 → z_S → Option (Int32 × z_S)) (v2 : Int32) (μ : z_S) : Option (Int32 × z_S) :=
  if c1 < v2 then (some ((-1 : Int32), μ)) else z_bn (f_X8_countDone N 45 μ) fun x2 μ_3 => if x2 = (μ_3.1 ((z_hn μ_3.2.2.1) + 1) 0) then (some (v2, μ_3)) else if v2 < c1 then (z_bn (f_X1_plan N (z_hn μ_3.2.2.1) 45 μ_3) fun _ μ_4 => z_bn (f_X1_close N (z_hn μ_4.2.2.1) 45 μ_4) fun _ μ_5 => f_X11_finished_B91 N c1 kb v2 μ_5) else f_X11_finished_B91 N c1 kb v2 μ_3
theorem tb_X11_finished_L30 (N : Nat) (c1 : Int32) (kb : Int32 → z_S → Option (Int32 × z_S)) (hkb : ∀ (a2 : Int32) (μ : z_S), z_sim true rI mX11_finished 7 (kb a2 μ) 30 [(0, .ref 0), (1, .int c1), (2, .int a2)] [] μ) (v2 : Int32) (μ : z_S) : z_sim true rI mX11_finished 7 (b_X11_finished_L30 N c1 kb v2 μ) 30 [(0, .ref 0), (1, .int c1), (2, .int v2)] [] μ := by
  unfold b_X11_finished_L30
  refine s_iload_n (pc := 30) 2 dX11_finished_30 rfl rfl ?_
  refine s_iload_n (pc := 31) 1 dX11_finished_31 rfl rfl ?_
  refine s_icmp_gt (pc := 32) (tgt := 97) dX11_finished_32 (by decide) ?_ ?_
  · refine s_iconst (pc := 97) (v := (-1 : Int32)) dX11_finished_97 (by decide) ?_
    exact s_iret (pc := 98) rfl dX11_finished_98 rfl
  · refine s_aload_n (pc := 35) 0 dX11_finished_35 rfl rfl ?_
    refine s_getR (pc := 36) (ci := 11) (k := 8) (r := 45) dX11_finished_36 fl_11_53 kd_0 rfl rs_0_8 ?_
    refine s_callVI (pc := 39) (as := []) (st := []) dX11_finished_39 lk_11_152 kd_45 (t_X8_countDone N 45 μ) (by omega) rfl (by decide) rfl (fun x2 μ_3 => ?_)
    refine s_aload_n (pc := 42) 0 dX11_finished_42 rfl rfl ?_
    refine s_getC (pc := 43) dX11_finished_43 fl_11_76 ?_
    refine s_getR (pc := 46) (ci := 2) (k := 0) (r := ((z_hn μ_3.2.2.1) + 1)) dX11_finished_46 fl_11_146 (z_hn_k μ_3.2.2.1) rfl (gr_2_0_0 (z_hn_k μ_3.2.2.1)) ?_
    refine s_iconst (pc := 49) (v := (0 : Int32)) dX11_finished_49 (by decide) ?_
    refine s_ialdK (pc := 50) (k := 0) dX11_finished_50 (gk_2_1 (z_hn_k μ_3.2.2.1)) (by decide) (by decide) (by decide) ?_
    refine s_icmp_ne (pc := 51) (tgt := 56) dX11_finished_51 (by decide) ?_ ?_
    · refine s_iload_n (pc := 54) 2 dX11_finished_54 rfl rfl ?_
      exact s_iret (pc := 55) rfl dX11_finished_55 rfl
    · refine s_iload_n (pc := 56) 2 dX11_finished_56 rfl rfl ?_
      refine s_iload_n (pc := 57) 1 dX11_finished_57 rfl rfl ?_
      refine s_icmp_ge (pc := 58) (tgt := 91) dX11_finished_58 (by decide) ?_ ?_
      · refine s_aload_n (pc := 61) 0 dX11_finished_61 rfl rfl ?_
        refine s_getR (pc := 62) (ci := 11) (k := 4) (r := 8) dX11_finished_62 fl_11_28 kd_0 rfl rs_0_4 ?_
        refine s_aload_n (pc := 65) 0 dX11_finished_65 rfl rfl ?_
        refine s_getC (pc := 66) dX11_finished_66 fl_11_76 ?_
        refine s_aload_n (pc := 69) 0 dX11_finished_69 rfl rfl ?_
        refine s_getR (pc := 70) (ci := 11) (k := 8) (r := 45) dX11_finished_70 fl_11_53 kd_0 rfl rs_0_8 ?_
        refine s_callVV (pc := 73) (as := [.ref (z_hn μ_3.2.2.1), .ref 45]) (st := []) dX11_finished_73 lk_11_235 kd_8 (t_X1_plan N (z_hn μ_3.2.2.1) 45 μ_3) (by omega) rfl (by decide) rfl (fun _ μ_4 => ?_)
        refine s_aload_n (pc := 76) 0 dX11_finished_76 rfl rfl ?_
        refine s_getR (pc := 77) (ci := 11) (k := 4) (r := 8) dX11_finished_77 fl_11_28 kd_0 rfl rs_0_4 ?_
        refine s_aload_n (pc := 80) 0 dX11_finished_80 rfl rfl ?_
        refine s_getC (pc := 81) dX11_finished_81 fl_11_76 ?_
        refine s_aload_n (pc := 84) 0 dX11_finished_84 rfl rfl ?_
        refine s_getR (pc := 85) (ci := 11) (k := 8) (r := 45) dX11_finished_85 fl_11_53 kd_0 rfl rs_0_8 ?_
        refine s_callVV (pc := 88) (as := [.ref (z_hn μ_4.2.2.1), .ref 45]) (st := []) dX11_finished_88 lk_11_253 kd_8 (t_X1_close N (z_hn μ_4.2.2.1) 45 μ_4) (by omega) rfl (by decide) rfl (fun _ μ_5 => ?_)
        exact t_X11_finished_B91 N c1 kb hkb v2 μ_5
      · exact t_X11_finished_B91 N c1 kb hkb v2 μ_3
def f_X11_finished_L30 (N : Nat) (c1 : Int32) : Nat → Int32 → z_S → Option (Int32 × z_S)
  | 0, _, _ => none
  | n + 1, v2, μ => b_X11_finished_L30 N c1 (f_X11_finished_L30 N c1 n) v2 μ
theorem t_X11_finished_L30 (N : Nat) (c1 : Int32) : ∀ (n : Nat) (v2 : Int32) (μ : z_S), z_sim true rI mX11_finished 7 (f_X11_finished_L30 N c1 n v2 μ) 30 [(0, .ref 0), (1, .int c1), (2, .int v2)] [] μ
  | 0, _, _ => s_none
  | n + 1, v2, μ => tb_X11_finished_L30 N c1 (f_X11_finished_L30 N c1 n) (t_X11_finished_L30 N c1 n) v2 μ
def f_X11_finished (N : Nat) (μ : z_S) : Option (Int32 × z_S) :=
  z_bn (f_X8_copyFrom N 45 39 μ) fun _ μ_1 => z_bn (f_J9_min_7cf53 N (30 : Int32) ((999 : Int32) - (μ_1.1 39 0)) μ_1) fun x1 μ_2 => f_X11_finished_L30 N x1 N (0 : Int32) μ_2
theorem t_X11_finished (N : Nat) (μ : z_S) : z_met true rI mX11_finished 7 [.ref 0] μ (f_X11_finished N μ) := by
  refine z_met.of (by decide +kernel) (by show _ ≤ _; first | decide | exact Nat.le_of_ble_eq_true rfl) (lv := [(0, .ref 0)]) rfl ?_
  unfold f_X11_finished
  refine s_aload_n (pc := 0) 0 dX11_finished_0 rfl rfl ?_
  refine s_getR (pc := 1) (ci := 11) (k := 8) (r := 45) dX11_finished_1 fl_11_53 kd_0 rfl rs_0_8 ?_
  refine s_aload_n (pc := 4) 0 dX11_finished_4 rfl rfl ?_
  refine s_getR (pc := 5) (ci := 11) (k := 7) (r := 39) dX11_finished_5 fl_11_49 kd_0 rfl rs_0_7 ?_
  refine s_callVV (pc := 8) (as := [.ref 39]) (st := []) dX11_finished_8 lk_11_249 kd_45 (t_X8_copyFrom N 45 39 μ) (by omega) rfl (by decide) rfl (fun _ μ_1 => ?_)
  refine s_bipush (pc := 11) (v := (30 : Int32)) dX11_finished_11 (by decide) ?_
  refine s_sipush (pc := 13) (v := (999 : Int32)) dX11_finished_13 (by decide) ?_
  refine s_aload_n (pc := 16) 0 dX11_finished_16 rfl rfl ?_
  refine s_getR (pc := 17) (ci := 11) (k := 7) (r := 39) dX11_finished_17 fl_11_49 kd_0 rfl rs_0_7 ?_
  refine s_getI (pc := 20) (ci := 8) (k := 0) dX11_finished_20 fl_11_149 kd_39 rfl ?_
  refine s_isub (pc := 23) dX11_finished_23 ?_
  refine s_callSI (pc := 24) (as := [.int (30 : Int32), .int ((999 : Int32) - (μ_1.1 39 0))]) (st := []) dX11_finished_24 lk_11_256 (t_J9_min_7cf53 N (30 : Int32) ((999 : Int32) - (μ_1.1 39 0)) μ_1) (by omega) rfl (by decide) rfl (fun x1 μ_2 => ?_)
  refine s_istore_n (pc := 27) (lv' := [(1, .int x1), (0, .ref 0)]) dX11_finished_27 rfl (by decide) rfl ?_
  refine s_iconst (pc := 28) (v := (0 : Int32)) dX11_finished_28 (by decide) ?_
  refine s_istore_n (pc := 29) (lv' := [(2, .int (0 : Int32)), (1, .int x1), (0, .ref 0)]) dX11_finished_29 rfl (by decide) rfl ?_
  refine s_sub (lv' := [(0, .ref 0), (1, .int x1), (2, .int (0 : Int32))]) [2, 1, 0] rfl ?_
  refine t_X11_finished_L30 N x1 N (0 : Int32) μ_2
def f_X11_sheets_B15 (N : Nat)  (v1 : Int32) (μ : z_S) : Option (Int32 × z_S) :=
  z_bn (f_X7_chooseSheets N (z_hn μ.2.2.1) μ) fun _ μ_1 => if v1 = (-1 : Int32) then (some ((μ_1.1 34 2), μ_1)) else z_in v1 8 <| some ((μ_1.1 35 v1.toNatClampNeg), μ_1)
theorem t_X11_sheets_B15 (N : Nat)     (v1 : Int32)  (μ : z_S) : z_sim true rI mX11_sheets 22 (f_X11_sheets_B15 N   v1 μ) 15 [(0, .ref 0), (1, .int v1)] [] μ := by
  unfold f_X11_sheets_B15
  refine s_aload_n (pc := 15) 0 dX11_sheets_15 rfl rfl ?_
  refine s_getR (pc := 16) (ci := 11) (k := 6) (r := 34) dX11_sheets_16 fl_11_42 kd_0 rfl rs_0_6 ?_
  refine s_aload_n (pc := 19) 0 dX11_sheets_19 rfl rfl ?_
  refine s_getC (pc := 20) dX11_sheets_20 fl_11_76 ?_
  refine s_callVV (pc := 23) (as := [.ref (z_hn μ.2.2.1)]) (st := []) dX11_sheets_23 lk_11_262 kd_34 (t_X7_chooseSheets N (z_hn μ.2.2.1) μ) (by omega) rfl (by decide) rfl (fun _ μ_1 => ?_)
  refine s_iload_n (pc := 26) 1 dX11_sheets_26 rfl rfl ?_
  refine s_iconst (pc := 27) (v := (-1 : Int32)) dX11_sheets_27 (by decide) ?_
  refine s_icmp_ne (pc := 28) (tgt := 41) dX11_sheets_28 (by decide) ?_ ?_
  · refine s_aload_n (pc := 31) 0 dX11_sheets_31 rfl rfl ?_
    refine s_getR (pc := 32) (ci := 11) (k := 6) (r := 34) dX11_sheets_32 fl_11_42 kd_0 rfl rs_0_6 ?_
    refine s_getI (pc := 35) (ci := 7) (k := 2) dX11_sheets_35 fl_11_265 kd_34 rfl ?_
    refine s_goto (pc := 38) (tgt := 50) dX11_sheets_38 (by decide) ?_
    exact s_iret (pc := 50) rfl dX11_sheets_50 rfl
  · refine s_aload_n (pc := 41) 0 dX11_sheets_41 rfl rfl ?_
    refine s_getR (pc := 42) (ci := 11) (k := 6) (r := 34) dX11_sheets_42 fl_11_42 kd_0 rfl rs_0_6 ?_
    refine s_getR (pc := 45) (ci := 7) (k := 0) (r := 35) dX11_sheets_45 fl_11_268 kd_34 rfl rs_34_0 ?_
    refine s_iload_n (pc := 48) 1 dX11_sheets_48 rfl rfl ?_
    refine s_iald (pc := 49) dX11_sheets_49 kd_35 ?_
    exact s_iret (pc := 50) rfl dX11_sheets_50 rfl
def f_X11_sheets (N : Nat) (a1 : Int32) (μ : z_S) : Option (Int32 × z_S) :=
  if a1 = (-1 : Int32) then (f_X11_sheets_B15 N a1 μ) else z_bn (f_X11_isLetter N a1 μ) fun x1 μ_2 => if x1 = 0 then (some ((-1 : Int32), μ_2)) else f_X11_sheets_B15 N a1 μ_2
theorem t_X11_sheets (N : Nat) (a1 : Int32) (μ : z_S) : z_met true rI mX11_sheets 22 [.ref 0, .int a1] μ (f_X11_sheets N a1 μ) := by
  refine z_met.of (by decide +kernel) (by show _ ≤ _; first | decide | exact Nat.le_of_ble_eq_true rfl) (lv := [(0, .ref 0), (1, .int a1)]) rfl ?_
  unfold f_X11_sheets
  refine s_iload_n (pc := 0) 1 dX11_sheets_0 rfl rfl ?_
  refine s_iconst (pc := 1) (v := (-1 : Int32)) dX11_sheets_1 (by decide) ?_
  refine s_icmp_eq (pc := 2) (tgt := 15) dX11_sheets_2 (by decide) ?_ ?_
  · exact t_X11_sheets_B15 N a1 μ
  · refine s_aload_n (pc := 5) 0 dX11_sheets_5 rfl rfl ?_
    refine s_iload_n (pc := 6) 1 dX11_sheets_6 rfl rfl ?_
    refine s_callVI (pc := 7) (as := [.int a1]) (st := []) dX11_sheets_7 lk_11_169 kd_0 (t_X11_isLetter N a1 μ) (by omega) rfl (by decide) rfl (fun x1 μ_2 => ?_)
    refine s_if_ne (pc := 10) (tgt := 15) dX11_sheets_10 (by decide) ?_ ?_
    · refine s_iconst (pc := 13) (v := (-1 : Int32)) dX11_sheets_13 (by decide) ?_
      exact s_iret (pc := 14) rfl dX11_sheets_14 rfl
    · exact t_X11_sheets_B15 N a1 μ_2
def f_X11_shared_B15 (N : Nat)  (v1 : Int32) (μ : z_S) : Option (Int32 × z_S) :=
  z_bn (f_X6_plan N (z_hn μ.2.2.1) 39 μ) fun _ μ_1 => if v1 = (-1 : Int32) then (some ((μ_1.1 21 1), μ_1)) else z_in v1 8 <| some ((μ_1.1 22 v1.toNatClampNeg), μ_1)
theorem t_X11_shared_B15 (N : Nat)     (v1 : Int32)  (μ : z_S) : z_sim true rI mX11_shared 3 (f_X11_shared_B15 N   v1 μ) 15 [(0, .ref 0), (1, .int v1)] [] μ := by
  unfold f_X11_shared_B15
  refine s_aload_n (pc := 15) 0 dX11_shared_15 rfl rfl ?_
  refine s_getR (pc := 16) (ci := 11) (k := 5) (r := 21) dX11_shared_16 fl_11_35 kd_0 rfl rs_0_5 ?_
  refine s_aload_n (pc := 19) 0 dX11_shared_19 rfl rfl ?_
  refine s_getC (pc := 20) dX11_shared_20 fl_11_76 ?_
  refine s_aload_n (pc := 23) 0 dX11_shared_23 rfl rfl ?_
  refine s_getR (pc := 24) (ci := 11) (k := 7) (r := 39) dX11_shared_24 fl_11_49 kd_0 rfl rs_0_7 ?_
  refine s_callVV (pc := 27) (as := [.ref (z_hn μ.2.2.1), .ref 39]) (st := []) dX11_shared_27 lk_11_271 kd_21 (t_X6_plan N (z_hn μ.2.2.1) 39 μ) (by omega) rfl (by decide) rfl (fun _ μ_1 => ?_)
  refine s_iload_n (pc := 30) 1 dX11_shared_30 rfl rfl ?_
  refine s_iconst (pc := 31) (v := (-1 : Int32)) dX11_shared_31 (by decide) ?_
  refine s_icmp_ne (pc := 32) (tgt := 45) dX11_shared_32 (by decide) ?_ ?_
  · refine s_aload_n (pc := 35) 0 dX11_shared_35 rfl rfl ?_
    refine s_getR (pc := 36) (ci := 11) (k := 5) (r := 21) dX11_shared_36 fl_11_35 kd_0 rfl rs_0_5 ?_
    refine s_getI (pc := 39) (ci := 6) (k := 1) dX11_shared_39 fl_11_272 kd_21 rfl ?_
    refine s_goto (pc := 42) (tgt := 54) dX11_shared_42 (by decide) ?_
    exact s_iret (pc := 54) rfl dX11_shared_54 rfl
  · refine s_aload_n (pc := 45) 0 dX11_shared_45 rfl rfl ?_
    refine s_getR (pc := 46) (ci := 11) (k := 5) (r := 21) dX11_shared_46 fl_11_35 kd_0 rfl rs_0_5 ?_
    refine s_getR (pc := 49) (ci := 6) (k := 0) (r := 22) dX11_shared_49 fl_11_274 kd_21 rfl rs_21_0 ?_
    refine s_iload_n (pc := 52) 1 dX11_shared_52 rfl rfl ?_
    refine s_iald (pc := 53) dX11_shared_53 kd_22 ?_
    exact s_iret (pc := 54) rfl dX11_shared_54 rfl
def f_X11_shared (N : Nat) (a1 : Int32) (μ : z_S) : Option (Int32 × z_S) :=
  if a1 = (-1 : Int32) then (f_X11_shared_B15 N a1 μ) else z_bn (f_X11_isLetter N a1 μ) fun x1 μ_2 => if x1 = 0 then (some ((-1 : Int32), μ_2)) else f_X11_shared_B15 N a1 μ_2
theorem t_X11_shared (N : Nat) (a1 : Int32) (μ : z_S) : z_met true rI mX11_shared 3 [.ref 0, .int a1] μ (f_X11_shared N a1 μ) := by
  refine z_met.of (by decide +kernel) (by show _ ≤ _; first | decide | exact Nat.le_of_ble_eq_true rfl) (lv := [(0, .ref 0), (1, .int a1)]) rfl ?_
  unfold f_X11_shared
  refine s_iload_n (pc := 0) 1 dX11_shared_0 rfl rfl ?_
  refine s_iconst (pc := 1) (v := (-1 : Int32)) dX11_shared_1 (by decide) ?_
  refine s_icmp_eq (pc := 2) (tgt := 15) dX11_shared_2 (by decide) ?_ ?_
  · exact t_X11_shared_B15 N a1 μ
  · refine s_aload_n (pc := 5) 0 dX11_shared_5 rfl rfl ?_
    refine s_iload_n (pc := 6) 1 dX11_shared_6 rfl rfl ?_
    refine s_callVI (pc := 7) (as := [.int a1]) (st := []) dX11_shared_7 lk_11_169 kd_0 (t_X11_isLetter N a1 μ) (by omega) rfl (by decide) rfl (fun x1 μ_2 => ?_)
    refine s_if_ne (pc := 10) (tgt := 15) dX11_shared_10 (by decide) ?_ ?_
    · refine s_iconst (pc := 13) (v := (-1 : Int32)) dX11_shared_13 (by decide) ?_
      exact s_iret (pc := 14) rfl dX11_shared_14 rfl
    · exact t_X11_shared_B15 N a1 μ_2
def f_X11_tell_B42 (N : Nat) (c1 : Int32) (kb : Int32 → Int32 → z_S → Option (Int32 × z_S)) (e48 : Int32 → z_S → Option (Int32 × z_S)) (v2 : Int32) (v3 : Int32) (μ : z_S) : Option (Int32 × z_S) :=
  z_bd (v3 + 1) fun x3 => kb v2 x3 μ
theorem t_X11_tell_B42 (N : Nat) (c1 : Int32)  (kb : Int32 → Int32 → z_S → Option (Int32 × z_S)) (e48 : Int32 → z_S → Option (Int32 × z_S)) (hkb : ∀ (a2 : Int32) (a3 : Int32) (μ : z_S), z_sim true rI mX11_tell 1 (kb a2 a3 μ) 15 [(0, .ref 0), (1, .int c1), (2, .int a2), (3, .int a3)] [] μ) (he48 : ∀ (a2 : Int32) (μ : z_S), z_sim true rI mX11_tell 1 (e48 a2 μ) 48 [(0, .ref 0), (1, .int c1), (2, .int a2)] [] μ) (v2 : Int32) (v3 : Int32)  (μ : z_S) : z_sim true rI mX11_tell 1 (f_X11_tell_B42 N c1 kb e48 v2 v3 μ) 42 [(0, .ref 0), (1, .int c1), (2, .int v2), (3, .int v3)] [] μ := by
  unfold f_X11_tell_B42
  refine s_iincB (pc := 42) (lv' := fun x3 => [(3, .int x3), (0, .ref 0), (1, .int c1), (2, .int v2)]) (c := 1) 3 dX11_tell_42 rfl (by decide) (by decide) (fun _ => rfl) (fun x3 => ?_)
  refine s_goto (pc := 45) (tgt := 15) dX11_tell_45 (by decide) ?_
  refine s_sub (lv' := [(0, .ref 0), (1, .int c1), (2, .int v2), (3, .int x3)]) [1, 2, 3, 0] rfl ?_
  exact hkb v2 x3 μ
def b_X11_tell_L15 (N : Nat) (c1 : Int32) (kb : Int32 → Int32 → z_S → Option (Int32 × z_S)) (e48 : Int32 → z_S → Option (Int32 × z_S)) (v2 : Int32) (v3 : Int32) (μ : z_S) : Option (Int32 × z_S) :=
  if (11 : Int32) < v3 then (e48 v2 μ) else z_bn (f_X2_lossFrom N (z_hn μ.2.2.1) v3 μ) fun x1 μ_1 => z_bn (f_X2_lossFrom N (z_hn μ_1.2.2.1) v2 μ_1) fun x2 μ_2 => if x1 < x2 then (f_X11_tell_B42 N c1 kb e48 v3 v3 μ_2) else f_X11_tell_B42 N c1 kb e48 v2 v3 μ_2
theorem tb_X11_tell_L15 (N : Nat) (c1 : Int32) (kb : Int32 → Int32 → z_S → Option (Int32 × z_S)) (e48 : Int32 → z_S → Option (Int32 × z_S)) (hkb : ∀ (a2 : Int32) (a3 : Int32) (μ : z_S), z_sim true rI mX11_tell 1 (kb a2 a3 μ) 15 [(0, .ref 0), (1, .int c1), (2, .int a2), (3, .int a3)] [] μ) (he48 : ∀ (a2 : Int32) (μ : z_S), z_sim true rI mX11_tell 1 (e48 a2 μ) 48 [(0, .ref 0), (1, .int c1), (2, .int a2)] [] μ) (v2 : Int32) (v3 : Int32) (μ : z_S) : z_sim true rI mX11_tell 1 (b_X11_tell_L15 N c1 kb e48 v2 v3 μ) 15 [(0, .ref 0), (1, .int c1), (2, .int v2), (3, .int v3)] [] μ := by
  unfold b_X11_tell_L15
  refine s_iload_n (pc := 15) 3 dX11_tell_15 rfl rfl ?_
  refine s_bipush (pc := 16) (v := (11 : Int32)) dX11_tell_16 (by decide) ?_
  refine s_icmp_gt (pc := 18) (tgt := 48) dX11_tell_18 (by decide) ?_ ?_
  · refine s_sub (lv' := [(0, .ref 0), (1, .int c1), (2, .int v2)]) [0, 1, 2] rfl ?_
    exact he48 v2 μ
  · refine s_aload_n (pc := 21) 0 dX11_tell_21 rfl rfl ?_
    refine s_getC (pc := 22) dX11_tell_22 fl_11_76 ?_
    refine s_iload_n (pc := 25) 3 dX11_tell_25 rfl rfl ?_
    refine s_callVI (pc := 26) (as := [.int v3]) (st := []) dX11_tell_26 lk_11_277 (z_hn_k μ.2.2.1) (t_X2_lossFrom N (z_hn μ.2.2.1) v3 μ) (by omega) rfl (by decide) rfl (fun x1 μ_1 => ?_)
    refine s_aload_n (pc := 29) 0 dX11_tell_29 rfl rfl ?_
    refine s_getC (pc := 30) dX11_tell_30 fl_11_76 ?_
    refine s_iload_n (pc := 33) 2 dX11_tell_33 rfl rfl ?_
    refine s_callVI (pc := 34) (as := [.int v2]) (st := [.int x1]) dX11_tell_34 lk_11_277 (z_hn_k μ_1.2.2.1) (t_X2_lossFrom N (z_hn μ_1.2.2.1) v2 μ_1) (by omega) rfl (Nat.le_of_ble_eq_true rfl) rfl (fun x2 μ_2 => ?_)
    refine s_icmp_ge (pc := 37) (tgt := 42) dX11_tell_37 (by decide) ?_ ?_
    · refine s_iload_n (pc := 40) 3 dX11_tell_40 rfl rfl ?_
      refine s_istore_n (pc := 41) (lv' := [(2, .int v3), (0, .ref 0), (1, .int c1), (3, .int v3)]) dX11_tell_41 rfl (by decide) rfl ?_
      refine s_sub (lv' := [(0, .ref 0), (1, .int c1), (2, .int v3), (3, .int v3)]) [1, 2, 0, 3] rfl ?_
      exact t_X11_tell_B42 N c1 kb e48 hkb he48 v3 v3 μ_2
    · exact t_X11_tell_B42 N c1 kb e48 hkb he48 v2 v3 μ_2
def f_X11_tell_L15 (N : Nat) (c1 : Int32) (e48 : Int32 → z_S → Option (Int32 × z_S)) : Nat → Int32 → Int32 → z_S → Option (Int32 × z_S)
  | 0, _, _, _ => none
  | n + 1, v2, v3, μ => b_X11_tell_L15 N c1 (f_X11_tell_L15 N c1 e48 n) e48 v2 v3 μ
theorem t_X11_tell_L15 (N : Nat) (c1 : Int32) (e48 : Int32 → z_S → Option (Int32 × z_S)) (he48 : ∀ (a2 : Int32) (μ : z_S), z_sim true rI mX11_tell 1 (e48 a2 μ) 48 [(0, .ref 0), (1, .int c1), (2, .int a2)] [] μ) : ∀ (n : Nat) (v2 : Int32) (v3 : Int32) (μ : z_S), z_sim true rI mX11_tell 1 (f_X11_tell_L15 N c1 e48 n v2 v3 μ) 15 [(0, .ref 0), (1, .int c1), (2, .int v2), (3, .int v3)] [] μ
  | 0, _, _, _ => s_none
  | n + 1, v2, v3, μ => tb_X11_tell_L15 N c1 (f_X11_tell_L15 N c1 e48 n) e48 (t_X11_tell_L15 N c1 e48 he48 n) he48 v2 v3 μ
def f_X11_tell (N : Nat) (a1 : Int32) (μ : z_S) : Option (Int32 × z_S) :=
  if a1 < 0 then (some ((-1 : Int32), μ)) else if (1 : Int32) < a1 then (some ((-1 : Int32), μ)) else f_X11_tell_L15 N a1 (fun y48_2 μ48 => if a1 = 0 then (some (y48_2, μ48)) else z_bn (f_X2_lossFrom N (z_hn μ48.2.2.1) y48_2 μ48) fun x4 μ_3 => some (x4, μ_3)) N (0 : Int32) (1 : Int32) μ
theorem t_X11_tell (N : Nat) (a1 : Int32) (μ : z_S) : z_met true rI mX11_tell 1 [.ref 0, .int a1] μ (f_X11_tell N a1 μ) := by
  refine z_met.of (by decide +kernel) (by show _ ≤ _; first | decide | exact Nat.le_of_ble_eq_true rfl) (lv := [(0, .ref 0), (1, .int a1)]) rfl ?_
  unfold f_X11_tell
  refine s_iload_n (pc := 0) 1 dX11_tell_0 rfl rfl ?_
  refine s_if_lt (pc := 1) (tgt := 9) dX11_tell_1 (by decide) ?_ ?_
  · refine s_iconst (pc := 9) (v := (-1 : Int32)) dX11_tell_9 (by decide) ?_
    exact s_iret (pc := 10) rfl dX11_tell_10 rfl
  · refine s_iload_n (pc := 4) 1 dX11_tell_4 rfl rfl ?_
    refine s_iconst (pc := 5) (v := (1 : Int32)) dX11_tell_5 (by decide) ?_
    refine s_icmp_le (pc := 6) (tgt := 11) dX11_tell_6 (by decide) ?_ ?_
    · refine s_iconst (pc := 9) (v := (-1 : Int32)) dX11_tell_9 (by decide) ?_
      exact s_iret (pc := 10) rfl dX11_tell_10 rfl
    · refine s_iconst (pc := 11) (v := (0 : Int32)) dX11_tell_11 (by decide) ?_
      refine s_istore_n (pc := 12) (lv' := [(2, .int (0 : Int32)), (0, .ref 0), (1, .int a1)]) dX11_tell_12 rfl (by decide) rfl ?_
      refine s_iconst (pc := 13) (v := (1 : Int32)) dX11_tell_13 (by decide) ?_
      refine s_istore_n (pc := 14) (lv' := [(3, .int (1 : Int32)), (2, .int (0 : Int32)), (0, .ref 0), (1, .int a1)]) dX11_tell_14 rfl (by decide) rfl ?_
      refine s_sub (lv' := [(0, .ref 0), (1, .int a1), (2, .int (0 : Int32)), (3, .int (1 : Int32))]) [2, 3, 1, 0] rfl ?_
      refine t_X11_tell_L15 N a1 _ ?_ N (0 : Int32) (1 : Int32) μ
      · intro y48_2 μ48
        refine s_iload_n (pc := 48) 1 dX11_tell_48 rfl rfl ?_
        refine s_if_ne (pc := 49) (tgt := 56) dX11_tell_49 (by decide) ?_ ?_
        · refine s_iload_n (pc := 52) 2 dX11_tell_52 rfl rfl ?_
          refine s_goto (pc := 53) (tgt := 64) dX11_tell_53 (by decide) ?_
          exact s_iret (pc := 64) rfl dX11_tell_64 rfl
        · refine s_aload_n (pc := 56) 0 dX11_tell_56 rfl rfl ?_
          refine s_getC (pc := 57) dX11_tell_57 fl_11_76 ?_
          refine s_iload_n (pc := 60) 2 dX11_tell_60 rfl rfl ?_
          refine s_callVI (pc := 61) (as := [.int y48_2]) (st := []) dX11_tell_61 lk_11_277 (z_hn_k μ48.2.2.1) (t_X2_lossFrom N (z_hn μ48.2.2.1) y48_2 μ48) (by omega) rfl (by decide) rfl (fun x4 μ_3 => ?_)
          exact s_iret (pc := 64) rfl dX11_tell_64 rfl
def f_X11_children_B15 (N : Nat)  (v1 : Int32) (μ : z_S) : Option (Int32 × z_S) :=
  z_bn (f_X7_chooseGroups N (z_hn μ.2.2.1) μ) fun _ μ_1 => if v1 = (-1 : Int32) then (some ((μ_1.1 34 3), μ_1)) else z_in v1 8 <| some ((μ_1.1 36 v1.toNatClampNeg), μ_1)
theorem t_X11_children_B15 (N : Nat)     (v1 : Int32)  (μ : z_S) : z_sim true rI mX11_children 22 (f_X11_children_B15 N   v1 μ) 15 [(0, .ref 0), (1, .int v1)] [] μ := by
  unfold f_X11_children_B15
  refine s_aload_n (pc := 15) 0 dX11_children_15 rfl rfl ?_
  refine s_getR (pc := 16) (ci := 11) (k := 6) (r := 34) dX11_children_16 fl_11_42 kd_0 rfl rs_0_6 ?_
  refine s_aload_n (pc := 19) 0 dX11_children_19 rfl rfl ?_
  refine s_getC (pc := 20) dX11_children_20 fl_11_76 ?_
  refine s_callVV (pc := 23) (as := [.ref (z_hn μ.2.2.1)]) (st := []) dX11_children_23 lk_11_280 kd_34 (t_X7_chooseGroups N (z_hn μ.2.2.1) μ) (by omega) rfl (by decide) rfl (fun _ μ_1 => ?_)
  refine s_iload_n (pc := 26) 1 dX11_children_26 rfl rfl ?_
  refine s_iconst (pc := 27) (v := (-1 : Int32)) dX11_children_27 (by decide) ?_
  refine s_icmp_ne (pc := 28) (tgt := 41) dX11_children_28 (by decide) ?_ ?_
  · refine s_aload_n (pc := 31) 0 dX11_children_31 rfl rfl ?_
    refine s_getR (pc := 32) (ci := 11) (k := 6) (r := 34) dX11_children_32 fl_11_42 kd_0 rfl rs_0_6 ?_
    refine s_getI (pc := 35) (ci := 7) (k := 3) dX11_children_35 fl_11_283 kd_34 rfl ?_
    refine s_goto (pc := 38) (tgt := 50) dX11_children_38 (by decide) ?_
    exact s_iret (pc := 50) rfl dX11_children_50 rfl
  · refine s_aload_n (pc := 41) 0 dX11_children_41 rfl rfl ?_
    refine s_getR (pc := 42) (ci := 11) (k := 6) (r := 34) dX11_children_42 fl_11_42 kd_0 rfl rs_0_6 ?_
    refine s_getR (pc := 45) (ci := 7) (k := 1) (r := 36) dX11_children_45 fl_11_286 kd_34 rfl rs_34_1 ?_
    refine s_iload_n (pc := 48) 1 dX11_children_48 rfl rfl ?_
    refine s_iald (pc := 49) dX11_children_49 kd_36 ?_
    exact s_iret (pc := 50) rfl dX11_children_50 rfl
def f_X11_children (N : Nat) (a1 : Int32) (μ : z_S) : Option (Int32 × z_S) :=
  if a1 = (-1 : Int32) then (f_X11_children_B15 N a1 μ) else z_bn (f_X11_isLetter N a1 μ) fun x1 μ_2 => if x1 = 0 then (some ((-1 : Int32), μ_2)) else f_X11_children_B15 N a1 μ_2
theorem t_X11_children (N : Nat) (a1 : Int32) (μ : z_S) : z_met true rI mX11_children 22 [.ref 0, .int a1] μ (f_X11_children N a1 μ) := by
  refine z_met.of (by decide +kernel) (by show _ ≤ _; first | decide | exact Nat.le_of_ble_eq_true rfl) (lv := [(0, .ref 0), (1, .int a1)]) rfl ?_
  unfold f_X11_children
  refine s_iload_n (pc := 0) 1 dX11_children_0 rfl rfl ?_
  refine s_iconst (pc := 1) (v := (-1 : Int32)) dX11_children_1 (by decide) ?_
  refine s_icmp_eq (pc := 2) (tgt := 15) dX11_children_2 (by decide) ?_ ?_
  · exact t_X11_children_B15 N a1 μ
  · refine s_aload_n (pc := 5) 0 dX11_children_5 rfl rfl ?_
    refine s_iload_n (pc := 6) 1 dX11_children_6 rfl rfl ?_
    refine s_callVI (pc := 7) (as := [.int a1]) (st := []) dX11_children_7 lk_11_169 kd_0 (t_X11_isLetter N a1 μ) (by omega) rfl (by decide) rfl (fun x1 μ_2 => ?_)
    refine s_if_ne (pc := 10) (tgt := 15) dX11_children_10 (by decide) ?_ ?_
    · refine s_iconst (pc := 13) (v := (-1 : Int32)) dX11_children_13 (by decide) ?_
      exact s_iret (pc := 14) rfl dX11_children_14 rfl
    · exact t_X11_children_B15 N a1 μ_2
def b_X11_tellsLetters_L2 (N : Nat) (c1 : Int32) (kb : Int32 → z_S → Option (Int32 × z_S)) (v2 : Int32) (μ : z_S) : Option (Int32 × z_S) :=
  if v2 < c1 then (z_in ((3 : Int32) * v2) 1600 <| z_bn (f_X11_isLetter N (μ.1 2 ((3 : Int32) * v2).toNatClampNeg) μ) fun x1 μ_1 => if x1 = 0 then (some ((0 : Int32), μ_1)) else z_bd (v2 + 1) fun x2 => kb x2 μ_1) else some ((1 : Int32), μ)
theorem tb_X11_tellsLetters_L2 (N : Nat) (c1 : Int32) (kb : Int32 → z_S → Option (Int32 × z_S)) (hkb : ∀ (a2 : Int32) (μ : z_S), z_sim true rI mX11_tellsLetters 1 (kb a2 μ) 2 [(0, .ref 0), (1, .int c1), (2, .int a2)] [] μ) (v2 : Int32) (μ : z_S) : z_sim true rI mX11_tellsLetters 1 (b_X11_tellsLetters_L2 N c1 kb v2 μ) 2 [(0, .ref 0), (1, .int c1), (2, .int v2)] [] μ := by
  unfold b_X11_tellsLetters_L2
  refine s_iload_n (pc := 2) 2 dX11_tellsLetters_2 rfl rfl ?_
  refine s_iload_n (pc := 3) 1 dX11_tellsLetters_3 rfl rfl ?_
  refine s_icmp_ge (pc := 4) (tgt := 33) dX11_tellsLetters_4 (by decide) ?_ ?_
  · refine s_aload_n (pc := 7) 0 dX11_tellsLetters_7 rfl rfl ?_
    refine s_aload_n (pc := 8) 0 dX11_tellsLetters_8 rfl rfl ?_
    refine s_getR (pc := 9) (ci := 11) (k := 0) (r := 1) dX11_tellsLetters_9 fl_11_12 kd_0 rfl rs_0_0 ?_
    refine s_getR (pc := 12) (ci := 10) (k := 0) (r := 2) dX11_tellsLetters_12 fl_11_292 kd_1 rfl rs_1_0 ?_
    refine s_iconst (pc := 15) (v := (3 : Int32)) dX11_tellsLetters_15 (by decide) ?_
    refine s_iload_n (pc := 16) 2 dX11_tellsLetters_16 rfl rfl ?_
    refine s_imul (pc := 17) dX11_tellsLetters_17 ?_
    refine s_iald (pc := 18) dX11_tellsLetters_18 kd_2 ?_
    refine s_callVI (pc := 19) (as := [.int (μ.1 2 ((3 : Int32) * v2).toNatClampNeg)]) (st := []) dX11_tellsLetters_19 lk_11_169 kd_0 (t_X11_isLetter N (μ.1 2 ((3 : Int32) * v2).toNatClampNeg) μ) (by omega) rfl (by decide) rfl (fun x1 μ_1 => ?_)
    refine s_if_ne (pc := 22) (tgt := 27) dX11_tellsLetters_22 (by decide) ?_ ?_
    · refine s_iconst (pc := 25) (v := (0 : Int32)) dX11_tellsLetters_25 (by decide) ?_
      exact s_zret0 (pc := 26) dX11_tellsLetters_26 rfl rfl
    · refine s_iincB (pc := 27) (lv' := fun x2 => [(2, .int x2), (0, .ref 0), (1, .int c1)]) (c := 1) 2 dX11_tellsLetters_27 rfl (by decide) (by decide) (fun _ => rfl) (fun x2 => ?_)
      refine s_goto (pc := 30) (tgt := 2) dX11_tellsLetters_30 (by decide) ?_
      refine s_sub (lv' := [(0, .ref 0), (1, .int c1), (2, .int x2)]) [1, 2, 0] rfl ?_
      exact hkb x2 μ_1
  · refine s_iconst (pc := 33) (v := (1 : Int32)) dX11_tellsLetters_33 (by decide) ?_
    exact s_zret0 (pc := 34) dX11_tellsLetters_34 rfl rfl
def f_X11_tellsLetters_L2 (N : Nat) (c1 : Int32) : Nat → Int32 → z_S → Option (Int32 × z_S)
  | 0, _, _ => none
  | n + 1, v2, μ => b_X11_tellsLetters_L2 N c1 (f_X11_tellsLetters_L2 N c1 n) v2 μ
theorem t_X11_tellsLetters_L2 (N : Nat) (c1 : Int32) : ∀ (n : Nat) (v2 : Int32) (μ : z_S), z_sim true rI mX11_tellsLetters 1 (f_X11_tellsLetters_L2 N c1 n v2 μ) 2 [(0, .ref 0), (1, .int c1), (2, .int v2)] [] μ
  | 0, _, _ => s_none
  | n + 1, v2, μ => tb_X11_tellsLetters_L2 N c1 (f_X11_tellsLetters_L2 N c1 n) (t_X11_tellsLetters_L2 N c1 n) v2 μ
def f_X11_tellsLetters (N : Nat) (a1 : Int32) (μ : z_S) : Option (Int32 × z_S) :=
  f_X11_tellsLetters_L2 N a1 N (0 : Int32) μ
theorem t_X11_tellsLetters (N : Nat) (a1 : Int32) (μ : z_S) : z_met true rI mX11_tellsLetters 1 [.ref 0, .int a1] μ (f_X11_tellsLetters N a1 μ) := by
  refine z_met.of (by decide +kernel) (by show _ ≤ _; first | decide | exact Nat.le_of_ble_eq_true rfl) (lv := [(0, .ref 0), (1, .int a1)]) rfl ?_
  unfold f_X11_tellsLetters
  refine s_iconst (pc := 0) (v := (0 : Int32)) dX11_tellsLetters_0 (by decide) ?_
  refine s_istore_n (pc := 1) (lv' := [(2, .int (0 : Int32)), (0, .ref 0), (1, .int a1)]) dX11_tellsLetters_1 rfl (by decide) rfl ?_
  refine s_sub (lv' := [(0, .ref 0), (1, .int a1), (2, .int (0 : Int32))]) [1, 2, 0] rfl ?_
  refine t_X11_tellsLetters_L2 N a1 N (0 : Int32) μ
def b_X11_see_L67 (N : Nat) (c1 : Int32) (kb : Int32 → z_S → Option (Int32 × z_S)) (e113 : z_S → Option (Int32 × z_S)) (v3 : Int32) (μ : z_S) : Option (Int32 × z_S) :=
  if v3 < c1 then (z_in ((3 : Int32) * v3) 1600 <| z_in v3 16 <| z_bd (z_setI μ 52 v3.toNatClampNeg (μ.1 2 ((3 : Int32) * v3).toNatClampNeg)) fun μ_3 => z_bn (f_X10_pairAt N (((3 : Int32) * v3) + (1 : Int32)) μ_3) fun x3 μ_4 => z_in v3 16 <| z_bd (z_setI μ_4 53 v3.toNatClampNeg x3) fun μ_5 => z_bd (v3 + 1) fun x4 => kb x4 μ_5) else e113 μ
theorem tb_X11_see_L67 (N : Nat) (c1 : Int32) (kb : Int32 → z_S → Option (Int32 × z_S)) (e113 : z_S → Option (Int32 × z_S)) (hkb : ∀ (a3 : Int32) (μ : z_S), z_sim true rI mX11_see 2 (kb a3 μ) 67 [(0, .ref 0), (1, .int c1), (3, .int a3)] [] μ) (he113 : ∀ (μ : z_S), z_sim true rI mX11_see 2 (e113 μ) 113 [(0, .ref 0), (1, .int c1)] [] μ) (v3 : Int32) (μ : z_S) : z_sim true rI mX11_see 2 (b_X11_see_L67 N c1 kb e113 v3 μ) 67 [(0, .ref 0), (1, .int c1), (3, .int v3)] [] μ := by
  unfold b_X11_see_L67
  refine s_iload_n (pc := 67) 2 dX11_see_67 rfl rfl ?_
  refine s_iload_n (pc := 68) 1 dX11_see_68 rfl rfl ?_
  refine s_icmp_ge (pc := 69) (tgt := 113) dX11_see_69 (by decide) ?_ ?_
  · refine s_aload_n (pc := 72) 0 dX11_see_72 rfl rfl ?_
    refine s_getR (pc := 73) (ci := 11) (k := 10) (r := 52) dX11_see_73 fl_11_60 kd_0 rfl rs_0_10 ?_
    refine s_iload_n (pc := 76) 2 dX11_see_76 rfl rfl ?_
    refine s_aload_n (pc := 77) 0 dX11_see_77 rfl rfl ?_
    refine s_getR (pc := 78) (ci := 11) (k := 0) (r := 1) dX11_see_78 fl_11_12 kd_0 rfl rs_0_0 ?_
    refine s_getR (pc := 81) (ci := 10) (k := 0) (r := 2) dX11_see_81 fl_11_292 kd_1 rfl rs_1_0 ?_
    refine s_iconst (pc := 84) (v := (3 : Int32)) dX11_see_84 (by decide) ?_
    refine s_iload_n (pc := 85) 2 dX11_see_85 rfl rfl ?_
    refine s_imul (pc := 86) dX11_see_86 ?_
    refine s_iald (pc := 87) dX11_see_87 kd_2 ?_
    refine s_iast (pc := 88) dX11_see_88 kd_52 (fun μ_3 => ?_)
    refine s_aload_n (pc := 89) 0 dX11_see_89 rfl rfl ?_
    refine s_getR (pc := 90) (ci := 11) (k := 11) (r := 53) dX11_see_90 fl_11_64 kd_0 rfl rs_0_11 ?_
    refine s_iload_n (pc := 93) 2 dX11_see_93 rfl rfl ?_
    refine s_aload_n (pc := 94) 0 dX11_see_94 rfl rfl ?_
    refine s_getR (pc := 95) (ci := 11) (k := 0) (r := 1) dX11_see_95 fl_11_12 kd_0 rfl rs_0_0 ?_
    refine s_iconst (pc := 98) (v := (3 : Int32)) dX11_see_98 (by decide) ?_
    refine s_iload_n (pc := 99) 2 dX11_see_99 rfl rfl ?_
    refine s_imul (pc := 100) dX11_see_100 ?_
    refine s_iconst (pc := 101) (v := (1 : Int32)) dX11_see_101 (by decide) ?_
    refine s_iadd (pc := 102) dX11_see_102 ?_
    refine s_callVI (pc := 103) (as := [.int (((3 : Int32) * v3) + (1 : Int32))]) (st := [.int v3, .ref 53]) dX11_see_103 lk_11_295 kd_1 (t_X10_pairAt N (((3 : Int32) * v3) + (1 : Int32)) μ_3) (by omega) rfl (Nat.le_of_ble_eq_true rfl) rfl (fun x3 μ_4 => ?_)
    refine s_iast (pc := 106) dX11_see_106 kd_53 (fun μ_5 => ?_)
    refine s_iincB (pc := 107) (lv' := fun x4 => [(3, .int x4), (0, .ref 0), (1, .int c1)]) (c := 1) 2 dX11_see_107 rfl (by decide) (by decide) (fun _ => rfl) (fun x4 => ?_)
    refine s_goto (pc := 110) (tgt := 67) dX11_see_110 (by decide) ?_
    refine s_sub (lv' := [(0, .ref 0), (1, .int c1), (3, .int x4)]) [1, 2, 0] rfl ?_
    exact hkb x4 μ_5
  · refine s_sub (lv' := [(0, .ref 0), (1, .int c1)]) [0, 1] rfl ?_
    exact he113 μ
def f_X11_see_L67 (N : Nat) (c1 : Int32) (e113 : z_S → Option (Int32 × z_S)) : Nat → Int32 → z_S → Option (Int32 × z_S)
  | 0, _, _ => none
  | n + 1, v3, μ => b_X11_see_L67 N c1 (f_X11_see_L67 N c1 e113 n) e113 v3 μ
theorem t_X11_see_L67 (N : Nat) (c1 : Int32) (e113 : z_S → Option (Int32 × z_S)) (he113 : ∀ (μ : z_S), z_sim true rI mX11_see 2 (e113 μ) 113 [(0, .ref 0), (1, .int c1)] [] μ) : ∀ (n : Nat) (v3 : Int32) (μ : z_S), z_sim true rI mX11_see 2 (f_X11_see_L67 N c1 e113 n v3 μ) 67 [(0, .ref 0), (1, .int c1), (3, .int v3)] [] μ
  | 0, _, _ => s_none
  | n + 1, v3, μ => tb_X11_see_L67 N c1 (f_X11_see_L67 N c1 e113 n) e113 (t_X11_see_L67 N c1 e113 he113 n) he113 v3 μ
def f_X11_see_B46 (N : Nat)  (v1 : Int32) (s0 : Int32) (μ : z_S) : Option (Int32 × z_S) :=
  z_bd (z_setI μ 1 1 (0 : Int32)) fun μ_1 => if s0 = 0 then (z_bn (f_X11_refuseNumber N (1 : Int32) μ_1) fun x2 μ_2 => some (x2, μ_2)) else f_X11_see_L67 N v1 (fun μ113 => z_bd (z_setI μ113 0 15 v1) fun μ_6 => some (v1, μ_6)) N (0 : Int32) μ_1
theorem t_X11_see_B46 (N : Nat)     (v1 : Int32) (s0 : Int32)  (μ : z_S) : z_sim true rI mX11_see 2 (f_X11_see_B46 N   v1 s0 μ) 46 [(0, .ref 0), (1, .int v1)] [.int s0] μ := by
  unfold f_X11_see_B46
  refine s_istore_n (pc := 46) (lv' := [(2, .int s0), (0, .ref 0), (1, .int v1)]) dX11_see_46 rfl (by decide) rfl ?_
  refine s_aload_n (pc := 47) 1 dX11_see_47 rfl rfl ?_
  refine s_getR (pc := 48) (ci := 11) (k := 0) (r := 1) dX11_see_48 fl_11_12 kd_0 rfl rs_0_0 ?_
  refine s_iconst (pc := 51) (v := (0 : Int32)) dX11_see_51 (by decide) ?_
  refine s_putI (pc := 52) (ci := 10) (k := 1) dX11_see_52 fl_11_105 kd_1 rfl rfl (fun μ_1 => ?_)
  refine s_iload_n (pc := 55) 0 dX11_see_55 rfl rfl ?_
  refine s_if_ne (pc := 56) (tgt := 65) dX11_see_56 (by decide) ?_ ?_
  · refine s_aload_n (pc := 59) 1 dX11_see_59 rfl rfl ?_
    refine s_iconst (pc := 60) (v := (1 : Int32)) dX11_see_60 (by decide) ?_
    refine s_callVI (pc := 61) (as := [.int (1 : Int32)]) (st := []) dX11_see_61 lk_11_108 kd_0 (t_X11_refuseNumber N (1 : Int32) μ_1) (by omega) rfl (by decide) rfl (fun x2 μ_2 => ?_)
    exact s_iret (pc := 64) rfl dX11_see_64 rfl
  · refine s_iconst (pc := 65) (v := (0 : Int32)) dX11_see_65 (by decide) ?_
    refine s_istore_n (pc := 66) (lv' := [(3, .int (0 : Int32)), (2, .int s0), (0, .ref 0), (1, .int v1)]) dX11_see_66 rfl (by decide) rfl ?_
    refine s_sub (lv' := [(0, .ref 0), (1, .int v1), (3, .int (0 : Int32))]) [2, 3, 0] rfl ?_
    refine t_X11_see_L67 N v1 _ ?_ N (0 : Int32) μ_1
    · intro μ113
      refine s_aload_n (pc := 113) 0 dX11_see_113 rfl rfl ?_
      refine s_iload_n (pc := 114) 1 dX11_see_114 rfl rfl ?_
      refine s_putI (pc := 115) (ci := 11) (k := 15) dX11_see_115 fl_11_134 kd_0 rfl rfl (fun μ_6 => ?_)
      refine s_iload_n (pc := 118) 1 dX11_see_118 rfl rfl ?_
      exact s_iret (pc := 119) rfl dX11_see_119 rfl
def f_X11_see_B45 (N : Nat)  (v1 : Int32) (μ : z_S) : Option (Int32 × z_S) :=
  f_X11_see_B46 N v1 (0 : Int32) μ
theorem t_X11_see_B45 (N : Nat)     (v1 : Int32)  (μ : z_S) : z_sim true rI mX11_see 2 (f_X11_see_B45 N   v1 μ) 45 [(0, .ref 0), (1, .int v1)] [] μ := by
  unfold f_X11_see_B45
  refine s_iconst (pc := 45) (v := (0 : Int32)) dX11_see_45 (by decide) ?_
  exact t_X11_see_B46 N v1 (0 : Int32) μ
def f_X11_see (N : Nat) (μ : z_S) : Option (Int32 × z_S) :=
  z_nz (3 : Int32) <| z_bd ((μ.1 1 1) / (3 : Int32)) fun x1 => z_nz (3 : Int32) <| if ((μ.1 1 1) - (μ.1 1 1) / (3 : Int32) * (3 : Int32)) = 0 then (if x1 < (1 : Int32) then (f_X11_see_B45 N x1 μ) else if (16 : Int32) < x1 then (f_X11_see_B45 N x1 μ) else z_bn (f_X11_tellsLetters N x1 μ) fun x5 μ_7 => if x5 = 0 then (f_X11_see_B45 N x1 μ_7) else f_X11_see_B46 N x1 (1 : Int32) μ_7) else f_X11_see_B45 N x1 μ
theorem t_X11_see (N : Nat) (μ : z_S) : z_met true rI mX11_see 2 [.ref 0] μ (f_X11_see N μ) := by
  refine z_met.of (by decide +kernel) (by show _ ≤ _; first | decide | exact Nat.le_of_ble_eq_true rfl) (lv := [(0, .ref 0)]) rfl ?_
  unfold f_X11_see
  refine s_aload_n (pc := 0) 0 dX11_see_0 rfl rfl ?_
  refine s_getR (pc := 1) (ci := 11) (k := 0) (r := 1) dX11_see_1 fl_11_12 kd_0 rfl rs_0_0 ?_
  refine s_getI (pc := 4) (ci := 10) (k := 1) dX11_see_4 fl_11_105 kd_1 rfl ?_
  refine s_iconst (pc := 7) (v := (3 : Int32)) dX11_see_7 (by decide) ?_
  refine s_idiv (pc := 8) dX11_see_8 ?_
  refine s_letI (fun x1 => ?_)
  refine s_istore_n (pc := 9) (lv' := [(1, .int x1), (0, .ref 0)]) dX11_see_9 rfl (by decide) rfl ?_
  refine s_aload_n (pc := 10) 1 dX11_see_10 rfl rfl ?_
  refine s_getR (pc := 11) (ci := 11) (k := 0) (r := 1) dX11_see_11 fl_11_12 kd_0 rfl rs_0_0 ?_
  refine s_getI (pc := 14) (ci := 10) (k := 1) dX11_see_14 fl_11_105 kd_1 rfl ?_
  refine s_iconst (pc := 17) (v := (3 : Int32)) dX11_see_17 (by decide) ?_
  refine s_irem (pc := 18) dX11_see_18 ?_
  refine s_if_ne (pc := 19) (tgt := 45) dX11_see_19 (by decide) ?_ ?_
  · refine s_iload_n (pc := 22) 0 dX11_see_22 rfl rfl ?_
    refine s_iconst (pc := 23) (v := (1 : Int32)) dX11_see_23 (by decide) ?_
    refine s_icmp_lt (pc := 24) (tgt := 45) dX11_see_24 (by decide) ?_ ?_
    · refine s_sub (lv' := [(0, .ref 0), (1, .int x1)]) [1, 0] rfl ?_
      exact t_X11_see_B45 N x1 μ
    · refine s_iload_n (pc := 27) 0 dX11_see_27 rfl rfl ?_
      refine s_bipush (pc := 28) (v := (16 : Int32)) dX11_see_28 (by decide) ?_
      refine s_icmp_gt (pc := 30) (tgt := 45) dX11_see_30 (by decide) ?_ ?_
      · refine s_sub (lv' := [(0, .ref 0), (1, .int x1)]) [1, 0] rfl ?_
        exact t_X11_see_B45 N x1 μ
      · refine s_aload_n (pc := 33) 1 dX11_see_33 rfl rfl ?_
        refine s_iload_n (pc := 34) 0 dX11_see_34 rfl rfl ?_
        refine s_callVI (pc := 35) (as := [.int x1]) (st := []) dX11_see_35 lk_11_289 kd_0 (t_X11_tellsLetters N x1 μ) (by omega) rfl (by decide) rfl (fun x5 μ_7 => ?_)
        refine s_if_eq (pc := 38) (tgt := 45) dX11_see_38 (by decide) ?_ ?_
        · refine s_sub (lv' := [(0, .ref 0), (1, .int x1)]) [1, 0] rfl ?_
          exact t_X11_see_B45 N x1 μ_7
        · refine s_iconst (pc := 41) (v := (1 : Int32)) dX11_see_41 (by decide) ?_
          refine s_goto (pc := 42) (tgt := 46) dX11_see_42 (by decide) ?_
          refine s_sub (lv' := [(0, .ref 0), (1, .int x1)]) [1, 0] rfl ?_
          exact t_X11_see_B46 N x1 (1 : Int32) μ_7
  · refine s_sub (lv' := [(0, .ref 0), (1, .int x1)]) [1, 0] rfl ?_
    exact t_X11_see_B45 N x1 μ
def b_X11_fitsSeen_L2 (N : Nat) (c1 : Int32) (kb : Int32 → z_S → Option (Int32 × z_S)) (v2 : Int32) (μ : z_S) : Option (Int32 × z_S) :=
  if v2 < (μ.1 0 15) then (z_in v2 16 <| z_bn (f_X4_timeOf N (z_hn μ.2.2.1) 39 (μ.1 52 v2.toNatClampNeg) c1 μ) fun x1 μ_1 => z_in v2 16 <| if x1 = (μ_1.1 53 v2.toNatClampNeg) then (z_bd (v2 + 1) fun x2 => kb x2 μ_1) else some ((0 : Int32), μ_1)) else some ((1 : Int32), μ)
theorem tb_X11_fitsSeen_L2 (N : Nat) (c1 : Int32) (kb : Int32 → z_S → Option (Int32 × z_S)) (hkb : ∀ (a2 : Int32) (μ : z_S), z_sim true rI mX11_fitsSeen 4 (kb a2 μ) 2 [(0, .ref 0), (1, .int c1), (2, .int a2)] [] μ) (v2 : Int32) (μ : z_S) : z_sim true rI mX11_fitsSeen 4 (b_X11_fitsSeen_L2 N c1 kb v2 μ) 2 [(0, .ref 0), (1, .int c1), (2, .int v2)] [] μ := by
  unfold b_X11_fitsSeen_L2
  refine s_iload_n (pc := 2) 2 dX11_fitsSeen_2 rfl rfl ?_
  refine s_aload_n (pc := 3) 0 dX11_fitsSeen_3 rfl rfl ?_
  refine s_getI (pc := 4) (ci := 11) (k := 15) dX11_fitsSeen_4 fl_11_134 kd_0 rfl ?_
  refine s_icmp_ge (pc := 7) (tgt := 49) dX11_fitsSeen_7 (by decide) ?_ ?_
  · refine s_aload_n (pc := 10) 0 dX11_fitsSeen_10 rfl rfl ?_
    refine s_getR (pc := 11) (ci := 11) (k := 3) (r := 4) dX11_fitsSeen_11 fl_11_19 kd_0 rfl rs_0_3 ?_
    refine s_aload_n (pc := 14) 0 dX11_fitsSeen_14 rfl rfl ?_
    refine s_getC (pc := 15) dX11_fitsSeen_15 fl_11_76 ?_
    refine s_aload_n (pc := 18) 0 dX11_fitsSeen_18 rfl rfl ?_
    refine s_getR (pc := 19) (ci := 11) (k := 7) (r := 39) dX11_fitsSeen_19 fl_11_49 kd_0 rfl rs_0_7 ?_
    refine s_aload_n (pc := 22) 0 dX11_fitsSeen_22 rfl rfl ?_
    refine s_getR (pc := 23) (ci := 11) (k := 10) (r := 52) dX11_fitsSeen_23 fl_11_60 kd_0 rfl rs_0_10 ?_
    refine s_iload_n (pc := 26) 2 dX11_fitsSeen_26 rfl rfl ?_
    refine s_iald (pc := 27) dX11_fitsSeen_27 kd_52 ?_
    refine s_iload_n (pc := 28) 1 dX11_fitsSeen_28 rfl rfl ?_
    refine s_callVI (pc := 29) (as := [.ref (z_hn μ.2.2.1), .ref 39, .int (μ.1 52 v2.toNatClampNeg), .int c1]) (st := []) dX11_fitsSeen_29 lk_11_223 kd_4 (t_X4_timeOf N (z_hn μ.2.2.1) 39 (μ.1 52 v2.toNatClampNeg) c1 μ) (by omega) rfl (by decide) rfl (fun x1 μ_1 => ?_)
    refine s_aload_n (pc := 32) 0 dX11_fitsSeen_32 rfl rfl ?_
    refine s_getR (pc := 33) (ci := 11) (k := 11) (r := 53) dX11_fitsSeen_33 fl_11_64 kd_0 rfl rs_0_11 ?_
    refine s_iload_n (pc := 36) 2 dX11_fitsSeen_36 rfl rfl ?_
    refine s_iald (pc := 37) dX11_fitsSeen_37 kd_53 ?_
    refine s_icmp_eq (pc := 38) (tgt := 43) dX11_fitsSeen_38 (by decide) ?_ ?_
    · refine s_iincB (pc := 43) (lv' := fun x2 => [(2, .int x2), (0, .ref 0), (1, .int c1)]) (c := 1) 2 dX11_fitsSeen_43 rfl (by decide) (by decide) (fun _ => rfl) (fun x2 => ?_)
      refine s_goto (pc := 46) (tgt := 2) dX11_fitsSeen_46 (by decide) ?_
      refine s_sub (lv' := [(0, .ref 0), (1, .int c1), (2, .int x2)]) [1, 2, 0] rfl ?_
      exact hkb x2 μ_1
    · refine s_iconst (pc := 41) (v := (0 : Int32)) dX11_fitsSeen_41 (by decide) ?_
      exact s_zret0 (pc := 42) dX11_fitsSeen_42 rfl rfl
  · refine s_iconst (pc := 49) (v := (1 : Int32)) dX11_fitsSeen_49 (by decide) ?_
    exact s_zret0 (pc := 50) dX11_fitsSeen_50 rfl rfl
def f_X11_fitsSeen_L2 (N : Nat) (c1 : Int32) : Nat → Int32 → z_S → Option (Int32 × z_S)
  | 0, _, _ => none
  | n + 1, v2, μ => b_X11_fitsSeen_L2 N c1 (f_X11_fitsSeen_L2 N c1 n) v2 μ
theorem t_X11_fitsSeen_L2 (N : Nat) (c1 : Int32) : ∀ (n : Nat) (v2 : Int32) (μ : z_S), z_sim true rI mX11_fitsSeen 4 (f_X11_fitsSeen_L2 N c1 n v2 μ) 2 [(0, .ref 0), (1, .int c1), (2, .int v2)] [] μ
  | 0, _, _ => s_none
  | n + 1, v2, μ => tb_X11_fitsSeen_L2 N c1 (f_X11_fitsSeen_L2 N c1 n) (t_X11_fitsSeen_L2 N c1 n) v2 μ
def f_X11_fitsSeen (N : Nat) (a1 : Int32) (μ : z_S) : Option (Int32 × z_S) :=
  f_X11_fitsSeen_L2 N a1 N (0 : Int32) μ
theorem t_X11_fitsSeen (N : Nat) (a1 : Int32) (μ : z_S) : z_met true rI mX11_fitsSeen 4 [.ref 0, .int a1] μ (f_X11_fitsSeen N a1 μ) := by
  refine z_met.of (by decide +kernel) (by show _ ≤ _; first | decide | exact Nat.le_of_ble_eq_true rfl) (lv := [(0, .ref 0), (1, .int a1)]) rfl ?_
  unfold f_X11_fitsSeen
  refine s_iconst (pc := 0) (v := (0 : Int32)) dX11_fitsSeen_0 (by decide) ?_
  refine s_istore_n (pc := 1) (lv' := [(2, .int (0 : Int32)), (0, .ref 0), (1, .int a1)]) dX11_fitsSeen_1 rfl (by decide) rfl ?_
  refine s_sub (lv' := [(0, .ref 0), (1, .int a1), (2, .int (0 : Int32))]) [1, 2, 0] rfl ?_
  refine t_X11_fitsSeen_L2 N a1 N (0 : Int32) μ
def f_X11_whose_B31 (N : Nat) (kb : Int32 → Int32 → z_S → Option (Int32 × z_S)) (v1 : Int32) (v2 : Int32) (μ : z_S) : Option (Int32 × z_S) :=
  z_bd (v2 + 1) fun x2 => kb v1 x2 μ
theorem t_X11_whose_B31 (N : Nat)   (kb : Int32 → Int32 → z_S → Option (Int32 × z_S)) (hkb : ∀ (a1 : Int32) (a2 : Int32) (μ : z_S), z_sim true rI mX11_whose 5 (kb a1 a2 μ) 4 [(0, .ref 0), (1, .int a1), (2, .int a2)] [] μ) (v1 : Int32) (v2 : Int32)  (μ : z_S) : z_sim true rI mX11_whose 5 (f_X11_whose_B31 N  kb v1 v2 μ) 31 [(0, .ref 0), (1, .int v1), (2, .int v2)] [] μ := by
  unfold f_X11_whose_B31
  refine s_iincB (pc := 31) (lv' := fun x2 => [(2, .int x2), (0, .ref 0), (1, .int v1)]) (c := 1) 2 dX11_whose_31 rfl (by decide) (by decide) (fun _ => rfl) (fun x2 => ?_)
  refine s_goto (pc := 34) (tgt := 4) dX11_whose_34 (by decide) ?_
  refine s_sub (lv' := [(0, .ref 0), (1, .int v1), (2, .int x2)]) [1, 2, 0] rfl ?_
  exact hkb v1 x2 μ
def b_X11_whose_L4 (N : Nat) (kb : Int32 → Int32 → z_S → Option (Int32 × z_S)) (v1 : Int32) (v2 : Int32) (μ : z_S) : Option (Int32 × z_S) :=
  if v2 < (μ.1 ((z_hn μ.2.2.1) + 1) 2) then (z_bn (f_X11_fitsSeen N v2 μ) fun x1 μ_1 => if x1 = 0 then (f_X11_whose_B31 N kb v1 v2 μ_1) else z_bd (v1 ||| ((1 : Int32) <<< (v2 &&& 31))) fun x3 => f_X11_whose_B31 N kb x3 v2 μ_1) else some (v1, μ)
theorem tb_X11_whose_L4 (N : Nat) (kb : Int32 → Int32 → z_S → Option (Int32 × z_S)) (hkb : ∀ (a1 : Int32) (a2 : Int32) (μ : z_S), z_sim true rI mX11_whose 5 (kb a1 a2 μ) 4 [(0, .ref 0), (1, .int a1), (2, .int a2)] [] μ) (v1 : Int32) (v2 : Int32) (μ : z_S) : z_sim true rI mX11_whose 5 (b_X11_whose_L4 N kb v1 v2 μ) 4 [(0, .ref 0), (1, .int v1), (2, .int v2)] [] μ := by
  unfold b_X11_whose_L4
  refine s_iload_n (pc := 4) 2 dX11_whose_4 rfl rfl ?_
  refine s_aload_n (pc := 5) 0 dX11_whose_5 rfl rfl ?_
  refine s_getC (pc := 6) dX11_whose_6 fl_11_76 ?_
  refine s_getR (pc := 9) (ci := 2) (k := 0) (r := ((z_hn μ.2.2.1) + 1)) dX11_whose_9 fl_11_146 (z_hn_k μ.2.2.1) rfl (gr_2_0_0 (z_hn_k μ.2.2.1)) ?_
  refine s_iconst (pc := 12) (v := (2 : Int32)) dX11_whose_12 (by decide) ?_
  refine s_ialdK (pc := 13) (k := 2) dX11_whose_13 (gk_2_1 (z_hn_k μ.2.2.1)) (by decide) (by decide) (by decide) ?_
  refine s_icmp_ge (pc := 14) (tgt := 37) dX11_whose_14 (by decide) ?_ ?_
  · refine s_aload_n (pc := 17) 0 dX11_whose_17 rfl rfl ?_
    refine s_iload_n (pc := 18) 2 dX11_whose_18 rfl rfl ?_
    refine s_callVI (pc := 19) (as := [.int v2]) (st := []) dX11_whose_19 lk_11_298 kd_0 (t_X11_fitsSeen N v2 μ) (by omega) rfl (by decide) rfl (fun x1 μ_1 => ?_)
    refine s_if_eq (pc := 22) (tgt := 31) dX11_whose_22 (by decide) ?_ ?_
    · exact t_X11_whose_B31 N kb hkb v1 v2 μ_1
    · refine s_iload_n (pc := 25) 1 dX11_whose_25 rfl rfl ?_
      refine s_iconst (pc := 26) (v := (1 : Int32)) dX11_whose_26 (by decide) ?_
      refine s_iload_n (pc := 27) 2 dX11_whose_27 rfl rfl ?_
      refine s_ishl (pc := 28) dX11_whose_28 ?_
      refine s_ior (pc := 29) dX11_whose_29 ?_
      refine s_letI (fun x3 => ?_)
      refine s_istore_n (pc := 30) (lv' := [(1, .int x3), (0, .ref 0), (2, .int v2)]) dX11_whose_30 rfl (by decide) rfl ?_
      refine s_sub (lv' := [(0, .ref 0), (1, .int x3), (2, .int v2)]) [1, 0, 2] rfl ?_
      exact t_X11_whose_B31 N kb hkb x3 v2 μ_1
  · refine s_iload_n (pc := 37) 1 dX11_whose_37 rfl rfl ?_
    exact s_iret (pc := 38) rfl dX11_whose_38 rfl
def f_X11_whose_L4 (N : Nat) : Nat → Int32 → Int32 → z_S → Option (Int32 × z_S)
  | 0, _, _, _ => none
  | n + 1, v1, v2, μ => b_X11_whose_L4 N (f_X11_whose_L4 N n) v1 v2 μ
theorem t_X11_whose_L4 (N : Nat) : ∀ (n : Nat) (v1 : Int32) (v2 : Int32) (μ : z_S), z_sim true rI mX11_whose 5 (f_X11_whose_L4 N n v1 v2 μ) 4 [(0, .ref 0), (1, .int v1), (2, .int v2)] [] μ
  | 0, _, _, _ => s_none
  | n + 1, v1, v2, μ => tb_X11_whose_L4 N (f_X11_whose_L4 N n) (t_X11_whose_L4 N n) v1 v2 μ
def f_X11_whose (N : Nat) (μ : z_S) : Option (Int32 × z_S) :=
  f_X11_whose_L4 N N (0 : Int32) (0 : Int32) μ
theorem t_X11_whose (N : Nat) (μ : z_S) : z_met true rI mX11_whose 5 [.ref 0] μ (f_X11_whose N μ) := by
  refine z_met.of (by decide +kernel) (by show _ ≤ _; first | decide | exact Nat.le_of_ble_eq_true rfl) (lv := [(0, .ref 0)]) rfl ?_
  unfold f_X11_whose
  refine s_iconst (pc := 0) (v := (0 : Int32)) dX11_whose_0 (by decide) ?_
  refine s_istore_n (pc := 1) (lv' := [(1, .int (0 : Int32)), (0, .ref 0)]) dX11_whose_1 rfl (by decide) rfl ?_
  refine s_iconst (pc := 2) (v := (0 : Int32)) dX11_whose_2 (by decide) ?_
  refine s_istore_n (pc := 3) (lv' := [(2, .int (0 : Int32)), (1, .int (0 : Int32)), (0, .ref 0)]) dX11_whose_3 rfl (by decide) rfl ?_
  refine s_sub (lv' := [(0, .ref 0), (1, .int (0 : Int32)), (2, .int (0 : Int32))]) [2, 1, 0] rfl ?_
  refine t_X11_whose_L4 N N (0 : Int32) (0 : Int32) μ
def f_X11_alike_B75 (N : Nat) (c1 : Int32) (c3 : Int32) (c4 : Int32) (kb : Int32 → Int32 → z_S → Option (Int32 × z_S)) (v5 : Int32) (v6 : Int32) (μ : z_S) : Option (Int32 × z_S) :=
  z_bd (v6 + 1) fun x4 => kb v5 x4 μ
theorem t_X11_alike_B75 (N : Nat) (c1 : Int32) (c3 : Int32) (c4 : Int32)  (kb : Int32 → Int32 → z_S → Option (Int32 × z_S)) (hkb : ∀ (a5 : Int32) (a6 : Int32) (μ : z_S), z_sim true rI mX11_alike 4 (kb a5 a6 μ) 25 [(0, .ref 0), (1, .int c1), (3, .int c3), (4, .int c4), (5, .int a5), (6, .int a6)] [] μ) (v5 : Int32) (v6 : Int32)  (μ : z_S) : z_sim true rI mX11_alike 4 (f_X11_alike_B75 N c1 c3 c4 kb v5 v6 μ) 75 [(0, .ref 0), (1, .int c1), (3, .int c3), (4, .int c4), (5, .int v5), (6, .int v6)] [] μ := by
  unfold f_X11_alike_B75
  refine s_iincB (pc := 75) (lv' := fun x4 => [(6, .int x4), (0, .ref 0), (1, .int c1), (3, .int c3), (4, .int c4), (5, .int v5)]) (c := 1) 5 dX11_alike_75 rfl (by decide) (by decide) (fun _ => rfl) (fun x4 => ?_)
  refine s_goto (pc := 78) (tgt := 25) dX11_alike_78 (by decide) ?_
  refine s_sub (lv' := [(0, .ref 0), (1, .int c1), (3, .int c3), (4, .int c4), (5, .int v5), (6, .int x4)]) [1, 2, 3, 4, 5, 0] rfl ?_
  exact hkb v5 x4 μ
def b_X11_alike_L25 (N : Nat) (c1 : Int32) (c3 : Int32) (c4 : Int32) (kb : Int32 → Int32 → z_S → Option (Int32 × z_S)) (v5 : Int32) (v6 : Int32) (μ : z_S) : Option (Int32 × z_S) :=
  if v6 < (μ.1 ((z_hn μ.2.2.1) + 1) 2) then (if ((c3 >>> (v6 &&& 31)) &&& (1 : Int32)) = (1 : Int32) then (z_bn (f_X4_timeOf N (z_hn μ.2.2.1) 39 c1 v6 μ) fun x2 μ_2 => if x2 = c4 then (z_bd (v5 + 1) fun x3 => f_X11_alike_B75 N c1 c3 c4 kb x3 v6 μ_2) else f_X11_alike_B75 N c1 c3 c4 kb v5 v6 μ_2) else f_X11_alike_B75 N c1 c3 c4 kb v5 v6 μ) else some (v5, μ)
theorem tb_X11_alike_L25 (N : Nat) (c1 : Int32) (c3 : Int32) (c4 : Int32) (kb : Int32 → Int32 → z_S → Option (Int32 × z_S)) (hkb : ∀ (a5 : Int32) (a6 : Int32) (μ : z_S), z_sim true rI mX11_alike 4 (kb a5 a6 μ) 25 [(0, .ref 0), (1, .int c1), (3, .int c3), (4, .int c4), (5, .int a5), (6, .int a6)] [] μ) (v5 : Int32) (v6 : Int32) (μ : z_S) : z_sim true rI mX11_alike 4 (b_X11_alike_L25 N c1 c3 c4 kb v5 v6 μ) 25 [(0, .ref 0), (1, .int c1), (3, .int c3), (4, .int c4), (5, .int v5), (6, .int v6)] [] μ := by
  unfold b_X11_alike_L25
  refine s_iload (pc := 25) 5 dX11_alike_25 rfl ?_
  refine s_aload_n (pc := 27) 0 dX11_alike_27 rfl rfl ?_
  refine s_getC (pc := 28) dX11_alike_28 fl_11_76 ?_
  refine s_getR (pc := 31) (ci := 2) (k := 0) (r := ((z_hn μ.2.2.1) + 1)) dX11_alike_31 fl_11_146 (z_hn_k μ.2.2.1) rfl (gr_2_0_0 (z_hn_k μ.2.2.1)) ?_
  refine s_iconst (pc := 34) (v := (2 : Int32)) dX11_alike_34 (by decide) ?_
  refine s_ialdK (pc := 35) (k := 2) dX11_alike_35 (gk_2_1 (z_hn_k μ.2.2.1)) (by decide) (by decide) (by decide) ?_
  refine s_icmp_ge (pc := 36) (tgt := 81) dX11_alike_36 (by decide) ?_ ?_
  · refine s_iload_n (pc := 39) 2 dX11_alike_39 rfl rfl ?_
    refine s_iload (pc := 40) 5 dX11_alike_40 rfl ?_
    refine s_ishr (pc := 42) dX11_alike_42 ?_
    refine s_iconst (pc := 43) (v := (1 : Int32)) dX11_alike_43 (by decide) ?_
    refine s_iand (pc := 44) dX11_alike_44 ?_
    refine s_iconst (pc := 45) (v := (1 : Int32)) dX11_alike_45 (by decide) ?_
    refine s_icmp_ne (pc := 46) (tgt := 75) dX11_alike_46 (by decide) ?_ ?_
    · refine s_aload_n (pc := 49) 0 dX11_alike_49 rfl rfl ?_
      refine s_getR (pc := 50) (ci := 11) (k := 3) (r := 4) dX11_alike_50 fl_11_19 kd_0 rfl rs_0_3 ?_
      refine s_aload_n (pc := 53) 0 dX11_alike_53 rfl rfl ?_
      refine s_getC (pc := 54) dX11_alike_54 fl_11_76 ?_
      refine s_aload_n (pc := 57) 0 dX11_alike_57 rfl rfl ?_
      refine s_getR (pc := 58) (ci := 11) (k := 7) (r := 39) dX11_alike_58 fl_11_49 kd_0 rfl rs_0_7 ?_
      refine s_iload_n (pc := 61) 1 dX11_alike_61 rfl rfl ?_
      refine s_iload (pc := 62) 5 dX11_alike_62 rfl ?_
      refine s_callVI (pc := 64) (as := [.ref (z_hn μ.2.2.1), .ref 39, .int c1, .int v6]) (st := []) dX11_alike_64 lk_11_223 kd_4 (t_X4_timeOf N (z_hn μ.2.2.1) 39 c1 v6 μ) (by omega) rfl (by decide) rfl (fun x2 μ_2 => ?_)
      refine s_iload (pc := 67) 3 dX11_alike_67 rfl ?_
      refine s_icmp_ne (pc := 69) (tgt := 75) dX11_alike_69 (by decide) ?_ ?_
      · refine s_iincB (pc := 72) (lv' := fun x3 => [(5, .int x3), (0, .ref 0), (1, .int c1), (3, .int c3), (4, .int c4), (6, .int v6)]) (c := 1) 4 dX11_alike_72 rfl (by decide) (by decide) (fun _ => rfl) (fun x3 => ?_)
        refine s_sub (lv' := [(0, .ref 0), (1, .int c1), (3, .int c3), (4, .int c4), (5, .int x3), (6, .int v6)]) [1, 2, 3, 4, 0, 5] rfl ?_
        exact t_X11_alike_B75 N c1 c3 c4 kb hkb x3 v6 μ_2
      · exact t_X11_alike_B75 N c1 c3 c4 kb hkb v5 v6 μ_2
    · exact t_X11_alike_B75 N c1 c3 c4 kb hkb v5 v6 μ
  · refine s_iload (pc := 81) 4 dX11_alike_81 rfl ?_
    exact s_iret (pc := 83) rfl dX11_alike_83 rfl
def f_X11_alike_L25 (N : Nat) (c1 : Int32) (c3 : Int32) (c4 : Int32) : Nat → Int32 → Int32 → z_S → Option (Int32 × z_S)
  | 0, _, _, _ => none
  | n + 1, v5, v6, μ => b_X11_alike_L25 N c1 c3 c4 (f_X11_alike_L25 N c1 c3 c4 n) v5 v6 μ
theorem t_X11_alike_L25 (N : Nat) (c1 : Int32) (c3 : Int32) (c4 : Int32) : ∀ (n : Nat) (v5 : Int32) (v6 : Int32) (μ : z_S), z_sim true rI mX11_alike 4 (f_X11_alike_L25 N c1 c3 c4 n v5 v6 μ) 25 [(0, .ref 0), (1, .int c1), (3, .int c3), (4, .int c4), (5, .int v5), (6, .int v6)] [] μ
  | 0, _, _, _ => s_none
  | n + 1, v5, v6, μ => tb_X11_alike_L25 N c1 c3 c4 (f_X11_alike_L25 N c1 c3 c4 n) (t_X11_alike_L25 N c1 c3 c4 n) v5 v6 μ
def f_X11_alike (N : Nat) (a1 : Int32) (a2 : Int32) (a3 : Int32) (μ : z_S) : Option (Int32 × z_S) :=
  z_bn (f_X4_timeOf N (z_hn μ.2.2.1) 39 a1 a2 μ) fun x1 μ_1 => f_X11_alike_L25 N a1 a3 x1 N (0 : Int32) (0 : Int32) μ_1
theorem t_X11_alike (N : Nat) (a1 : Int32) (a2 : Int32) (a3 : Int32) (μ : z_S) : z_met true rI mX11_alike 4 [.ref 0, .int a1, .int a2, .int a3] μ (f_X11_alike N a1 a2 a3 μ) := by
  refine z_met.of (by decide +kernel) (by show _ ≤ _; first | decide | exact Nat.le_of_ble_eq_true rfl) (lv := [(0, .ref 0), (1, .int a1), (2, .int a2), (3, .int a3)]) rfl ?_
  unfold f_X11_alike
  refine s_aload_n (pc := 0) 0 dX11_alike_0 rfl rfl ?_
  refine s_getR (pc := 1) (ci := 11) (k := 3) (r := 4) dX11_alike_1 fl_11_19 kd_0 rfl rs_0_3 ?_
  refine s_aload_n (pc := 4) 0 dX11_alike_4 rfl rfl ?_
  refine s_getC (pc := 5) dX11_alike_5 fl_11_76 ?_
  refine s_aload_n (pc := 8) 0 dX11_alike_8 rfl rfl ?_
  refine s_getR (pc := 9) (ci := 11) (k := 7) (r := 39) dX11_alike_9 fl_11_49 kd_0 rfl rs_0_7 ?_
  refine s_iload_n (pc := 12) 1 dX11_alike_12 rfl rfl ?_
  refine s_iload_n (pc := 13) 2 dX11_alike_13 rfl rfl ?_
  refine s_callVI (pc := 14) (as := [.ref (z_hn μ.2.2.1), .ref 39, .int a1, .int a2]) (st := []) dX11_alike_14 lk_11_223 kd_4 (t_X4_timeOf N (z_hn μ.2.2.1) 39 a1 a2 μ) (by omega) rfl (by decide) rfl (fun x1 μ_1 => ?_)
  refine s_istore (pc := 17) (lv' := [(4, .int x1), (0, .ref 0), (1, .int a1), (2, .int a2), (3, .int a3)]) dX11_alike_17 (by decide) rfl ?_
  refine s_iconst (pc := 19) (v := (0 : Int32)) dX11_alike_19 (by decide) ?_
  refine s_istore (pc := 20) (lv' := [(5, .int (0 : Int32)), (4, .int x1), (0, .ref 0), (1, .int a1), (2, .int a2), (3, .int a3)]) dX11_alike_20 (by decide) rfl ?_
  refine s_iconst (pc := 22) (v := (0 : Int32)) dX11_alike_22 (by decide) ?_
  refine s_istore (pc := 23) (lv' := [(6, .int (0 : Int32)), (5, .int (0 : Int32)), (4, .int x1), (0, .ref 0), (1, .int a1), (2, .int a2), (3, .int a3)]) dX11_alike_23 (by decide) rfl ?_
  refine s_sub (lv' := [(0, .ref 0), (1, .int a1), (3, .int a3), (4, .int x1), (5, .int (0 : Int32)), (6, .int (0 : Int32))]) [3, 4, 6, 2, 1, 0] rfl ?_
  refine t_X11_alike_L25 N a1 a3 x1 N (0 : Int32) (0 : Int32) μ_1
def f_X11_mostAlike_B42 (N : Nat) (c1 : Int32) (c2 : Int32) (kb : Int32 → Int32 → z_S → Option (Int32 × z_S)) (v3 : Int32) (v4 : Int32) (μ : z_S) : Option (Int32 × z_S) :=
  z_bd (v4 + 1) fun x3 => kb v3 x3 μ
theorem t_X11_mostAlike_B42 (N : Nat) (c1 : Int32) (c2 : Int32)  (kb : Int32 → Int32 → z_S → Option (Int32 × z_S)) (hkb : ∀ (a3 : Int32) (a4 : Int32) (μ : z_S), z_sim true rI mX11_mostAlike 5 (kb a3 a4 μ) 5 [(0, .ref 0), (1, .int c1), (2, .int c2), (3, .int a3), (4, .int a4)] [] μ) (v3 : Int32) (v4 : Int32)  (μ : z_S) : z_sim true rI mX11_mostAlike 5 (f_X11_mostAlike_B42 N c1 c2 kb v3 v4 μ) 42 [(0, .ref 0), (1, .int c1), (2, .int c2), (3, .int v3), (4, .int v4)] [] μ := by
  unfold f_X11_mostAlike_B42
  refine s_iincB (pc := 42) (lv' := fun x3 => [(4, .int x3), (0, .ref 0), (1, .int c1), (2, .int c2), (3, .int v3)]) (c := 1) 4 dX11_mostAlike_42 rfl (by decide) (by decide) (fun _ => rfl) (fun x3 => ?_)
  refine s_goto (pc := 45) (tgt := 5) dX11_mostAlike_45 (by decide) ?_
  refine s_sub (lv' := [(0, .ref 0), (1, .int c1), (2, .int c2), (3, .int v3), (4, .int x3)]) [1, 2, 3, 4, 0] rfl ?_
  exact hkb v3 x3 μ
def b_X11_mostAlike_L5 (N : Nat) (c1 : Int32) (c2 : Int32) (kb : Int32 → Int32 → z_S → Option (Int32 × z_S)) (v3 : Int32) (v4 : Int32) (μ : z_S) : Option (Int32 × z_S) :=
  if v4 < (μ.1 ((z_hn μ.2.2.1) + 1) 2) then (if ((c2 >>> (v4 &&& 31)) &&& (1 : Int32)) = (1 : Int32) then (z_bn (f_X11_alike N c1 v4 c2 μ) fun x1 μ_1 => z_bn (f_J9_max_7cf53 N v3 x1 μ_1) fun x2 μ_2 => f_X11_mostAlike_B42 N c1 c2 kb x2 v4 μ_2) else f_X11_mostAlike_B42 N c1 c2 kb v3 v4 μ) else some (v3, μ)
theorem tb_X11_mostAlike_L5 (N : Nat) (c1 : Int32) (c2 : Int32) (kb : Int32 → Int32 → z_S → Option (Int32 × z_S)) (hkb : ∀ (a3 : Int32) (a4 : Int32) (μ : z_S), z_sim true rI mX11_mostAlike 5 (kb a3 a4 μ) 5 [(0, .ref 0), (1, .int c1), (2, .int c2), (3, .int a3), (4, .int a4)] [] μ) (v3 : Int32) (v4 : Int32) (μ : z_S) : z_sim true rI mX11_mostAlike 5 (b_X11_mostAlike_L5 N c1 c2 kb v3 v4 μ) 5 [(0, .ref 0), (1, .int c1), (2, .int c2), (3, .int v3), (4, .int v4)] [] μ := by
  unfold b_X11_mostAlike_L5
  refine s_iload (pc := 5) 4 dX11_mostAlike_5 rfl ?_
  refine s_aload_n (pc := 7) 0 dX11_mostAlike_7 rfl rfl ?_
  refine s_getC (pc := 8) dX11_mostAlike_8 fl_11_76 ?_
  refine s_getR (pc := 11) (ci := 2) (k := 0) (r := ((z_hn μ.2.2.1) + 1)) dX11_mostAlike_11 fl_11_146 (z_hn_k μ.2.2.1) rfl (gr_2_0_0 (z_hn_k μ.2.2.1)) ?_
  refine s_iconst (pc := 14) (v := (2 : Int32)) dX11_mostAlike_14 (by decide) ?_
  refine s_ialdK (pc := 15) (k := 2) dX11_mostAlike_15 (gk_2_1 (z_hn_k μ.2.2.1)) (by decide) (by decide) (by decide) ?_
  refine s_icmp_ge (pc := 16) (tgt := 48) dX11_mostAlike_16 (by decide) ?_ ?_
  · refine s_iload_n (pc := 19) 2 dX11_mostAlike_19 rfl rfl ?_
    refine s_iload (pc := 20) 4 dX11_mostAlike_20 rfl ?_
    refine s_ishr (pc := 22) dX11_mostAlike_22 ?_
    refine s_iconst (pc := 23) (v := (1 : Int32)) dX11_mostAlike_23 (by decide) ?_
    refine s_iand (pc := 24) dX11_mostAlike_24 ?_
    refine s_iconst (pc := 25) (v := (1 : Int32)) dX11_mostAlike_25 (by decide) ?_
    refine s_icmp_ne (pc := 26) (tgt := 42) dX11_mostAlike_26 (by decide) ?_ ?_
    · refine s_iload_n (pc := 29) 3 dX11_mostAlike_29 rfl rfl ?_
      refine s_aload_n (pc := 30) 0 dX11_mostAlike_30 rfl rfl ?_
      refine s_iload_n (pc := 31) 1 dX11_mostAlike_31 rfl rfl ?_
      refine s_iload (pc := 32) 4 dX11_mostAlike_32 rfl ?_
      refine s_iload_n (pc := 34) 2 dX11_mostAlike_34 rfl rfl ?_
      refine s_callVI (pc := 35) (as := [.int c1, .int v4, .int c2]) (st := [.int v3]) dX11_mostAlike_35 lk_11_342 kd_0 (t_X11_alike N c1 v4 c2 μ) (by omega) rfl (Nat.le_of_ble_eq_true rfl) rfl (fun x1 μ_1 => ?_)
      refine s_callSI (pc := 38) (as := [.int v3, .int x1]) (st := []) dX11_mostAlike_38 lk_11_346 (t_J9_max_7cf53 N v3 x1 μ_1) (by omega) rfl (by decide) rfl (fun x2 μ_2 => ?_)
      refine s_istore_n (pc := 41) (lv' := [(3, .int x2), (0, .ref 0), (1, .int c1), (2, .int c2), (4, .int v4)]) dX11_mostAlike_41 rfl (by decide) rfl ?_
      refine s_sub (lv' := [(0, .ref 0), (1, .int c1), (2, .int c2), (3, .int x2), (4, .int v4)]) [1, 2, 3, 0, 4] rfl ?_
      exact t_X11_mostAlike_B42 N c1 c2 kb hkb x2 v4 μ_2
    · exact t_X11_mostAlike_B42 N c1 c2 kb hkb v3 v4 μ
  · refine s_iload_n (pc := 48) 3 dX11_mostAlike_48 rfl rfl ?_
    exact s_iret (pc := 49) rfl dX11_mostAlike_49 rfl
def f_X11_mostAlike_L5 (N : Nat) (c1 : Int32) (c2 : Int32) : Nat → Int32 → Int32 → z_S → Option (Int32 × z_S)
  | 0, _, _, _ => none
  | n + 1, v3, v4, μ => b_X11_mostAlike_L5 N c1 c2 (f_X11_mostAlike_L5 N c1 c2 n) v3 v4 μ
theorem t_X11_mostAlike_L5 (N : Nat) (c1 : Int32) (c2 : Int32) : ∀ (n : Nat) (v3 : Int32) (v4 : Int32) (μ : z_S), z_sim true rI mX11_mostAlike 5 (f_X11_mostAlike_L5 N c1 c2 n v3 v4 μ) 5 [(0, .ref 0), (1, .int c1), (2, .int c2), (3, .int v3), (4, .int v4)] [] μ
  | 0, _, _, _ => s_none
  | n + 1, v3, v4, μ => tb_X11_mostAlike_L5 N c1 c2 (f_X11_mostAlike_L5 N c1 c2 n) (t_X11_mostAlike_L5 N c1 c2 n) v3 v4 μ
def f_X11_mostAlike (N : Nat) (a1 : Int32) (a2 : Int32) (μ : z_S) : Option (Int32 × z_S) :=
  f_X11_mostAlike_L5 N a1 a2 N (0 : Int32) (0 : Int32) μ
theorem t_X11_mostAlike (N : Nat) (a1 : Int32) (a2 : Int32) (μ : z_S) : z_met true rI mX11_mostAlike 5 [.ref 0, .int a1, .int a2] μ (f_X11_mostAlike N a1 a2 μ) := by
  refine z_met.of (by decide +kernel) (by show _ ≤ _; first | decide | exact Nat.le_of_ble_eq_true rfl) (lv := [(0, .ref 0), (1, .int a1), (2, .int a2)]) rfl ?_
  unfold f_X11_mostAlike
  refine s_iconst (pc := 0) (v := (0 : Int32)) dX11_mostAlike_0 (by decide) ?_
  refine s_istore_n (pc := 1) (lv' := [(3, .int (0 : Int32)), (0, .ref 0), (1, .int a1), (2, .int a2)]) dX11_mostAlike_1 rfl (by decide) rfl ?_
  refine s_iconst (pc := 2) (v := (0 : Int32)) dX11_mostAlike_2 (by decide) ?_
  refine s_istore (pc := 3) (lv' := [(4, .int (0 : Int32)), (3, .int (0 : Int32)), (0, .ref 0), (1, .int a1), (2, .int a2)]) dX11_mostAlike_3 (by decide) rfl ?_
  refine s_sub (lv' := [(0, .ref 0), (1, .int a1), (2, .int a2), (3, .int (0 : Int32)), (4, .int (0 : Int32))]) [2, 3, 4, 1, 0] rfl ?_
  refine t_X11_mostAlike_L5 N a1 a2 N (0 : Int32) (0 : Int32) μ
def f_X11_watched_B78 (N : Nat) (c1 : Int32) (c2 : Int32) (c3 : Int32) (kb : Int32 → Int32 → Int32 → z_S → Option (Int32 × z_S)) (e84 : Int32 → Int32 → z_S → Option (Int32 × z_S)) (v4 : Int32) (v5 : Int32) (v6 : Int32) (μ : z_S) : Option (Int32 × z_S) :=
  z_bd (v6 + 1) fun x5 => kb v4 v5 x5 μ
theorem t_X11_watched_B78 (N : Nat) (c1 : Int32) (c2 : Int32) (c3 : Int32)  (kb : Int32 → Int32 → Int32 → z_S → Option (Int32 × z_S)) (e84 : Int32 → Int32 → z_S → Option (Int32 × z_S)) (hkb : ∀ (a4 : Int32) (a5 : Int32) (a6 : Int32) (μ : z_S), z_sim true rI mX11_watched 6 (kb a4 a5 a6 μ) 48 [(0, .ref 0), (1, .int c1), (2, .int c2), (3, .int c3), (4, .int a4), (5, .int a5), (6, .int a6)] [] μ) (he84 : ∀ (a4 : Int32) (a5 : Int32) (μ : z_S), z_sim true rI mX11_watched 6 (e84 a4 a5 μ) 84 [(1, .int c1), (4, .int a4), (5, .int a5)] [] μ) (v4 : Int32) (v5 : Int32) (v6 : Int32)  (μ : z_S) : z_sim true rI mX11_watched 6 (f_X11_watched_B78 N c1 c2 c3 kb e84 v4 v5 v6 μ) 78 [(0, .ref 0), (1, .int c1), (2, .int c2), (3, .int c3), (4, .int v4), (5, .int v5), (6, .int v6)] [] μ := by
  unfold f_X11_watched_B78
  refine s_iincB (pc := 78) (lv' := fun x5 => [(6, .int x5), (0, .ref 0), (1, .int c1), (2, .int c2), (3, .int c3), (4, .int v4), (5, .int v5)]) (c := 1) 6 dX11_watched_78 rfl (by decide) (by decide) (fun _ => rfl) (fun x5 => ?_)
  refine s_goto (pc := 81) (tgt := 48) dX11_watched_81 (by decide) ?_
  refine s_sub (lv' := [(0, .ref 0), (1, .int c1), (2, .int c2), (3, .int c3), (4, .int v4), (5, .int v5), (6, .int x5)]) [1, 2, 3, 4, 5, 6, 0] rfl ?_
  exact hkb v4 v5 x5 μ
def b_X11_watched_L48 (N : Nat) (c1 : Int32) (c2 : Int32) (c3 : Int32) (kb : Int32 → Int32 → Int32 → z_S → Option (Int32 × z_S)) (e84 : Int32 → Int32 → z_S → Option (Int32 × z_S)) (v4 : Int32) (v5 : Int32) (v6 : Int32) (μ : z_S) : Option (Int32 × z_S) :=
  if v6 < c3 then (z_bn (f_X11_mostAlike N v6 c2 μ) fun x4 μ_3 => if x4 < v5 then (f_X11_watched_B78 N c1 c2 c3 kb e84 v6 x4 v6 μ_3) else f_X11_watched_B78 N c1 c2 c3 kb e84 v4 v5 v6 μ_3) else e84 v4 v5 μ
theorem tb_X11_watched_L48 (N : Nat) (c1 : Int32) (c2 : Int32) (c3 : Int32) (kb : Int32 → Int32 → Int32 → z_S → Option (Int32 × z_S)) (e84 : Int32 → Int32 → z_S → Option (Int32 × z_S)) (hkb : ∀ (a4 : Int32) (a5 : Int32) (a6 : Int32) (μ : z_S), z_sim true rI mX11_watched 6 (kb a4 a5 a6 μ) 48 [(0, .ref 0), (1, .int c1), (2, .int c2), (3, .int c3), (4, .int a4), (5, .int a5), (6, .int a6)] [] μ) (he84 : ∀ (a4 : Int32) (a5 : Int32) (μ : z_S), z_sim true rI mX11_watched 6 (e84 a4 a5 μ) 84 [(1, .int c1), (4, .int a4), (5, .int a5)] [] μ) (v4 : Int32) (v5 : Int32) (v6 : Int32) (μ : z_S) : z_sim true rI mX11_watched 6 (b_X11_watched_L48 N c1 c2 c3 kb e84 v4 v5 v6 μ) 48 [(0, .ref 0), (1, .int c1), (2, .int c2), (3, .int c3), (4, .int v4), (5, .int v5), (6, .int v6)] [] μ := by
  unfold b_X11_watched_L48
  refine s_iload (pc := 48) 6 dX11_watched_48 rfl ?_
  refine s_iload_n (pc := 50) 3 dX11_watched_50 rfl rfl ?_
  refine s_icmp_ge (pc := 51) (tgt := 84) dX11_watched_51 (by decide) ?_ ?_
  · refine s_aload_n (pc := 54) 0 dX11_watched_54 rfl rfl ?_
    refine s_iload (pc := 55) 6 dX11_watched_55 rfl ?_
    refine s_iload_n (pc := 57) 2 dX11_watched_57 rfl rfl ?_
    refine s_callVI (pc := 58) (as := [.int v6, .int c2]) (st := []) dX11_watched_58 lk_11_304 kd_0 (t_X11_mostAlike N v6 c2 μ) (by omega) rfl (by decide) rfl (fun x4 μ_3 => ?_)
    refine s_istore (pc := 61) (lv' := [(7, .int x4), (0, .ref 0), (1, .int c1), (2, .int c2), (3, .int c3), (4, .int v4), (5, .int v5), (6, .int v6)]) dX11_watched_61 (by decide) rfl ?_
    refine s_iload (pc := 63) 0 dX11_watched_63 rfl ?_
    refine s_iload (pc := 65) 6 dX11_watched_65 rfl ?_
    refine s_icmp_ge (pc := 67) (tgt := 78) dX11_watched_67 (by decide) ?_ ?_
    · refine s_iload (pc := 70) 0 dX11_watched_70 rfl ?_
      refine s_istore (pc := 72) (lv' := [(5, .int x4), (7, .int x4), (0, .ref 0), (1, .int c1), (2, .int c2), (3, .int c3), (4, .int v4), (6, .int v6)]) dX11_watched_72 (by decide) rfl ?_
      refine s_iload (pc := 74) 7 dX11_watched_74 rfl ?_
      refine s_istore (pc := 76) (lv' := [(4, .int v6), (5, .int x4), (7, .int x4), (0, .ref 0), (1, .int c1), (2, .int c2), (3, .int c3), (6, .int v6)]) dX11_watched_76 (by decide) rfl ?_
      refine s_sub (lv' := [(0, .ref 0), (1, .int c1), (2, .int c2), (3, .int c3), (4, .int v6), (5, .int x4), (6, .int v6)]) [3, 4, 5, 6, 0, 1, 7] rfl ?_
      exact t_X11_watched_B78 N c1 c2 c3 kb e84 hkb he84 v6 x4 v6 μ_3
    · refine s_sub (lv' := [(0, .ref 0), (1, .int c1), (2, .int c2), (3, .int c3), (4, .int v4), (5, .int v5), (6, .int v6)]) [1, 2, 3, 4, 5, 6, 7] rfl ?_
      exact t_X11_watched_B78 N c1 c2 c3 kb e84 hkb he84 v4 v5 v6 μ_3
  · refine s_sub (lv' := [(1, .int c1), (4, .int v4), (5, .int v5)]) [1, 4, 5] rfl ?_
    exact he84 v4 v5 μ
def f_X11_watched_L48 (N : Nat) (c1 : Int32) (c2 : Int32) (c3 : Int32) (e84 : Int32 → Int32 → z_S → Option (Int32 × z_S)) : Nat → Int32 → Int32 → Int32 → z_S → Option (Int32 × z_S)
  | 0, _, _, _, _ => none
  | n + 1, v4, v5, v6, μ => b_X11_watched_L48 N c1 c2 c3 (f_X11_watched_L48 N c1 c2 c3 e84 n) e84 v4 v5 v6 μ
theorem t_X11_watched_L48 (N : Nat) (c1 : Int32) (c2 : Int32) (c3 : Int32) (e84 : Int32 → Int32 → z_S → Option (Int32 × z_S)) (he84 : ∀ (a4 : Int32) (a5 : Int32) (μ : z_S), z_sim true rI mX11_watched 6 (e84 a4 a5 μ) 84 [(1, .int c1), (4, .int a4), (5, .int a5)] [] μ) : ∀ (n : Nat) (v4 : Int32) (v5 : Int32) (v6 : Int32) (μ : z_S), z_sim true rI mX11_watched 6 (f_X11_watched_L48 N c1 c2 c3 e84 n v4 v5 v6 μ) 48 [(0, .ref 0), (1, .int c1), (2, .int c2), (3, .int c3), (4, .int v4), (5, .int v5), (6, .int v6)] [] μ
  | 0, _, _, _, _ => s_none
  | n + 1, v4, v5, v6, μ => tb_X11_watched_L48 N c1 c2 c3 (f_X11_watched_L48 N c1 c2 c3 e84 n) e84 (t_X11_watched_L48 N c1 c2 c3 e84 he84 n) he84 v4 v5 v6 μ
def f_X11_watched (N : Nat) (a1 : Int32) (μ : z_S) : Option (Int32 × z_S) :=
  z_bn (f_X11_whose N μ) fun x1 μ_1 => z_bd (μ_1.1 ((z_hn μ_1.2.2.1) + 1) 0) fun x2 => if a1 < 0 then (some ((-1 : Int32), μ_1)) else if (1 : Int32) < a1 then (some ((-1 : Int32), μ_1)) else if x1 = 0 then (some ((-1 : Int32), μ_1)) else if x2 = 0 then (some ((-1 : Int32), μ_1)) else z_bn (f_X11_mostAlike N (0 : Int32) x1 μ_1) fun x3 μ_2 => f_X11_watched_L48 N a1 x1 x2 (fun y84_4 y84_5 μ84 => if a1 = 0 then (some (y84_4, μ84)) else some (y84_5, μ84)) N (0 : Int32) x3 (1 : Int32) μ_2
theorem t_X11_watched (N : Nat) (a1 : Int32) (μ : z_S) : z_met true rI mX11_watched 6 [.ref 0, .int a1] μ (f_X11_watched N a1 μ) := by
  refine z_met.of (by decide +kernel) (by show _ ≤ _; first | decide | exact Nat.le_of_ble_eq_true rfl) (lv := [(0, .ref 0), (1, .int a1)]) rfl ?_
  unfold f_X11_watched
  refine s_aload_n (pc := 0) 0 dX11_watched_0 rfl rfl ?_
  refine s_callVI (pc := 1) (as := []) (st := []) dX11_watched_1 lk_11_301 kd_0 (t_X11_whose N μ) (by omega) rfl (by decide) rfl (fun x1 μ_1 => ?_)
  refine s_istore_n (pc := 4) (lv' := [(2, .int x1), (0, .ref 0), (1, .int a1)]) dX11_watched_4 rfl (by decide) rfl ?_
  refine s_aload_n (pc := 5) 1 dX11_watched_5 rfl rfl ?_
  refine s_getC (pc := 6) dX11_watched_6 fl_11_76 ?_
  refine s_getR (pc := 9) (ci := 2) (k := 0) (r := ((z_hn μ_1.2.2.1) + 1)) dX11_watched_9 fl_11_146 (z_hn_k μ_1.2.2.1) rfl (gr_2_0_0 (z_hn_k μ_1.2.2.1)) ?_
  refine s_iconst (pc := 12) (v := (0 : Int32)) dX11_watched_12 (by decide) ?_
  refine s_ialdK (pc := 13) (k := 0) dX11_watched_13 (gk_2_1 (z_hn_k μ_1.2.2.1)) (by decide) (by decide) (by decide) ?_
  refine s_letI (fun x2 => ?_)
  refine s_istore_n (pc := 14) (lv' := [(3, .int x2), (2, .int x1), (0, .ref 0), (1, .int a1)]) dX11_watched_14 rfl (by decide) rfl ?_
  refine s_iload_n (pc := 15) 3 dX11_watched_15 rfl rfl ?_
  refine s_if_lt (pc := 16) (tgt := 32) dX11_watched_16 (by decide) ?_ ?_
  · refine s_iconst (pc := 32) (v := (-1 : Int32)) dX11_watched_32 (by decide) ?_
    exact s_iret (pc := 33) rfl dX11_watched_33 rfl
  · refine s_iload_n (pc := 19) 3 dX11_watched_19 rfl rfl ?_
    refine s_iconst (pc := 20) (v := (1 : Int32)) dX11_watched_20 (by decide) ?_
    refine s_icmp_gt (pc := 21) (tgt := 32) dX11_watched_21 (by decide) ?_ ?_
    · refine s_iconst (pc := 32) (v := (-1 : Int32)) dX11_watched_32 (by decide) ?_
      exact s_iret (pc := 33) rfl dX11_watched_33 rfl
    · refine s_iload_n (pc := 24) 1 dX11_watched_24 rfl rfl ?_
      refine s_if_eq (pc := 25) (tgt := 32) dX11_watched_25 (by decide) ?_ ?_
      · refine s_iconst (pc := 32) (v := (-1 : Int32)) dX11_watched_32 (by decide) ?_
        exact s_iret (pc := 33) rfl dX11_watched_33 rfl
      · refine s_iload_n (pc := 28) 0 dX11_watched_28 rfl rfl ?_
        refine s_if_ne (pc := 29) (tgt := 34) dX11_watched_29 (by decide) ?_ ?_
        · refine s_iconst (pc := 32) (v := (-1 : Int32)) dX11_watched_32 (by decide) ?_
          exact s_iret (pc := 33) rfl dX11_watched_33 rfl
        · refine s_iconst (pc := 34) (v := (0 : Int32)) dX11_watched_34 (by decide) ?_
          refine s_istore (pc := 35) (lv' := [(4, .int (0 : Int32)), (3, .int x2), (2, .int x1), (0, .ref 0), (1, .int a1)]) dX11_watched_35 (by decide) rfl ?_
          refine s_aload_n (pc := 37) 3 dX11_watched_37 rfl rfl ?_
          refine s_iconst (pc := 38) (v := (0 : Int32)) dX11_watched_38 (by decide) ?_
          refine s_iload_n (pc := 39) 2 dX11_watched_39 rfl rfl ?_
          refine s_callVI (pc := 40) (as := [.int (0 : Int32), .int x1]) (st := []) dX11_watched_40 lk_11_304 kd_0 (t_X11_mostAlike N (0 : Int32) x1 μ_1) (by omega) rfl (by decide) rfl (fun x3 μ_2 => ?_)
          refine s_istore (pc := 43) (lv' := [(5, .int x3), (4, .int (0 : Int32)), (3, .int x2), (2, .int x1), (0, .ref 0), (1, .int a1)]) dX11_watched_43 (by decide) rfl ?_
          refine s_iconst (pc := 45) (v := (1 : Int32)) dX11_watched_45 (by decide) ?_
          refine s_istore (pc := 46) (lv' := [(6, .int (1 : Int32)), (5, .int x3), (4, .int (0 : Int32)), (3, .int x2), (2, .int x1), (0, .ref 0), (1, .int a1)]) dX11_watched_46 (by decide) rfl ?_
          refine s_sub (lv' := [(0, .ref 0), (1, .int a1), (2, .int x1), (3, .int x2), (4, .int (0 : Int32)), (5, .int x3), (6, .int (1 : Int32))]) [5, 6, 4, 3, 2, 1, 0] rfl ?_
          refine t_X11_watched_L48 N a1 x1 x2 _ ?_ N (0 : Int32) x3 (1 : Int32) μ_2
          · intro y84_4 y84_5 μ84
            refine s_iload_n (pc := 84) 0 dX11_watched_84 rfl rfl ?_
            refine s_if_ne (pc := 85) (tgt := 93) dX11_watched_85 (by decide) ?_ ?_
            · refine s_iload (pc := 88) 1 dX11_watched_88 rfl ?_
              refine s_goto (pc := 90) (tgt := 95) dX11_watched_90 (by decide) ?_
              exact s_iret (pc := 95) rfl dX11_watched_95 rfl
            · refine s_iload (pc := 93) 2 dX11_watched_93 rfl ?_
              exact s_iret (pc := 95) rfl dX11_watched_95 rfl
def f_X11_remember_B32 (N : Nat)   (μ : z_S) : Option (Unit × z_S) :=
  z_nz (20 : Int32) <| z_in (((μ.1 0 18) + (μ.1 0 17)) - ((μ.1 0 18) + (μ.1 0 17)) / (20 : Int32) * (20 : Int32)) 20 <| z_bn (f_X8_copyFrom N (133 + 6 * (((μ.1 0 18) + (μ.1 0 17)) - ((μ.1 0 18) + (μ.1 0 17)) / (20 : Int32) * (20 : Int32)).toNatClampNeg) 39 μ) fun _ μ_3 => z_bd (z_setI μ_3 0 17 ((μ_3.1 0 17) + (1 : Int32))) fun μ_4 => some ((), μ_4)
theorem t_X11_remember_B32 (N : Nat)       (μ : z_S) : z_sim true rV mX11_remember 1 (f_X11_remember_B32 N    μ) 32 [(0, .ref 0)] [] μ := by
  unfold f_X11_remember_B32
  refine s_aload_n (pc := 32) 0 dX11_remember_32 rfl rfl ?_
  refine s_getR (pc := 33) (ci := 11) (k := 9) (r := 51) dX11_remember_33 fl_11_56 kd_0 rfl rs_0_9 ?_
  refine s_aload_n (pc := 36) 0 dX11_remember_36 rfl rfl ?_
  refine s_getI (pc := 37) (ci := 11) (k := 18) dX11_remember_37 fl_11_320 kd_0 rfl ?_
  refine s_aload_n (pc := 40) 0 dX11_remember_40 rfl rfl ?_
  refine s_getI (pc := 41) (ci := 11) (k := 17) dX11_remember_41 fl_11_131 kd_0 rfl ?_
  refine s_iadd (pc := 44) dX11_remember_44 ?_
  refine s_bipush (pc := 45) (v := (20 : Int32)) dX11_remember_45 (by decide) ?_
  refine s_irem (pc := 47) dX11_remember_47 ?_
  refine s_aald (pc := 48) (r := (133 + 6 * (((μ.1 0 18) + (μ.1 0 17)) - ((μ.1 0 18) + (μ.1 0 17)) / (20 : Int32) * (20 : Int32)).toNatClampNeg)) dX11_remember_48 kd_51 (by decide) (by decide) (fun hi => ar_51 hi) (fun hi1 => ?_)
  refine s_aload_n (pc := 49) 0 dX11_remember_49 rfl rfl ?_
  refine s_getR (pc := 50) (ci := 11) (k := 7) (r := 39) dX11_remember_50 fl_11_49 kd_0 rfl rs_0_7 ?_
  refine s_callVV (pc := 53) (as := [.ref 39]) (st := []) dX11_remember_53 lk_11_249 (ak_51 hi1) (t_X8_copyFrom N (133 + 6 * (((μ.1 0 18) + (μ.1 0 17)) - ((μ.1 0 18) + (μ.1 0 17)) / (20 : Int32) * (20 : Int32)).toNatClampNeg) 39 μ) (by omega) rfl (by decide) rfl (fun _ μ_3 => ?_)
  refine s_aload_n (pc := 56) 0 dX11_remember_56 rfl rfl ?_
  refine s_dup (pc := 57) dX11_remember_57 rfl ?_
  refine s_getI (pc := 58) (ci := 11) (k := 17) dX11_remember_58 fl_11_131 kd_0 rfl ?_
  refine s_iconst (pc := 61) (v := (1 : Int32)) dX11_remember_61 (by decide) ?_
  refine s_iadd (pc := 62) dX11_remember_62 ?_
  refine s_putI (pc := 63) (ci := 11) (k := 17) dX11_remember_63 fl_11_131 kd_0 rfl rfl (fun μ_4 => ?_)
  exact s_vret (pc := 66) dX11_remember_66 rfl
def f_X11_remember (N : Nat) (μ : z_S) : Option (Unit × z_S) :=
  if (μ.1 0 17) = (20 : Int32) then (z_nz (20 : Int32) <| z_bd (z_setI μ 0 18 (((μ.1 0 18) + (1 : Int32)) - ((μ.1 0 18) + (1 : Int32)) / (20 : Int32) * (20 : Int32))) fun μ_1 => z_bd (z_setI μ_1 0 17 ((μ_1.1 0 17) - (1 : Int32))) fun μ_2 => f_X11_remember_B32 N μ_2) else f_X11_remember_B32 N μ
theorem t_X11_remember (N : Nat) (μ : z_S) : z_met true rV mX11_remember 1 [.ref 0] μ (f_X11_remember N μ) := by
  refine z_met.of (by decide +kernel) (by show _ ≤ _; first | decide | exact Nat.le_of_ble_eq_true rfl) (lv := [(0, .ref 0)]) rfl ?_
  unfold f_X11_remember
  refine s_aload_n (pc := 0) 0 dX11_remember_0 rfl rfl ?_
  refine s_getI (pc := 1) (ci := 11) (k := 17) dX11_remember_1 fl_11_131 kd_0 rfl ?_
  refine s_bipush (pc := 4) (v := (20 : Int32)) dX11_remember_4 (by decide) ?_
  refine s_icmp_ne (pc := 6) (tgt := 32) dX11_remember_6 (by decide) ?_ ?_
  · refine s_aload_n (pc := 9) 0 dX11_remember_9 rfl rfl ?_
    refine s_aload_n (pc := 10) 0 dX11_remember_10 rfl rfl ?_
    refine s_getI (pc := 11) (ci := 11) (k := 18) dX11_remember_11 fl_11_320 kd_0 rfl ?_
    refine s_iconst (pc := 14) (v := (1 : Int32)) dX11_remember_14 (by decide) ?_
    refine s_iadd (pc := 15) dX11_remember_15 ?_
    refine s_bipush (pc := 16) (v := (20 : Int32)) dX11_remember_16 (by decide) ?_
    refine s_irem (pc := 18) dX11_remember_18 ?_
    refine s_putI (pc := 19) (ci := 11) (k := 18) dX11_remember_19 fl_11_320 kd_0 rfl rfl (fun μ_1 => ?_)
    refine s_aload_n (pc := 22) 0 dX11_remember_22 rfl rfl ?_
    refine s_dup (pc := 23) dX11_remember_23 rfl ?_
    refine s_getI (pc := 24) (ci := 11) (k := 17) dX11_remember_24 fl_11_131 kd_0 rfl ?_
    refine s_iconst (pc := 27) (v := (1 : Int32)) dX11_remember_27 (by decide) ?_
    refine s_isub (pc := 28) dX11_remember_28 ?_
    refine s_putI (pc := 29) (ci := 11) (k := 17) dX11_remember_29 fl_11_131 kd_0 rfl rfl (fun μ_2 => ?_)
    exact t_X11_remember_B32 N μ_2
  · exact t_X11_remember_B32 N μ
def f_X11_answer_B16 (N : Nat)   (μ : z_S) : Option (Int32 × z_S) :=
  z_bn (f_X11_refuseNumber N (2 : Int32) μ) fun x2 μ_2 => some (x2, μ_2)
theorem t_X11_answer_B16 (N : Nat)       (μ : z_S) : z_sim true rI mX11_answer 5 (f_X11_answer_B16 N    μ) 16 [(0, .ref 0)] [] μ := by
  unfold f_X11_answer_B16
  refine s_aload_n (pc := 16) 0 dX11_answer_16 rfl rfl ?_
  refine s_iconst (pc := 17) (v := (2 : Int32)) dX11_answer_17 (by decide) ?_
  refine s_callVI (pc := 18) (as := [.int (2 : Int32)]) (st := []) dX11_answer_18 lk_11_108 kd_0 (t_X11_refuseNumber N (2 : Int32) μ) (by omega) rfl (by decide) rfl (fun x2 μ_2 => ?_)
  exact s_iret (pc := 21) rfl dX11_answer_21 rfl
def f_X11_answer (N : Nat) (a1 : Int32) (a2 : Int32) (μ : z_S) : Option (Int32 × z_S) :=
  z_bn (f_X11_isLetter N a1 μ) fun x1 μ_1 => if x1 = 0 then (f_X11_answer_B16 N μ_1) else z_bn (f_X11_isHelper N a2 μ_1) fun x3 μ_3 => if x3 = 0 then (f_X11_answer_B16 N μ_3) else z_bn (f_X4_timeIfAble N (z_hn μ_3.2.2.1) 39 a1 a2 μ_3) fun x4 μ_4 => if x4 = (-1 : Int32) then (z_bn (f_X11_refuseNumber N (2 : Int32) μ_4) fun x5 μ_5 => some (x5, μ_5)) else z_bn (f_X11_remember N μ_4) fun _ μ_6 => z_in a1 8 <| z_bd (z_setI μ_6 42 a1.toNatClampNeg a2) fun μ_7 => z_in a2 3 <| z_in a2 3 <| z_bd (z_setI μ_7 40 a2.toNatClampNeg ((μ_7.1 40 a2.toNatClampNeg) - x4)) fun μ_8 => some (x4, μ_8)
theorem t_X11_answer (N : Nat) (a1 : Int32) (a2 : Int32) (μ : z_S) : z_met true rI mX11_answer 5 [.ref 0, .int a1, .int a2] μ (f_X11_answer N a1 a2 μ) := by
  refine z_met.of (by decide +kernel) (by show _ ≤ _; first | decide | exact Nat.le_of_ble_eq_true rfl) (lv := [(0, .ref 0), (1, .int a1), (2, .int a2)]) rfl ?_
  unfold f_X11_answer
  refine s_aload_n (pc := 0) 0 dX11_answer_0 rfl rfl ?_
  refine s_iload_n (pc := 1) 1 dX11_answer_1 rfl rfl ?_
  refine s_callVI (pc := 2) (as := [.int a1]) (st := []) dX11_answer_2 lk_11_169 kd_0 (t_X11_isLetter N a1 μ) (by omega) rfl (by decide) rfl (fun x1 μ_1 => ?_)
  refine s_if_eq (pc := 5) (tgt := 16) dX11_answer_5 (by decide) ?_ ?_
  · refine s_sub (lv' := [(0, .ref 0)]) [0] rfl ?_
    exact t_X11_answer_B16 N μ_1
  · refine s_aload_n (pc := 8) 0 dX11_answer_8 rfl rfl ?_
    refine s_iload_n (pc := 9) 2 dX11_answer_9 rfl rfl ?_
    refine s_callVI (pc := 10) (as := [.int a2]) (st := []) dX11_answer_10 lk_11_205 kd_0 (t_X11_isHelper N a2 μ_1) (by omega) rfl (by decide) rfl (fun x3 μ_3 => ?_)
    refine s_if_ne (pc := 13) (tgt := 22) dX11_answer_13 (by decide) ?_ ?_
    · refine s_sub (lv' := [(0, .ref 0)]) [0] rfl ?_
      exact t_X11_answer_B16 N μ_3
    · refine s_aload_n (pc := 22) 0 dX11_answer_22 rfl rfl ?_
      refine s_getR (pc := 23) (ci := 11) (k := 3) (r := 4) dX11_answer_23 fl_11_19 kd_0 rfl rs_0_3 ?_
      refine s_aload_n (pc := 26) 0 dX11_answer_26 rfl rfl ?_
      refine s_getC (pc := 27) dX11_answer_27 fl_11_76 ?_
      refine s_aload_n (pc := 30) 0 dX11_answer_30 rfl rfl ?_
      refine s_getR (pc := 31) (ci := 11) (k := 7) (r := 39) dX11_answer_31 fl_11_49 kd_0 rfl rs_0_7 ?_
      refine s_iload_n (pc := 34) 1 dX11_answer_34 rfl rfl ?_
      refine s_iload_n (pc := 35) 2 dX11_answer_35 rfl rfl ?_
      refine s_callVI (pc := 36) (as := [.ref (z_hn μ_3.2.2.1), .ref 39, .int a1, .int a2]) (st := []) dX11_answer_36 lk_11_232 kd_4 (t_X4_timeIfAble N (z_hn μ_3.2.2.1) 39 a1 a2 μ_3) (by omega) rfl (by decide) rfl (fun x4 μ_4 => ?_)
      refine s_istore_n (pc := 39) (lv' := [(3, .int x4), (0, .ref 0), (1, .int a1), (2, .int a2)]) dX11_answer_39 rfl (by decide) rfl ?_
      refine s_iload_n (pc := 40) 0 dX11_answer_40 rfl rfl ?_
      refine s_iconst (pc := 41) (v := (-1 : Int32)) dX11_answer_41 (by decide) ?_
      refine s_icmp_ne (pc := 42) (tgt := 51) dX11_answer_42 (by decide) ?_ ?_
      · refine s_aload_n (pc := 45) 1 dX11_answer_45 rfl rfl ?_
        refine s_iconst (pc := 46) (v := (2 : Int32)) dX11_answer_46 (by decide) ?_
        refine s_callVI (pc := 47) (as := [.int (2 : Int32)]) (st := []) dX11_answer_47 lk_11_108 kd_0 (t_X11_refuseNumber N (2 : Int32) μ_4) (by omega) rfl (by decide) rfl (fun x5 μ_5 => ?_)
        exact s_iret (pc := 50) rfl dX11_answer_50 rfl
      · refine s_aload_n (pc := 51) 1 dX11_answer_51 rfl rfl ?_
        refine s_callVV (pc := 52) (as := []) (st := []) dX11_answer_52 lk_11_307 kd_0 (t_X11_remember N μ_4) (by omega) rfl (by decide) rfl (fun _ μ_6 => ?_)
        refine s_aload_n (pc := 55) 1 dX11_answer_55 rfl rfl ?_
        refine s_getR (pc := 56) (ci := 11) (k := 7) (r := 39) dX11_answer_56 fl_11_49 kd_0 rfl rs_0_7 ?_
        refine s_getR (pc := 59) (ci := 8) (k := 3) (r := 42) dX11_answer_59 fl_11_181 kd_39 rfl rs_39_3 ?_
        refine s_iload_n (pc := 62) 2 dX11_answer_62 rfl rfl ?_
        refine s_iload_n (pc := 63) 3 dX11_answer_63 rfl rfl ?_
        refine s_iast (pc := 64) dX11_answer_64 kd_42 (fun μ_7 => ?_)
        refine s_aload_n (pc := 65) 1 dX11_answer_65 rfl rfl ?_
        refine s_getR (pc := 66) (ci := 11) (k := 7) (r := 39) dX11_answer_66 fl_11_49 kd_0 rfl rs_0_7 ?_
        refine s_getR (pc := 69) (ci := 8) (k := 1) (r := 40) dX11_answer_69 fl_11_217 kd_39 rfl rs_39_1 ?_
        refine s_iload_n (pc := 72) 3 dX11_answer_72 rfl rfl ?_
        refine s_dup2 (pc := 73) dX11_answer_73 rfl rfl ?_
        refine s_iald (pc := 74) dX11_answer_74 kd_40 ?_
        refine s_iload_n (pc := 75) 0 dX11_answer_75 rfl rfl ?_
        refine s_isub (pc := 76) dX11_answer_76 ?_
        refine s_iast (pc := 77) dX11_answer_77 kd_40 (fun μ_8 => ?_)
        refine s_iload_n (pc := 78) 0 dX11_answer_78 rfl rfl ?_
        exact s_iret (pc := 79) rfl dX11_answer_79 rfl
def f_X11_sheet_B18 (N : Nat)   (μ : z_S) : Option (Int32 × z_S) :=
  z_bn (f_X11_refuse N (2 : Int32) μ) fun x2 μ_2 => z_zb x2 (some (x2, μ_2))
theorem t_X11_sheet_B18 (N : Nat)       (μ : z_S) : z_sim true rI mX11_sheet 2 (f_X11_sheet_B18 N    μ) 18 [(0, .ref 0)] [] μ := by
  unfold f_X11_sheet_B18
  refine s_aload_n (pc := 18) 0 dX11_sheet_18 rfl rfl ?_
  refine s_iconst (pc := 19) (v := (2 : Int32)) dX11_sheet_19 (by decide) ?_
  refine s_callVI (pc := 20) (as := [.int (2 : Int32)]) (st := []) dX11_sheet_20 lk_11_116 kd_0 (t_X11_refuse N (2 : Int32) μ) (by omega) rfl (by decide) rfl (fun x2 μ_2 => ?_)
  exact s_zret (pc := 23) dX11_sheet_23 rfl
def f_X11_sheet_B53 (N : Nat)   (μ : z_S) : Option (Int32 × z_S) :=
  z_bn (f_X11_refuse N (2 : Int32) μ) fun x3 μ_3 => z_zb x3 (some (x3, μ_3))
theorem t_X11_sheet_B53 (N : Nat)       (μ : z_S) : z_sim true rI mX11_sheet 2 (f_X11_sheet_B53 N    μ) 53 [(0, .ref 0)] [] μ := by
  unfold f_X11_sheet_B53
  refine s_aload_n (pc := 53) 0 dX11_sheet_53 rfl rfl ?_
  refine s_iconst (pc := 54) (v := (2 : Int32)) dX11_sheet_54 (by decide) ?_
  refine s_callVI (pc := 55) (as := [.int (2 : Int32)]) (st := []) dX11_sheet_55 lk_11_116 kd_0 (t_X11_refuse N (2 : Int32) μ) (by omega) rfl (by decide) rfl (fun x3 μ_3 => ?_)
  exact s_zret (pc := 58) dX11_sheet_58 rfl
def f_X11_sheet (N : Nat) (a1 : Int32) (a2 : Int32) (μ : z_S) : Option (Int32 × z_S) :=
  z_bn (f_X11_isLetter N a1 μ) fun x1 μ_1 => if x1 = 0 then (f_X11_sheet_B18 N μ_1) else if a2 < (1 : Int32) then (f_X11_sheet_B18 N μ_1) else if (4 : Int32) < a2 then (f_X11_sheet_B18 N μ_1) else z_in a1 8 <| if (μ_1.1 43 a1.toNatClampNeg) = a2 then (f_X11_sheet_B53 N μ_1) else z_bn (f_X8_hasSheetNear N 39 (z_hn μ_1.2.2.1) a1 a2 μ_1) fun x4 μ_4 => if x4 = 0 then (z_bn (f_X11_remember N μ_4) fun _ μ_5 => z_in a1 8 <| z_bd (z_setI μ_5 43 a1.toNatClampNeg a2) fun μ_6 => some ((1 : Int32), μ_6)) else f_X11_sheet_B53 N μ_4
theorem t_X11_sheet (N : Nat) (a1 : Int32) (a2 : Int32) (μ : z_S) : z_met true rI mX11_sheet 2 [.ref 0, .int a1, .int a2] μ (f_X11_sheet N a1 a2 μ) := by
  refine z_met.of (by decide +kernel) (by show _ ≤ _; first | decide | exact Nat.le_of_ble_eq_true rfl) (lv := [(0, .ref 0), (1, .int a1), (2, .int a2)]) rfl ?_
  unfold f_X11_sheet
  refine s_aload_n (pc := 0) 0 dX11_sheet_0 rfl rfl ?_
  refine s_iload_n (pc := 1) 1 dX11_sheet_1 rfl rfl ?_
  refine s_callVI (pc := 2) (as := [.int a1]) (st := []) dX11_sheet_2 lk_11_169 kd_0 (t_X11_isLetter N a1 μ) (by omega) rfl (by decide) rfl (fun x1 μ_1 => ?_)
  refine s_if_eq (pc := 5) (tgt := 18) dX11_sheet_5 (by decide) ?_ ?_
  · refine s_sub (lv' := [(0, .ref 0)]) [0] rfl ?_
    exact t_X11_sheet_B18 N μ_1
  · refine s_iload_n (pc := 8) 2 dX11_sheet_8 rfl rfl ?_
    refine s_iconst (pc := 9) (v := (1 : Int32)) dX11_sheet_9 (by decide) ?_
    refine s_icmp_lt (pc := 10) (tgt := 18) dX11_sheet_10 (by decide) ?_ ?_
    · refine s_sub (lv' := [(0, .ref 0)]) [0] rfl ?_
      exact t_X11_sheet_B18 N μ_1
    · refine s_iload_n (pc := 13) 2 dX11_sheet_13 rfl rfl ?_
      refine s_iconst (pc := 14) (v := (4 : Int32)) dX11_sheet_14 (by decide) ?_
      refine s_icmp_le (pc := 15) (tgt := 24) dX11_sheet_15 (by decide) ?_ ?_
      · refine s_sub (lv' := [(0, .ref 0)]) [0] rfl ?_
        exact t_X11_sheet_B18 N μ_1
      · refine s_aload_n (pc := 24) 0 dX11_sheet_24 rfl rfl ?_
        refine s_getR (pc := 25) (ci := 11) (k := 7) (r := 39) dX11_sheet_25 fl_11_49 kd_0 rfl rs_0_7 ?_
        refine s_getR (pc := 28) (ci := 8) (k := 4) (r := 43) dX11_sheet_28 fl_11_184 kd_39 rfl rs_39_4 ?_
        refine s_iload_n (pc := 31) 1 dX11_sheet_31 rfl rfl ?_
        refine s_iald (pc := 32) dX11_sheet_32 kd_43 ?_
        refine s_iload_n (pc := 33) 2 dX11_sheet_33 rfl rfl ?_
        refine s_icmp_eq (pc := 34) (tgt := 53) dX11_sheet_34 (by decide) ?_ ?_
        · refine s_sub (lv' := [(0, .ref 0)]) [0] rfl ?_
          exact t_X11_sheet_B53 N μ_1
        · refine s_aload_n (pc := 37) 0 dX11_sheet_37 rfl rfl ?_
          refine s_getR (pc := 38) (ci := 11) (k := 7) (r := 39) dX11_sheet_38 fl_11_49 kd_0 rfl rs_0_7 ?_
          refine s_aload_n (pc := 41) 0 dX11_sheet_41 rfl rfl ?_
          refine s_getC (pc := 42) dX11_sheet_42 fl_11_76 ?_
          refine s_iload_n (pc := 45) 1 dX11_sheet_45 rfl rfl ?_
          refine s_iload_n (pc := 46) 2 dX11_sheet_46 rfl rfl ?_
          refine s_callVI (pc := 47) (as := [.ref (z_hn μ_1.2.2.1), .int a1, .int a2]) (st := []) dX11_sheet_47 lk_11_310 kd_39 (t_X8_hasSheetNear N 39 (z_hn μ_1.2.2.1) a1 a2 μ_1) (by omega) rfl (by decide) rfl (fun x4 μ_4 => ?_)
          refine s_if_eq (pc := 50) (tgt := 59) dX11_sheet_50 (by decide) ?_ ?_
          · refine s_aload_n (pc := 59) 0 dX11_sheet_59 rfl rfl ?_
            refine s_callVV (pc := 60) (as := []) (st := []) dX11_sheet_60 lk_11_307 kd_0 (t_X11_remember N μ_4) (by omega) rfl (by decide) rfl (fun _ μ_5 => ?_)
            refine s_aload_n (pc := 63) 0 dX11_sheet_63 rfl rfl ?_
            refine s_getR (pc := 64) (ci := 11) (k := 7) (r := 39) dX11_sheet_64 fl_11_49 kd_0 rfl rs_0_7 ?_
            refine s_getR (pc := 67) (ci := 8) (k := 4) (r := 43) dX11_sheet_67 fl_11_184 kd_39 rfl rs_39_4 ?_
            refine s_iload_n (pc := 70) 1 dX11_sheet_70 rfl rfl ?_
            refine s_iload_n (pc := 71) 2 dX11_sheet_71 rfl rfl ?_
            refine s_iast (pc := 72) dX11_sheet_72 kd_43 (fun μ_6 => ?_)
            refine s_iconst (pc := 73) (v := (1 : Int32)) dX11_sheet_73 (by decide) ?_
            exact s_zret0 (pc := 74) dX11_sheet_74 rfl rfl
          · refine s_sub (lv' := [(0, .ref 0)]) [0] rfl ?_
            exact t_X11_sheet_B53 N μ_4
def f_X11_give_B16 (N : Nat)   (μ : z_S) : Option (Int32 × z_S) :=
  z_bn (f_X11_refuseNumber N (2 : Int32) μ) fun x2 μ_2 => some (x2, μ_2)
theorem t_X11_give_B16 (N : Nat)       (μ : z_S) : z_sim true rI mX11_give 2 (f_X11_give_B16 N    μ) 16 [(0, .ref 0)] [] μ := by
  unfold f_X11_give_B16
  refine s_aload_n (pc := 16) 0 dX11_give_16 rfl rfl ?_
  refine s_iconst (pc := 17) (v := (2 : Int32)) dX11_give_17 (by decide) ?_
  refine s_callVI (pc := 18) (as := [.int (2 : Int32)]) (st := []) dX11_give_18 lk_11_108 kd_0 (t_X11_refuseNumber N (2 : Int32) μ) (by omega) rfl (by decide) rfl (fun x2 μ_2 => ?_)
  exact s_iret (pc := 21) rfl dX11_give_21 rfl
def f_X11_give_B47 (N : Nat)   (μ : z_S) : Option (Int32 × z_S) :=
  z_bn (f_X11_refuseNumber N (2 : Int32) μ) fun x4 μ_7 => some (x4, μ_7)
theorem t_X11_give_B47 (N : Nat)       (μ : z_S) : z_sim true rI mX11_give 2 (f_X11_give_B47 N    μ) 47 [(0, .ref 0)] [] μ := by
  unfold f_X11_give_B47
  refine s_aload_n (pc := 47) 0 dX11_give_47 rfl rfl ?_
  refine s_iconst (pc := 48) (v := (2 : Int32)) dX11_give_48 (by decide) ?_
  refine s_callVI (pc := 49) (as := [.int (2 : Int32)]) (st := []) dX11_give_49 lk_11_108 kd_0 (t_X11_refuseNumber N (2 : Int32) μ) (by omega) rfl (by decide) rfl (fun x4 μ_7 => ?_)
  exact s_iret (pc := 52) rfl dX11_give_52 rfl
def f_X11_give (N : Nat) (a1 : Int32) (a2 : Int32) (μ : z_S) : Option (Int32 × z_S) :=
  z_bn (f_X11_isLetter N a1 μ) fun x1 μ_1 => if x1 = 0 then (f_X11_give_B16 N μ_1) else z_bn (f_X11_isGift N a2 μ_1) fun x3 μ_3 => if x3 = 0 then (f_X11_give_B16 N μ_3) else z_in a1 8 <| if (μ_3.1 44 a1.toNatClampNeg) = (-1 : Int32) then (z_in a2 4 <| if 0 < (μ_3.1 41 a2.toNatClampNeg) then (z_bn (f_X11_remember N μ_3) fun _ μ_4 => z_in a1 8 <| z_bd (z_setI μ_4 44 a1.toNatClampNeg a2) fun μ_5 => z_in a2 4 <| z_in a2 4 <| z_bd (z_setI μ_5 41 a2.toNatClampNeg ((μ_5.1 41 a2.toNatClampNeg) - (1 : Int32))) fun μ_6 => z_in a2 4 <| some ((μ_6.1 41 a2.toNatClampNeg), μ_6)) else f_X11_give_B47 N μ_3) else f_X11_give_B47 N μ_3
theorem t_X11_give (N : Nat) (a1 : Int32) (a2 : Int32) (μ : z_S) : z_met true rI mX11_give 2 [.ref 0, .int a1, .int a2] μ (f_X11_give N a1 a2 μ) := by
  refine z_met.of (by decide +kernel) (by show _ ≤ _; first | decide | exact Nat.le_of_ble_eq_true rfl) (lv := [(0, .ref 0), (1, .int a1), (2, .int a2)]) rfl ?_
  unfold f_X11_give
  refine s_aload_n (pc := 0) 0 dX11_give_0 rfl rfl ?_
  refine s_iload_n (pc := 1) 1 dX11_give_1 rfl rfl ?_
  refine s_callVI (pc := 2) (as := [.int a1]) (st := []) dX11_give_2 lk_11_169 kd_0 (t_X11_isLetter N a1 μ) (by omega) rfl (by decide) rfl (fun x1 μ_1 => ?_)
  refine s_if_eq (pc := 5) (tgt := 16) dX11_give_5 (by decide) ?_ ?_
  · refine s_sub (lv' := [(0, .ref 0)]) [0] rfl ?_
    exact t_X11_give_B16 N μ_1
  · refine s_aload_n (pc := 8) 0 dX11_give_8 rfl rfl ?_
    refine s_iload_n (pc := 9) 2 dX11_give_9 rfl rfl ?_
    refine s_callVI (pc := 10) (as := [.int a2]) (st := []) dX11_give_10 lk_11_196 kd_0 (t_X11_isGift N a2 μ_1) (by omega) rfl (by decide) rfl (fun x3 μ_3 => ?_)
    refine s_if_ne (pc := 13) (tgt := 22) dX11_give_13 (by decide) ?_ ?_
    · refine s_sub (lv' := [(0, .ref 0)]) [0] rfl ?_
      exact t_X11_give_B16 N μ_3
    · refine s_aload_n (pc := 22) 0 dX11_give_22 rfl rfl ?_
      refine s_getR (pc := 23) (ci := 11) (k := 7) (r := 39) dX11_give_23 fl_11_49 kd_0 rfl rs_0_7 ?_
      refine s_getR (pc := 26) (ci := 8) (k := 5) (r := 44) dX11_give_26 fl_11_187 kd_39 rfl rs_39_5 ?_
      refine s_iload_n (pc := 29) 1 dX11_give_29 rfl rfl ?_
      refine s_iald (pc := 30) dX11_give_30 kd_44 ?_
      refine s_iconst (pc := 31) (v := (-1 : Int32)) dX11_give_31 (by decide) ?_
      refine s_icmp_ne (pc := 32) (tgt := 47) dX11_give_32 (by decide) ?_ ?_
      · refine s_aload_n (pc := 35) 0 dX11_give_35 rfl rfl ?_
        refine s_getR (pc := 36) (ci := 11) (k := 7) (r := 39) dX11_give_36 fl_11_49 kd_0 rfl rs_0_7 ?_
        refine s_getR (pc := 39) (ci := 8) (k := 2) (r := 41) dX11_give_39 fl_11_199 kd_39 rfl rs_39_2 ?_
        refine s_iload_n (pc := 42) 2 dX11_give_42 rfl rfl ?_
        refine s_iald (pc := 43) dX11_give_43 kd_41 ?_
        refine s_if_gt (pc := 44) (tgt := 53) dX11_give_44 (by decide) ?_ ?_
        · refine s_aload_n (pc := 53) 0 dX11_give_53 rfl rfl ?_
          refine s_callVV (pc := 54) (as := []) (st := []) dX11_give_54 lk_11_307 kd_0 (t_X11_remember N μ_3) (by omega) rfl (by decide) rfl (fun _ μ_4 => ?_)
          refine s_aload_n (pc := 57) 0 dX11_give_57 rfl rfl ?_
          refine s_getR (pc := 58) (ci := 11) (k := 7) (r := 39) dX11_give_58 fl_11_49 kd_0 rfl rs_0_7 ?_
          refine s_getR (pc := 61) (ci := 8) (k := 5) (r := 44) dX11_give_61 fl_11_187 kd_39 rfl rs_39_5 ?_
          refine s_iload_n (pc := 64) 1 dX11_give_64 rfl rfl ?_
          refine s_iload_n (pc := 65) 2 dX11_give_65 rfl rfl ?_
          refine s_iast (pc := 66) dX11_give_66 kd_44 (fun μ_5 => ?_)
          refine s_aload_n (pc := 67) 0 dX11_give_67 rfl rfl ?_
          refine s_getR (pc := 68) (ci := 11) (k := 7) (r := 39) dX11_give_68 fl_11_49 kd_0 rfl rs_0_7 ?_
          refine s_getR (pc := 71) (ci := 8) (k := 2) (r := 41) dX11_give_71 fl_11_199 kd_39 rfl rs_39_2 ?_
          refine s_iload_n (pc := 74) 2 dX11_give_74 rfl rfl ?_
          refine s_dup2 (pc := 75) dX11_give_75 rfl rfl ?_
          refine s_iald (pc := 76) dX11_give_76 kd_41 ?_
          refine s_iconst (pc := 77) (v := (1 : Int32)) dX11_give_77 (by decide) ?_
          refine s_isub (pc := 78) dX11_give_78 ?_
          refine s_iast (pc := 79) dX11_give_79 kd_41 (fun μ_6 => ?_)
          refine s_aload_n (pc := 80) 0 dX11_give_80 rfl rfl ?_
          refine s_getR (pc := 81) (ci := 11) (k := 7) (r := 39) dX11_give_81 fl_11_49 kd_0 rfl rs_0_7 ?_
          refine s_getR (pc := 84) (ci := 8) (k := 2) (r := 41) dX11_give_84 fl_11_199 kd_39 rfl rs_39_2 ?_
          refine s_iload_n (pc := 87) 2 dX11_give_87 rfl rfl ?_
          refine s_iald (pc := 88) dX11_give_88 kd_41 ?_
          exact s_iret (pc := 89) rfl dX11_give_89 rfl
        · refine s_sub (lv' := [(0, .ref 0)]) [0] rfl ?_
          exact t_X11_give_B47 N μ_3
      · refine s_sub (lv' := [(0, .ref 0)]) [0] rfl ?_
        exact t_X11_give_B47 N μ_3
def f_X11_canGoBy (N : Nat) (a1 : Int32) (μ : z_S) : Option (Int32 × z_S) :=
  if a1 < (1 : Int32) then (some ((0 : Int32), μ)) else if (50 : Int32) < a1 then (some ((0 : Int32), μ)) else if (999 : Int32) < ((μ.1 39 0) + a1) then (some ((0 : Int32), μ)) else some ((1 : Int32), μ)
theorem t_X11_canGoBy (N : Nat) (a1 : Int32) (μ : z_S) : z_met true rI mX11_canGoBy 0 [.ref 0, .int a1] μ (f_X11_canGoBy N a1 μ) := by
  refine z_met.of (by decide +kernel) (by show _ ≤ _; first | decide | exact Nat.le_of_ble_eq_true rfl) (lv := [(0, .ref 0), (1, .int a1)]) rfl ?_
  unfold f_X11_canGoBy
  refine s_iload_n (pc := 0) 1 dX11_canGoBy_0 rfl rfl ?_
  refine s_iconst (pc := 1) (v := (1 : Int32)) dX11_canGoBy_1 (by decide) ?_
  refine s_icmp_lt (pc := 2) (tgt := 30) dX11_canGoBy_2 (by decide) ?_ ?_
  · refine s_iconst (pc := 30) (v := (0 : Int32)) dX11_canGoBy_30 (by decide) ?_
    exact s_zret0 (pc := 31) dX11_canGoBy_31 rfl rfl
  · refine s_iload_n (pc := 5) 1 dX11_canGoBy_5 rfl rfl ?_
    refine s_bipush (pc := 6) (v := (50 : Int32)) dX11_canGoBy_6 (by decide) ?_
    refine s_icmp_gt (pc := 8) (tgt := 30) dX11_canGoBy_8 (by decide) ?_ ?_
    · refine s_iconst (pc := 30) (v := (0 : Int32)) dX11_canGoBy_30 (by decide) ?_
      exact s_zret0 (pc := 31) dX11_canGoBy_31 rfl rfl
    · refine s_aload_n (pc := 11) 0 dX11_canGoBy_11 rfl rfl ?_
      refine s_getR (pc := 12) (ci := 11) (k := 7) (r := 39) dX11_canGoBy_12 fl_11_49 kd_0 rfl rs_0_7 ?_
      refine s_getI (pc := 15) (ci := 8) (k := 0) dX11_canGoBy_15 fl_11_149 kd_39 rfl ?_
      refine s_iload_n (pc := 18) 1 dX11_canGoBy_18 rfl rfl ?_
      refine s_iadd (pc := 19) dX11_canGoBy_19 ?_
      refine s_sipush (pc := 20) (v := (999 : Int32)) dX11_canGoBy_20 (by decide) ?_
      refine s_icmp_gt (pc := 23) (tgt := 30) dX11_canGoBy_23 (by decide) ?_ ?_
      · refine s_iconst (pc := 30) (v := (0 : Int32)) dX11_canGoBy_30 (by decide) ?_
        exact s_zret0 (pc := 31) dX11_canGoBy_31 rfl rfl
      · refine s_iconst (pc := 26) (v := (1 : Int32)) dX11_canGoBy_26 (by decide) ?_
        refine s_goto (pc := 27) (tgt := 31) dX11_canGoBy_27 (by decide) ?_
        exact s_zret0 (pc := 31) dX11_canGoBy_31 rfl rfl
def b_X11_evenings_L22 (N : Nat) (c1 : Int32) (kb : Int32 → Int32 → z_S → Option (Int32 × z_S)) (v2 : Int32) (v3 : Int32) (μ : z_S) : Option (Int32 × z_S) :=
  if v3 < c1 then (z_bn (f_X1_plan N (z_hn μ.2.2.1) 39 μ) fun _ μ_4 => z_bn (f_X1_close N (z_hn μ_4.2.2.1) 39 μ_4) fun _ μ_5 => z_bd (v2 + (μ_5.1 8 2)) fun x3 => z_bd (v3 + 1) fun x4 => kb x3 x4 μ_5) else some (v2, μ)
theorem tb_X11_evenings_L22 (N : Nat) (c1 : Int32) (kb : Int32 → Int32 → z_S → Option (Int32 × z_S)) (hkb : ∀ (a2 : Int32) (a3 : Int32) (μ : z_S), z_sim true rI mX11_evenings 7 (kb a2 a3 μ) 22 [(0, .ref 0), (1, .int c1), (2, .int a2), (3, .int a3)] [] μ) (v2 : Int32) (v3 : Int32) (μ : z_S) : z_sim true rI mX11_evenings 7 (b_X11_evenings_L22 N c1 kb v2 v3 μ) 22 [(0, .ref 0), (1, .int c1), (2, .int v2), (3, .int v3)] [] μ := by
  unfold b_X11_evenings_L22
  refine s_iload_n (pc := 22) 3 dX11_evenings_22 rfl rfl ?_
  refine s_iload_n (pc := 23) 1 dX11_evenings_23 rfl rfl ?_
  refine s_icmp_ge (pc := 24) (tgt := 73) dX11_evenings_24 (by decide) ?_ ?_
  · refine s_aload_n (pc := 27) 0 dX11_evenings_27 rfl rfl ?_
    refine s_getR (pc := 28) (ci := 11) (k := 4) (r := 8) dX11_evenings_28 fl_11_28 kd_0 rfl rs_0_4 ?_
    refine s_aload_n (pc := 31) 0 dX11_evenings_31 rfl rfl ?_
    refine s_getC (pc := 32) dX11_evenings_32 fl_11_76 ?_
    refine s_aload_n (pc := 35) 0 dX11_evenings_35 rfl rfl ?_
    refine s_getR (pc := 36) (ci := 11) (k := 7) (r := 39) dX11_evenings_36 fl_11_49 kd_0 rfl rs_0_7 ?_
    refine s_callVV (pc := 39) (as := [.ref (z_hn μ.2.2.1), .ref 39]) (st := []) dX11_evenings_39 lk_11_235 kd_8 (t_X1_plan N (z_hn μ.2.2.1) 39 μ) (by omega) rfl (by decide) rfl (fun _ μ_4 => ?_)
    refine s_aload_n (pc := 42) 0 dX11_evenings_42 rfl rfl ?_
    refine s_getR (pc := 43) (ci := 11) (k := 4) (r := 8) dX11_evenings_43 fl_11_28 kd_0 rfl rs_0_4 ?_
    refine s_aload_n (pc := 46) 0 dX11_evenings_46 rfl rfl ?_
    refine s_getC (pc := 47) dX11_evenings_47 fl_11_76 ?_
    refine s_aload_n (pc := 50) 0 dX11_evenings_50 rfl rfl ?_
    refine s_getR (pc := 51) (ci := 11) (k := 7) (r := 39) dX11_evenings_51 fl_11_49 kd_0 rfl rs_0_7 ?_
    refine s_callVV (pc := 54) (as := [.ref (z_hn μ_4.2.2.1), .ref 39]) (st := []) dX11_evenings_54 lk_11_253 kd_8 (t_X1_close N (z_hn μ_4.2.2.1) 39 μ_4) (by omega) rfl (by decide) rfl (fun _ μ_5 => ?_)
    refine s_iload_n (pc := 57) 2 dX11_evenings_57 rfl rfl ?_
    refine s_aload_n (pc := 58) 0 dX11_evenings_58 rfl rfl ?_
    refine s_getR (pc := 59) (ci := 11) (k := 4) (r := 8) dX11_evenings_59 fl_11_28 kd_0 rfl rs_0_4 ?_
    refine s_getI (pc := 62) (ci := 1) (k := 2) dX11_evenings_62 fl_11_239 kd_8 rfl ?_
    refine s_iadd (pc := 65) dX11_evenings_65 ?_
    refine s_letI (fun x3 => ?_)
    refine s_istore_n (pc := 66) (lv' := [(2, .int x3), (0, .ref 0), (1, .int c1), (3, .int v3)]) dX11_evenings_66 rfl (by decide) rfl ?_
    refine s_iincB (pc := 67) (lv' := fun x4 => [(3, .int x4), (2, .int x3), (0, .ref 0), (1, .int c1)]) (c := 1) 3 dX11_evenings_67 rfl (by decide) (by decide) (fun _ => rfl) (fun x4 => ?_)
    refine s_goto (pc := 70) (tgt := 22) dX11_evenings_70 (by decide) ?_
    refine s_sub (lv' := [(0, .ref 0), (1, .int c1), (2, .int x3), (3, .int x4)]) [2, 3, 1, 0] rfl ?_
    exact hkb x3 x4 μ_5
  · refine s_iload_n (pc := 73) 2 dX11_evenings_73 rfl rfl ?_
    exact s_iret (pc := 74) rfl dX11_evenings_74 rfl
def f_X11_evenings_L22 (N : Nat) (c1 : Int32) : Nat → Int32 → Int32 → z_S → Option (Int32 × z_S)
  | 0, _, _, _ => none
  | n + 1, v2, v3, μ => b_X11_evenings_L22 N c1 (f_X11_evenings_L22 N c1 n) v2 v3 μ
theorem t_X11_evenings_L22 (N : Nat) (c1 : Int32) : ∀ (n : Nat) (v2 : Int32) (v3 : Int32) (μ : z_S), z_sim true rI mX11_evenings 7 (f_X11_evenings_L22 N c1 n v2 v3 μ) 22 [(0, .ref 0), (1, .int c1), (2, .int v2), (3, .int v3)] [] μ
  | 0, _, _, _ => s_none
  | n + 1, v2, v3, μ => tb_X11_evenings_L22 N c1 (f_X11_evenings_L22 N c1 n) (t_X11_evenings_L22 N c1 n) v2 v3 μ
def f_X11_evenings (N : Nat) (a1 : Int32) (μ : z_S) : Option (Int32 × z_S) :=
  z_bn (f_X11_canGoBy N a1 μ) fun x1 μ_1 => if x1 = 0 then (z_bn (f_X11_refuseNumber N (3 : Int32) μ_1) fun x2 μ_2 => some (x2, μ_2)) else z_bn (f_X11_remember N μ_1) fun _ μ_3 => f_X11_evenings_L22 N a1 N (0 : Int32) (0 : Int32) μ_3
theorem t_X11_evenings (N : Nat) (a1 : Int32) (μ : z_S) : z_met true rI mX11_evenings 7 [.ref 0, .int a1] μ (f_X11_evenings N a1 μ) := by
  refine z_met.of (by decide +kernel) (by show _ ≤ _; first | decide | exact Nat.le_of_ble_eq_true rfl) (lv := [(0, .ref 0), (1, .int a1)]) rfl ?_
  unfold f_X11_evenings
  refine s_aload_n (pc := 0) 0 dX11_evenings_0 rfl rfl ?_
  refine s_iload_n (pc := 1) 1 dX11_evenings_1 rfl rfl ?_
  refine s_callVI (pc := 2) (as := [.int a1]) (st := []) dX11_evenings_2 lk_11_314 kd_0 (t_X11_canGoBy N a1 μ) (by omega) rfl (by decide) rfl (fun x1 μ_1 => ?_)
  refine s_if_ne (pc := 5) (tgt := 14) dX11_evenings_5 (by decide) ?_ ?_
  · refine s_aload_n (pc := 8) 0 dX11_evenings_8 rfl rfl ?_
    refine s_iconst (pc := 9) (v := (3 : Int32)) dX11_evenings_9 (by decide) ?_
    refine s_callVI (pc := 10) (as := [.int (3 : Int32)]) (st := []) dX11_evenings_10 lk_11_108 kd_0 (t_X11_refuseNumber N (3 : Int32) μ_1) (by omega) rfl (by decide) rfl (fun x2 μ_2 => ?_)
    exact s_iret (pc := 13) rfl dX11_evenings_13 rfl
  · refine s_aload_n (pc := 14) 0 dX11_evenings_14 rfl rfl ?_
    refine s_callVV (pc := 15) (as := []) (st := []) dX11_evenings_15 lk_11_307 kd_0 (t_X11_remember N μ_1) (by omega) rfl (by decide) rfl (fun _ μ_3 => ?_)
    refine s_iconst (pc := 18) (v := (0 : Int32)) dX11_evenings_18 (by decide) ?_
    refine s_istore_n (pc := 19) (lv' := [(2, .int (0 : Int32)), (0, .ref 0), (1, .int a1)]) dX11_evenings_19 rfl (by decide) rfl ?_
    refine s_iconst (pc := 20) (v := (0 : Int32)) dX11_evenings_20 (by decide) ?_
    refine s_istore_n (pc := 21) (lv' := [(3, .int (0 : Int32)), (2, .int (0 : Int32)), (0, .ref 0), (1, .int a1)]) dX11_evenings_21 rfl (by decide) rfl ?_
    refine s_sub (lv' := [(0, .ref 0), (1, .int a1), (2, .int (0 : Int32)), (3, .int (0 : Int32))]) [2, 3, 1, 0] rfl ?_
    refine t_X11_evenings_L22 N a1 N (0 : Int32) (0 : Int32) μ_3
def f_X11_drawOfHundred (N : Nat) (μ : z_S) : Option (Int32 × z_S) :=
  z_bd (z_setI μ 0 19 (((((1103515245 : Int64) * (μ.1 0 19).toInt64) + (12345 : Int64)) &&& (2147483647 : Int64)).toInt32)) fun μ_1 => z_nz (64 : Int32) <| z_nz (100 : Int32) <| some ((((μ_1.1 0 19) / (64 : Int32)) - ((μ_1.1 0 19) / (64 : Int32)) / (100 : Int32) * (100 : Int32)), μ_1)
theorem t_X11_drawOfHundred (N : Nat) (μ : z_S) : z_met true rI mX11_drawOfHundred 0 [.ref 0] μ (f_X11_drawOfHundred N μ) := by
  refine z_met.of (by decide +kernel) (by show _ ≤ _; first | decide | exact Nat.le_of_ble_eq_true rfl) (lv := [(0, .ref 0)]) rfl ?_
  unfold f_X11_drawOfHundred
  refine s_aload_n (pc := 0) 0 dX11_drawOfHundred_0 rfl rfl ?_
  refine s_ldc2 (pc := 1) (v := (1103515245 : Int64)) dX11_drawOfHundred_1 w_1223 ?_
  refine s_aload_n (pc := 4) 0 dX11_drawOfHundred_4 rfl rfl ?_
  refine s_getI (pc := 5) (ci := 11) (k := 19) dX11_drawOfHundred_5 fl_11_80 kd_0 rfl ?_
  refine s_i2l (pc := 8) dX11_drawOfHundred_8 ?_
  refine s_lmul (pc := 9) dX11_drawOfHundred_9 ?_
  refine s_ldc2 (pc := 10) (v := (12345 : Int64)) dX11_drawOfHundred_10 w_1224 ?_
  refine s_ladd (pc := 13) dX11_drawOfHundred_13 ?_
  refine s_ldc2 (pc := 14) (v := (2147483647 : Int64)) dX11_drawOfHundred_14 w_1225 ?_
  refine s_land (pc := 17) dX11_drawOfHundred_17 ?_
  refine s_l2i (pc := 18) dX11_drawOfHundred_18 ?_
  refine s_putI (pc := 19) (ci := 11) (k := 19) dX11_drawOfHundred_19 fl_11_80 kd_0 rfl rfl (fun μ_1 => ?_)
  refine s_aload_n (pc := 22) 0 dX11_drawOfHundred_22 rfl rfl ?_
  refine s_getI (pc := 23) (ci := 11) (k := 19) dX11_drawOfHundred_23 fl_11_80 kd_0 rfl ?_
  refine s_bipush (pc := 26) (v := (64 : Int32)) dX11_drawOfHundred_26 (by decide) ?_
  refine s_idiv (pc := 28) dX11_drawOfHundred_28 ?_
  refine s_bipush (pc := 29) (v := (100 : Int32)) dX11_drawOfHundred_29 (by decide) ?_
  refine s_irem (pc := 31) dX11_drawOfHundred_31 ?_
  exact s_iret (pc := 32) rfl dX11_drawOfHundred_32 rfl
def f_X11_catchColds_B44 (N : Nat) (kb : Int32 → Int32 → z_S → Option (Int32 × z_S)) (v1 : Int32) (v2 : Int32) (μ : z_S) : Option (Int32 × z_S) :=
  z_bd (v2 + 1) fun x3 => kb v1 x3 μ
theorem t_X11_catchColds_B44 (N : Nat)   (kb : Int32 → Int32 → z_S → Option (Int32 × z_S)) (hkb : ∀ (a1 : Int32) (a2 : Int32) (μ : z_S), z_sim true rI mX11_catchColds 1 (kb a1 a2 μ) 4 [(0, .ref 0), (1, .int a1), (2, .int a2)] [] μ) (v1 : Int32) (v2 : Int32)  (μ : z_S) : z_sim true rI mX11_catchColds 1 (f_X11_catchColds_B44 N  kb v1 v2 μ) 44 [(0, .ref 0), (1, .int v1), (2, .int v2)] [] μ := by
  unfold f_X11_catchColds_B44
  refine s_iincB (pc := 44) (lv' := fun x3 => [(2, .int x3), (0, .ref 0), (1, .int v1)]) (c := 1) 2 dX11_catchColds_44 rfl (by decide) (by decide) (fun _ => rfl) (fun x3 => ?_)
  refine s_goto (pc := 47) (tgt := 4) dX11_catchColds_47 (by decide) ?_
  refine s_sub (lv' := [(0, .ref 0), (1, .int v1), (2, .int x3)]) [1, 2, 0] rfl ?_
  exact hkb v1 x3 μ
def b_X11_catchColds_L4 (N : Nat) (kb : Int32 → Int32 → z_S → Option (Int32 × z_S)) (v1 : Int32) (v2 : Int32) (μ : z_S) : Option (Int32 × z_S) :=
  if v2 < (μ.1 ((z_hn μ.2.2.1) + 1) 2) then (z_bn (f_X11_drawOfHundred N μ) fun x1 μ_1 => if x1 < (μ_1.1 (z_hn μ_1.2.2.1) 16) then (z_in v2 3 <| z_bd (z_setI μ_1 40 v2.toNatClampNeg (0 : Int32)) fun μ_2 => z_bd (v1 + 1) fun x2 => f_X11_catchColds_B44 N kb x2 v2 μ_2) else f_X11_catchColds_B44 N kb v1 v2 μ_1) else some (v1, μ)
theorem tb_X11_catchColds_L4 (N : Nat) (kb : Int32 → Int32 → z_S → Option (Int32 × z_S)) (hkb : ∀ (a1 : Int32) (a2 : Int32) (μ : z_S), z_sim true rI mX11_catchColds 1 (kb a1 a2 μ) 4 [(0, .ref 0), (1, .int a1), (2, .int a2)] [] μ) (v1 : Int32) (v2 : Int32) (μ : z_S) : z_sim true rI mX11_catchColds 1 (b_X11_catchColds_L4 N kb v1 v2 μ) 4 [(0, .ref 0), (1, .int v1), (2, .int v2)] [] μ := by
  unfold b_X11_catchColds_L4
  refine s_iload_n (pc := 4) 2 dX11_catchColds_4 rfl rfl ?_
  refine s_aload_n (pc := 5) 0 dX11_catchColds_5 rfl rfl ?_
  refine s_getC (pc := 6) dX11_catchColds_6 fl_11_76 ?_
  refine s_getR (pc := 9) (ci := 2) (k := 0) (r := ((z_hn μ.2.2.1) + 1)) dX11_catchColds_9 fl_11_146 (z_hn_k μ.2.2.1) rfl (gr_2_0_0 (z_hn_k μ.2.2.1)) ?_
  refine s_iconst (pc := 12) (v := (2 : Int32)) dX11_catchColds_12 (by decide) ?_
  refine s_ialdK (pc := 13) (k := 2) dX11_catchColds_13 (gk_2_1 (z_hn_k μ.2.2.1)) (by decide) (by decide) (by decide) ?_
  refine s_icmp_ge (pc := 14) (tgt := 50) dX11_catchColds_14 (by decide) ?_ ?_
  · refine s_aload_n (pc := 17) 0 dX11_catchColds_17 rfl rfl ?_
    refine s_callVI (pc := 18) (as := []) (st := []) dX11_catchColds_18 lk_11_349 kd_0 (t_X11_drawOfHundred N μ) (by omega) rfl (by decide) rfl (fun x1 μ_1 => ?_)
    refine s_aload_n (pc := 21) 0 dX11_catchColds_21 rfl rfl ?_
    refine s_getC (pc := 22) dX11_catchColds_22 fl_11_76 ?_
    refine s_getI (pc := 25) (ci := 2) (k := 16) dX11_catchColds_25 fl_11_352 (z_hn_k μ_1.2.2.1) rfl ?_
    refine s_icmp_ge (pc := 28) (tgt := 44) dX11_catchColds_28 (by decide) ?_ ?_
    · refine s_aload_n (pc := 31) 0 dX11_catchColds_31 rfl rfl ?_
      refine s_getR (pc := 32) (ci := 11) (k := 7) (r := 39) dX11_catchColds_32 fl_11_49 kd_0 rfl rs_0_7 ?_
      refine s_getR (pc := 35) (ci := 8) (k := 1) (r := 40) dX11_catchColds_35 fl_11_217 kd_39 rfl rs_39_1 ?_
      refine s_iload_n (pc := 38) 2 dX11_catchColds_38 rfl rfl ?_
      refine s_iconst (pc := 39) (v := (0 : Int32)) dX11_catchColds_39 (by decide) ?_
      refine s_iast (pc := 40) dX11_catchColds_40 kd_40 (fun μ_2 => ?_)
      refine s_iincB (pc := 41) (lv' := fun x2 => [(1, .int x2), (0, .ref 0), (2, .int v2)]) (c := 1) 1 dX11_catchColds_41 rfl (by decide) (by decide) (fun _ => rfl) (fun x2 => ?_)
      refine s_sub (lv' := [(0, .ref 0), (1, .int x2), (2, .int v2)]) [1, 0, 2] rfl ?_
      exact t_X11_catchColds_B44 N kb hkb x2 v2 μ_2
    · exact t_X11_catchColds_B44 N kb hkb v1 v2 μ_1
  · refine s_iload_n (pc := 50) 1 dX11_catchColds_50 rfl rfl ?_
    exact s_iret (pc := 51) rfl dX11_catchColds_51 rfl
def f_X11_catchColds_L4 (N : Nat) : Nat → Int32 → Int32 → z_S → Option (Int32 × z_S)
  | 0, _, _, _ => none
  | n + 1, v1, v2, μ => b_X11_catchColds_L4 N (f_X11_catchColds_L4 N n) v1 v2 μ
theorem t_X11_catchColds_L4 (N : Nat) : ∀ (n : Nat) (v1 : Int32) (v2 : Int32) (μ : z_S), z_sim true rI mX11_catchColds 1 (f_X11_catchColds_L4 N n v1 v2 μ) 4 [(0, .ref 0), (1, .int v1), (2, .int v2)] [] μ
  | 0, _, _, _ => s_none
  | n + 1, v1, v2, μ => tb_X11_catchColds_L4 N (f_X11_catchColds_L4 N n) (t_X11_catchColds_L4 N n) v1 v2 μ
def f_X11_catchColds (N : Nat) (μ : z_S) : Option (Int32 × z_S) :=
  f_X11_catchColds_L4 N N (0 : Int32) (0 : Int32) μ
theorem t_X11_catchColds (N : Nat) (μ : z_S) : z_met true rI mX11_catchColds 1 [.ref 0] μ (f_X11_catchColds N μ) := by
  refine z_met.of (by decide +kernel) (by show _ ≤ _; first | decide | exact Nat.le_of_ble_eq_true rfl) (lv := [(0, .ref 0)]) rfl ?_
  unfold f_X11_catchColds
  refine s_iconst (pc := 0) (v := (0 : Int32)) dX11_catchColds_0 (by decide) ?_
  refine s_istore_n (pc := 1) (lv' := [(1, .int (0 : Int32)), (0, .ref 0)]) dX11_catchColds_1 rfl (by decide) rfl ?_
  refine s_iconst (pc := 2) (v := (0 : Int32)) dX11_catchColds_2 (by decide) ?_
  refine s_istore_n (pc := 3) (lv' := [(2, .int (0 : Int32)), (1, .int (0 : Int32)), (0, .ref 0)]) dX11_catchColds_3 rfl (by decide) rfl ?_
  refine s_sub (lv' := [(0, .ref 0), (1, .int (0 : Int32)), (2, .int (0 : Int32))]) [2, 1, 0] rfl ?_
  refine t_X11_catchColds_L4 N N (0 : Int32) (0 : Int32) μ
def b_X11_chance_L22 (N : Nat) (c1 : Int32) (kb : Int32 → Int32 → z_S → Option (Int32 × z_S)) (v2 : Int32) (v3 : Int32) (μ : z_S) : Option (Int32 × z_S) :=
  if v3 < c1 then (z_bn (f_X11_catchColds N μ) fun x3 μ_4 => z_bd (v2 + x3) fun x4 => z_bn (f_X1_plan N (z_hn μ_4.2.2.1) 39 μ_4) fun _ μ_5 => z_bn (f_X1_close N (z_hn μ_5.2.2.1) 39 μ_5) fun _ μ_6 => z_bd (v3 + 1) fun x5 => kb x4 x5 μ_6) else some (v2, μ)
theorem tb_X11_chance_L22 (N : Nat) (c1 : Int32) (kb : Int32 → Int32 → z_S → Option (Int32 × z_S)) (hkb : ∀ (a2 : Int32) (a3 : Int32) (μ : z_S), z_sim true rI mX11_chance 7 (kb a2 a3 μ) 22 [(0, .ref 0), (1, .int c1), (2, .int a2), (3, .int a3)] [] μ) (v2 : Int32) (v3 : Int32) (μ : z_S) : z_sim true rI mX11_chance 7 (b_X11_chance_L22 N c1 kb v2 v3 μ) 22 [(0, .ref 0), (1, .int c1), (2, .int v2), (3, .int v3)] [] μ := by
  unfold b_X11_chance_L22
  refine s_iload_n (pc := 22) 3 dX11_chance_22 rfl rfl ?_
  refine s_iload_n (pc := 23) 1 dX11_chance_23 rfl rfl ?_
  refine s_icmp_ge (pc := 24) (tgt := 70) dX11_chance_24 (by decide) ?_ ?_
  · refine s_iload_n (pc := 27) 2 dX11_chance_27 rfl rfl ?_
    refine s_aload_n (pc := 28) 0 dX11_chance_28 rfl rfl ?_
    refine s_callVI (pc := 29) (as := []) (st := [.int v2]) dX11_chance_29 lk_11_317 kd_0 (t_X11_catchColds N μ) (by omega) rfl (Nat.le_of_ble_eq_true rfl) rfl (fun x3 μ_4 => ?_)
    refine s_iadd (pc := 32) dX11_chance_32 ?_
    refine s_letI (fun x4 => ?_)
    refine s_istore_n (pc := 33) (lv' := [(2, .int x4), (0, .ref 0), (1, .int c1), (3, .int v3)]) dX11_chance_33 rfl (by decide) rfl ?_
    refine s_aload_n (pc := 34) 1 dX11_chance_34 rfl rfl ?_
    refine s_getR (pc := 35) (ci := 11) (k := 4) (r := 8) dX11_chance_35 fl_11_28 kd_0 rfl rs_0_4 ?_
    refine s_aload_n (pc := 38) 1 dX11_chance_38 rfl rfl ?_
    refine s_getC (pc := 39) dX11_chance_39 fl_11_76 ?_
    refine s_aload_n (pc := 42) 1 dX11_chance_42 rfl rfl ?_
    refine s_getR (pc := 43) (ci := 11) (k := 7) (r := 39) dX11_chance_43 fl_11_49 kd_0 rfl rs_0_7 ?_
    refine s_callVV (pc := 46) (as := [.ref (z_hn μ_4.2.2.1), .ref 39]) (st := []) dX11_chance_46 lk_11_235 kd_8 (t_X1_plan N (z_hn μ_4.2.2.1) 39 μ_4) (by omega) rfl (by decide) rfl (fun _ μ_5 => ?_)
    refine s_aload_n (pc := 49) 1 dX11_chance_49 rfl rfl ?_
    refine s_getR (pc := 50) (ci := 11) (k := 4) (r := 8) dX11_chance_50 fl_11_28 kd_0 rfl rs_0_4 ?_
    refine s_aload_n (pc := 53) 1 dX11_chance_53 rfl rfl ?_
    refine s_getC (pc := 54) dX11_chance_54 fl_11_76 ?_
    refine s_aload_n (pc := 57) 1 dX11_chance_57 rfl rfl ?_
    refine s_getR (pc := 58) (ci := 11) (k := 7) (r := 39) dX11_chance_58 fl_11_49 kd_0 rfl rs_0_7 ?_
    refine s_callVV (pc := 61) (as := [.ref (z_hn μ_5.2.2.1), .ref 39]) (st := []) dX11_chance_61 lk_11_253 kd_8 (t_X1_close N (z_hn μ_5.2.2.1) 39 μ_5) (by omega) rfl (by decide) rfl (fun _ μ_6 => ?_)
    refine s_iincB (pc := 64) (lv' := fun x5 => [(3, .int x5), (2, .int x4), (0, .ref 0), (1, .int c1)]) (c := 1) 3 dX11_chance_64 rfl (by decide) (by decide) (fun _ => rfl) (fun x5 => ?_)
    refine s_goto (pc := 67) (tgt := 22) dX11_chance_67 (by decide) ?_
    refine s_sub (lv' := [(0, .ref 0), (1, .int c1), (2, .int x4), (3, .int x5)]) [2, 3, 1, 0] rfl ?_
    exact hkb x4 x5 μ_6
  · refine s_iload_n (pc := 70) 2 dX11_chance_70 rfl rfl ?_
    exact s_iret (pc := 71) rfl dX11_chance_71 rfl
def f_X11_chance_L22 (N : Nat) (c1 : Int32) : Nat → Int32 → Int32 → z_S → Option (Int32 × z_S)
  | 0, _, _, _ => none
  | n + 1, v2, v3, μ => b_X11_chance_L22 N c1 (f_X11_chance_L22 N c1 n) v2 v3 μ
theorem t_X11_chance_L22 (N : Nat) (c1 : Int32) : ∀ (n : Nat) (v2 : Int32) (v3 : Int32) (μ : z_S), z_sim true rI mX11_chance 7 (f_X11_chance_L22 N c1 n v2 v3 μ) 22 [(0, .ref 0), (1, .int c1), (2, .int v2), (3, .int v3)] [] μ
  | 0, _, _, _ => s_none
  | n + 1, v2, v3, μ => tb_X11_chance_L22 N c1 (f_X11_chance_L22 N c1 n) (t_X11_chance_L22 N c1 n) v2 v3 μ
def f_X11_chance (N : Nat) (a1 : Int32) (μ : z_S) : Option (Int32 × z_S) :=
  z_bn (f_X11_canGoBy N a1 μ) fun x1 μ_1 => if x1 = 0 then (z_bn (f_X11_refuseNumber N (3 : Int32) μ_1) fun x2 μ_2 => some (x2, μ_2)) else z_bn (f_X11_remember N μ_1) fun _ μ_3 => f_X11_chance_L22 N a1 N (0 : Int32) (0 : Int32) μ_3
theorem t_X11_chance (N : Nat) (a1 : Int32) (μ : z_S) : z_met true rI mX11_chance 7 [.ref 0, .int a1] μ (f_X11_chance N a1 μ) := by
  refine z_met.of (by decide +kernel) (by show _ ≤ _; first | decide | exact Nat.le_of_ble_eq_true rfl) (lv := [(0, .ref 0), (1, .int a1)]) rfl ?_
  unfold f_X11_chance
  refine s_aload_n (pc := 0) 0 dX11_chance_0 rfl rfl ?_
  refine s_iload_n (pc := 1) 1 dX11_chance_1 rfl rfl ?_
  refine s_callVI (pc := 2) (as := [.int a1]) (st := []) dX11_chance_2 lk_11_314 kd_0 (t_X11_canGoBy N a1 μ) (by omega) rfl (by decide) rfl (fun x1 μ_1 => ?_)
  refine s_if_ne (pc := 5) (tgt := 14) dX11_chance_5 (by decide) ?_ ?_
  · refine s_aload_n (pc := 8) 0 dX11_chance_8 rfl rfl ?_
    refine s_iconst (pc := 9) (v := (3 : Int32)) dX11_chance_9 (by decide) ?_
    refine s_callVI (pc := 10) (as := [.int (3 : Int32)]) (st := []) dX11_chance_10 lk_11_108 kd_0 (t_X11_refuseNumber N (3 : Int32) μ_1) (by omega) rfl (by decide) rfl (fun x2 μ_2 => ?_)
    exact s_iret (pc := 13) rfl dX11_chance_13 rfl
  · refine s_aload_n (pc := 14) 0 dX11_chance_14 rfl rfl ?_
    refine s_callVV (pc := 15) (as := []) (st := []) dX11_chance_15 lk_11_307 kd_0 (t_X11_remember N μ_1) (by omega) rfl (by decide) rfl (fun _ μ_3 => ?_)
    refine s_iconst (pc := 18) (v := (0 : Int32)) dX11_chance_18 (by decide) ?_
    refine s_istore_n (pc := 19) (lv' := [(2, .int (0 : Int32)), (0, .ref 0), (1, .int a1)]) dX11_chance_19 rfl (by decide) rfl ?_
    refine s_iconst (pc := 20) (v := (0 : Int32)) dX11_chance_20 (by decide) ?_
    refine s_istore_n (pc := 21) (lv' := [(3, .int (0 : Int32)), (2, .int (0 : Int32)), (0, .ref 0), (1, .int a1)]) dX11_chance_21 rfl (by decide) rfl ?_
    refine s_sub (lv' := [(0, .ref 0), (1, .int a1), (2, .int (0 : Int32)), (3, .int (0 : Int32))]) [2, 3, 1, 0] rfl ?_
    refine t_X11_chance_L22 N a1 N (0 : Int32) (0 : Int32) μ_3
def f_X11_undo (N : Nat) (μ : z_S) : Option (Int32 × z_S) :=
  if (μ.1 0 17) = 0 then (z_bn (f_X11_refuse N (4 : Int32) μ) fun x1 μ_1 => z_zb x1 (some (x1, μ_1))) else z_bd (z_setI μ 0 17 ((μ.1 0 17) - (1 : Int32))) fun μ_2 => z_nz (20 : Int32) <| z_in (((μ_2.1 0 18) + (μ_2.1 0 17)) - ((μ_2.1 0 18) + (μ_2.1 0 17)) / (20 : Int32) * (20 : Int32)) 20 <| z_bn (f_X8_copyFrom N 39 (133 + 6 * (((μ_2.1 0 18) + (μ_2.1 0 17)) - ((μ_2.1 0 18) + (μ_2.1 0 17)) / (20 : Int32) * (20 : Int32)).toNatClampNeg) μ_2) fun _ μ_3 => some ((1 : Int32), μ_3)
theorem t_X11_undo (N : Nat) (μ : z_S) : z_met true rI mX11_undo 1 [.ref 0] μ (f_X11_undo N μ) := by
  refine z_met.of (by decide +kernel) (by show _ ≤ _; first | decide | exact Nat.le_of_ble_eq_true rfl) (lv := [(0, .ref 0)]) rfl ?_
  unfold f_X11_undo
  refine s_aload_n (pc := 0) 0 dX11_undo_0 rfl rfl ?_
  refine s_getI (pc := 1) (ci := 11) (k := 17) dX11_undo_1 fl_11_131 kd_0 rfl ?_
  refine s_if_ne (pc := 4) (tgt := 13) dX11_undo_4 (by decide) ?_ ?_
  · refine s_aload_n (pc := 7) 0 dX11_undo_7 rfl rfl ?_
    refine s_iconst (pc := 8) (v := (4 : Int32)) dX11_undo_8 (by decide) ?_
    refine s_callVI (pc := 9) (as := [.int (4 : Int32)]) (st := []) dX11_undo_9 lk_11_116 kd_0 (t_X11_refuse N (4 : Int32) μ) (by omega) rfl (by decide) rfl (fun x1 μ_1 => ?_)
    exact s_zret (pc := 12) dX11_undo_12 rfl
  · refine s_aload_n (pc := 13) 0 dX11_undo_13 rfl rfl ?_
    refine s_dup (pc := 14) dX11_undo_14 rfl ?_
    refine s_getI (pc := 15) (ci := 11) (k := 17) dX11_undo_15 fl_11_131 kd_0 rfl ?_
    refine s_iconst (pc := 18) (v := (1 : Int32)) dX11_undo_18 (by decide) ?_
    refine s_isub (pc := 19) dX11_undo_19 ?_
    refine s_putI (pc := 20) (ci := 11) (k := 17) dX11_undo_20 fl_11_131 kd_0 rfl rfl (fun μ_2 => ?_)
    refine s_aload_n (pc := 23) 0 dX11_undo_23 rfl rfl ?_
    refine s_getR (pc := 24) (ci := 11) (k := 7) (r := 39) dX11_undo_24 fl_11_49 kd_0 rfl rs_0_7 ?_
    refine s_aload_n (pc := 27) 0 dX11_undo_27 rfl rfl ?_
    refine s_getR (pc := 28) (ci := 11) (k := 9) (r := 51) dX11_undo_28 fl_11_56 kd_0 rfl rs_0_9 ?_
    refine s_aload_n (pc := 31) 0 dX11_undo_31 rfl rfl ?_
    refine s_getI (pc := 32) (ci := 11) (k := 18) dX11_undo_32 fl_11_320 kd_0 rfl ?_
    refine s_aload_n (pc := 35) 0 dX11_undo_35 rfl rfl ?_
    refine s_getI (pc := 36) (ci := 11) (k := 17) dX11_undo_36 fl_11_131 kd_0 rfl ?_
    refine s_iadd (pc := 39) dX11_undo_39 ?_
    refine s_bipush (pc := 40) (v := (20 : Int32)) dX11_undo_40 (by decide) ?_
    refine s_irem (pc := 42) dX11_undo_42 ?_
    refine s_aald (pc := 43) (r := (133 + 6 * (((μ_2.1 0 18) + (μ_2.1 0 17)) - ((μ_2.1 0 18) + (μ_2.1 0 17)) / (20 : Int32) * (20 : Int32)).toNatClampNeg)) dX11_undo_43 kd_51 (by decide) (by decide) (fun hi => ar_51 hi) (fun hi1 => ?_)
    refine s_callVV (pc := 44) (as := [.ref (133 + 6 * (((μ_2.1 0 18) + (μ_2.1 0 17)) - ((μ_2.1 0 18) + (μ_2.1 0 17)) / (20 : Int32) * (20 : Int32)).toNatClampNeg)]) (st := []) dX11_undo_44 lk_11_249 kd_39 (t_X8_copyFrom N 39 (133 + 6 * (((μ_2.1 0 18) + (μ_2.1 0 17)) - ((μ_2.1 0 18) + (μ_2.1 0 17)) / (20 : Int32) * (20 : Int32)).toNatClampNeg) μ_2) (by omega) rfl (by decide) rfl (fun _ μ_3 => ?_)
    refine s_iconst (pc := 47) (v := (1 : Int32)) dX11_undo_47 (by decide) ?_
    exact s_zret0 (pc := 48) dX11_undo_48 rfl rfl
def f_X11_seed (N : Nat) (a1 : Int32) (μ : z_S) : Option (Int32 × z_S) :=
  if a1 < 0 then (z_bn (f_X11_refuse N (5 : Int32) μ) fun x1 μ_1 => z_zb x1 (some (x1, μ_1))) else z_bd (z_setI μ 0 19 a1) fun μ_2 => some ((1 : Int32), μ_2)
theorem t_X11_seed (N : Nat) (a1 : Int32) (μ : z_S) : z_met true rI mX11_seed 1 [.ref 0, .int a1] μ (f_X11_seed N a1 μ) := by
  refine z_met.of (by decide +kernel) (by show _ ≤ _; first | decide | exact Nat.le_of_ble_eq_true rfl) (lv := [(0, .ref 0), (1, .int a1)]) rfl ?_
  unfold f_X11_seed
  refine s_iload_n (pc := 0) 1 dX11_seed_0 rfl rfl ?_
  refine s_if_ge (pc := 1) (tgt := 10) dX11_seed_1 (by decide) ?_ ?_
  · refine s_aload_n (pc := 4) 0 dX11_seed_4 rfl rfl ?_
    refine s_iconst (pc := 5) (v := (5 : Int32)) dX11_seed_5 (by decide) ?_
    refine s_callVI (pc := 6) (as := [.int (5 : Int32)]) (st := []) dX11_seed_6 lk_11_116 kd_0 (t_X11_refuse N (5 : Int32) μ) (by omega) rfl (by decide) rfl (fun x1 μ_1 => ?_)
    exact s_zret (pc := 9) dX11_seed_9 rfl
  · refine s_aload_n (pc := 10) 0 dX11_seed_10 rfl rfl ?_
    refine s_iload_n (pc := 11) 1 dX11_seed_11 rfl rfl ?_
    refine s_putI (pc := 12) (ci := 11) (k := 19) dX11_seed_12 fl_11_80 kd_0 rfl rfl (fun μ_2 => ?_)
    refine s_iconst (pc := 15) (v := (1 : Int32)) dX11_seed_15 (by decide) ?_
    exact s_zret0 (pc := 16) dX11_seed_16 rfl rfl
def f_X11_ask (N : Nat) (μ : z_S) : Option (Int64 × z_S) :=
  z_bn (f_X5_read N μ) fun x1 μ_1 => z_bd (z_setI μ_1 1 1 (0 : Int32)) fun μ_2 => if x1 = 0 then (some ((-1000000000000000 : Int64), μ_2)) else z_bn (f_X5_over N (z_hn μ_2.2.2.1) 39 μ_2) fun x2 μ_3 => some (x2, μ_3)
theorem t_X11_ask (N : Nat) (μ : z_S) : z_met true rJ mX11_ask 51 [.ref 0] μ (f_X11_ask N μ) := by
  refine z_met.of (by decide +kernel) (by show _ ≤ _; first | decide | exact Nat.le_of_ble_eq_true rfl) (lv := [(0, .ref 0)]) rfl ?_
  unfold f_X11_ask
  refine s_aload_n (pc := 0) 0 dX11_ask_0 rfl rfl ?_
  refine s_getR (pc := 1) (ci := 11) (k := 2) (r := 132) dX11_ask_1 fl_11_101 kd_0 rfl rs_0_2 ?_
  refine s_callVI (pc := 4) (as := []) (st := []) dX11_ask_4 lk_11_323 kd_132 (t_X5_read N μ) (by omega) rfl (by decide) rfl (fun x1 μ_1 => ?_)
  refine s_istore_n (pc := 7) (lv' := [(1, .int x1), (0, .ref 0)]) dX11_ask_7 rfl (by decide) rfl ?_
  refine s_aload_n (pc := 8) 1 dX11_ask_8 rfl rfl ?_
  refine s_getR (pc := 9) (ci := 11) (k := 0) (r := 1) dX11_ask_9 fl_11_12 kd_0 rfl rs_0_0 ?_
  refine s_iconst (pc := 12) (v := (0 : Int32)) dX11_ask_12 (by decide) ?_
  refine s_putI (pc := 13) (ci := 10) (k := 1) dX11_ask_13 fl_11_105 kd_1 rfl rfl (fun μ_2 => ?_)
  refine s_iload_n (pc := 16) 0 dX11_ask_16 rfl rfl ?_
  refine s_if_eq (pc := 17) (tgt := 42) dX11_ask_17 (by decide) ?_ ?_
  · refine s_ldc2 (pc := 42) (v := (-1000000000000000 : Int64)) dX11_ask_42 w_995 ?_
    exact s_lret (pc := 45) dX11_ask_45 rfl
  · refine s_aload_n (pc := 20) 1 dX11_ask_20 rfl rfl ?_
    refine s_getR (pc := 21) (ci := 11) (k := 2) (r := 132) dX11_ask_21 fl_11_101 kd_0 rfl rs_0_2 ?_
    refine s_aload_n (pc := 24) 1 dX11_ask_24 rfl rfl ?_
    refine s_getC (pc := 25) dX11_ask_25 fl_11_76 ?_
    refine s_aload_n (pc := 28) 1 dX11_ask_28 rfl rfl ?_
    refine s_getR (pc := 29) (ci := 11) (k := 7) (r := 39) dX11_ask_29 fl_11_49 kd_0 rfl rs_0_7 ?_
    refine s_aload_n (pc := 32) 1 dX11_ask_32 rfl rfl ?_
    refine s_getR (pc := 33) (ci := 11) (k := 3) (r := 4) dX11_ask_33 fl_11_19 kd_0 rfl rs_0_3 ?_
    refine s_callVJ (pc := 36) (as := [.ref (z_hn μ_2.2.2.1), .ref 39, .ref 4]) (st := []) dX11_ask_36 lk_11_324 kd_132 (t_X5_over N (z_hn μ_2.2.2.1) 39 μ_2) (by omega) rfl (by decide) rfl (fun x2 μ_3 => ?_)
    refine s_goto (pc := 39) (tgt := 45) dX11_ask_39 (by decide) ?_
    exact s_lret (pc := 45) dX11_ask_45 rfl
def b_X11_checkByte_L5 (N : Nat) (o0 : Nat) (c1 : Int32) (kb : Int32 → Int32 → z_S → Option (Int32 × z_S)) (v2 : Int32) (v3 : Int32) (μ : z_S) : Option (Int32 × z_S) :=
  if v3 < c1 then (z_in v3 (z_kw true o0).2 <| z_nz (251 : Int32) <| z_bd ((((3 : Int32) * v2) + (μ.1 o0 v3.toNatClampNeg)) - (((3 : Int32) * v2) + (μ.1 o0 v3.toNatClampNeg)) / (251 : Int32) * (251 : Int32)) fun x1 => z_bd (v3 + 1) fun x2 => kb x1 x2 μ) else some (v2, μ)
theorem tb_X11_checkByte_L5 (N : Nat) (o0 : Nat) (c1 : Int32) (hk0 : z_kw true o0 = (20, (z_kw true o0).2)) (kb : Int32 → Int32 → z_S → Option (Int32 × z_S)) (hkb : ∀ (a2 : Int32) (a3 : Int32) (μ : z_S), z_sim true rI mX11_checkByte 0 (kb a2 a3 μ) 5 [(0, .ref o0), (1, .int c1), (2, .int a2), (3, .int a3)] [] μ) (v2 : Int32) (v3 : Int32) (μ : z_S) : z_sim true rI mX11_checkByte 0 (b_X11_checkByte_L5 N o0 c1 kb v2 v3 μ) 5 [(0, .ref o0), (1, .int c1), (2, .int v2), (3, .int v3)] [] μ := by
  unfold b_X11_checkByte_L5
  refine s_iload_n (pc := 5) 3 dX11_checkByte_5 rfl rfl ?_
  refine s_iload_n (pc := 6) 1 dX11_checkByte_6 rfl rfl ?_
  refine s_icmp_ge (pc := 7) (tgt := 28) dX11_checkByte_7 (by decide) ?_ ?_
  · refine s_iconst (pc := 10) (v := (3 : Int32)) dX11_checkByte_10 (by decide) ?_
    refine s_iload_n (pc := 11) 2 dX11_checkByte_11 rfl rfl ?_
    refine s_imul (pc := 12) dX11_checkByte_12 ?_
    refine s_aload_n (pc := 13) 0 dX11_checkByte_13 rfl rfl ?_
    refine s_iload_n (pc := 14) 3 dX11_checkByte_14 rfl rfl ?_
    refine s_iald (pc := 15) dX11_checkByte_15 hk0 ?_
    refine s_iadd (pc := 16) dX11_checkByte_16 ?_
    refine s_sipush (pc := 17) (v := (251 : Int32)) dX11_checkByte_17 (by decide) ?_
    refine s_irem (pc := 20) dX11_checkByte_20 ?_
    refine s_letI (fun x1 => ?_)
    refine s_istore_n (pc := 21) (lv' := [(2, .int x1), (0, .ref o0), (1, .int c1), (3, .int v3)]) dX11_checkByte_21 rfl (by decide) rfl ?_
    refine s_iincB (pc := 22) (lv' := fun x2 => [(3, .int x2), (2, .int x1), (0, .ref o0), (1, .int c1)]) (c := 1) 3 dX11_checkByte_22 rfl (by decide) (by decide) (fun _ => rfl) (fun x2 => ?_)
    refine s_goto (pc := 25) (tgt := 5) dX11_checkByte_25 (by decide) ?_
    refine s_sub (lv' := [(0, .ref o0), (1, .int c1), (2, .int x1), (3, .int x2)]) [2, 3, 1, 0] rfl ?_
    exact hkb x1 x2 μ
  · refine s_iload_n (pc := 28) 2 dX11_checkByte_28 rfl rfl ?_
    exact s_iret (pc := 29) rfl dX11_checkByte_29 rfl
def f_X11_checkByte_L5 (N : Nat) (o0 : Nat) (c1 : Int32) : Nat → Int32 → Int32 → z_S → Option (Int32 × z_S)
  | 0, _, _, _ => none
  | n + 1, v2, v3, μ => b_X11_checkByte_L5 N o0 c1 (f_X11_checkByte_L5 N o0 c1 n) v2 v3 μ
theorem t_X11_checkByte_L5 (N : Nat) (o0 : Nat) (c1 : Int32) (hk0 : z_kw true o0 = (20, (z_kw true o0).2)) : ∀ (n : Nat) (v2 : Int32) (v3 : Int32) (μ : z_S), z_sim true rI mX11_checkByte 0 (f_X11_checkByte_L5 N o0 c1 n v2 v3 μ) 5 [(0, .ref o0), (1, .int c1), (2, .int v2), (3, .int v3)] [] μ
  | 0, _, _, _ => s_none
  | n + 1, v2, v3, μ => tb_X11_checkByte_L5 N o0 c1 hk0 (f_X11_checkByte_L5 N o0 c1 n) (t_X11_checkByte_L5 N o0 c1 hk0 n) v2 v3 μ
def f_X11_checkByte (N : Nat) (o0 : Nat) (a1 : Int32) (μ : z_S) : Option (Int32 × z_S) :=
  z_kd true o0 20 <| f_X11_checkByte_L5 N o0 a1 N (89 : Int32) (0 : Int32) μ
theorem t_X11_checkByte (N : Nat) (o0 : Nat) (a1 : Int32) (μ : z_S) : z_met true rI mX11_checkByte 0 [.ref o0, .int a1] μ (f_X11_checkByte N o0 a1 μ) := by
  refine z_met.of (by decide +kernel) (by show _ ≤ _; first | decide | exact Nat.le_of_ble_eq_true rfl) (lv := [(0, .ref o0), (1, .int a1)]) rfl ?_
  unfold f_X11_checkByte
  refine s_kd (fun hk0 => ?_)
  refine s_bipush (pc := 0) (v := (89 : Int32)) dX11_checkByte_0 (by decide) ?_
  refine s_istore_n (pc := 2) (lv' := [(2, .int (89 : Int32)), (0, .ref o0), (1, .int a1)]) dX11_checkByte_2 rfl (by decide) rfl ?_
  refine s_iconst (pc := 3) (v := (0 : Int32)) dX11_checkByte_3 (by decide) ?_
  refine s_istore_n (pc := 4) (lv' := [(3, .int (0 : Int32)), (2, .int (89 : Int32)), (0, .ref o0), (1, .int a1)]) dX11_checkByte_4 rfl (by decide) rfl ?_
  refine s_sub (lv' := [(0, .ref o0), (1, .int a1), (2, .int (89 : Int32)), (3, .int (0 : Int32))]) [2, 3, 1, 0] rfl ?_
  refine t_X11_checkByte_L5 N o0 a1 hk0 N (89 : Int32) (0 : Int32) μ
def b_X11_image_L43 (N : Nat) (kb : Int32 → Int32 → z_S → Option (Int32 × z_S)) (e80 : Int32 → z_S → Option (Int32 × z_S)) (v1 : Int32) (v2 : Int32) (μ : z_S) : Option (Int32 × z_S) :=
  if v2 < (μ.1 ((z_hn μ.2.2.1) + 1) 2) then (z_bd (v1 + 1) fun x3 => z_in v2 3 <| z_in v1 34 <| z_bd (z_setI μ 54 v1.toNatClampNeg (μ.1 40 v2.toNatClampNeg)) fun μ_3 => z_bd (v2 + 1) fun x4 => kb x3 x4 μ_3) else e80 v1 μ
theorem tb_X11_image_L43 (N : Nat) (kb : Int32 → Int32 → z_S → Option (Int32 × z_S)) (e80 : Int32 → z_S → Option (Int32 × z_S)) (hkb : ∀ (a1 : Int32) (a2 : Int32) (μ : z_S), z_sim true rI mX11_image 1 (kb a1 a2 μ) 43 [(0, .ref 0), (1, .int a1), (2, .int a2)] [] μ) (he80 : ∀ (a1 : Int32) (μ : z_S), z_sim true rI mX11_image 1 (e80 a1 μ) 80 [(0, .ref 0), (1, .int a1)] [] μ) (v1 : Int32) (v2 : Int32) (μ : z_S) : z_sim true rI mX11_image 1 (b_X11_image_L43 N kb e80 v1 v2 μ) 43 [(0, .ref 0), (1, .int v1), (2, .int v2)] [] μ := by
  unfold b_X11_image_L43
  refine s_iload_n (pc := 43) 2 dX11_image_43 rfl rfl ?_
  refine s_aload_n (pc := 44) 0 dX11_image_44 rfl rfl ?_
  refine s_getC (pc := 45) dX11_image_45 fl_11_76 ?_
  refine s_getR (pc := 48) (ci := 2) (k := 0) (r := ((z_hn μ.2.2.1) + 1)) dX11_image_48 fl_11_146 (z_hn_k μ.2.2.1) rfl (gr_2_0_0 (z_hn_k μ.2.2.1)) ?_
  refine s_iconst (pc := 51) (v := (2 : Int32)) dX11_image_51 (by decide) ?_
  refine s_ialdK (pc := 52) (k := 2) dX11_image_52 (gk_2_1 (z_hn_k μ.2.2.1)) (by decide) (by decide) (by decide) ?_
  refine s_icmp_ge (pc := 53) (tgt := 80) dX11_image_53 (by decide) ?_ ?_
  · refine s_aload_n (pc := 56) 0 dX11_image_56 rfl rfl ?_
    refine s_getR (pc := 57) (ci := 11) (k := 12) (r := 54) dX11_image_57 fl_11_67 kd_0 rfl rs_0_12 ?_
    refine s_iload_n (pc := 60) 1 dX11_image_60 rfl rfl ?_
    refine s_iincB (pc := 61) (lv' := fun x3 => [(1, .int x3), (0, .ref 0), (2, .int v2)]) (c := 1) 1 dX11_image_61 rfl (by decide) (by decide) (fun _ => rfl) (fun x3 => ?_)
    refine s_aload_n (pc := 64) 1 dX11_image_64 rfl rfl ?_
    refine s_getR (pc := 65) (ci := 11) (k := 7) (r := 39) dX11_image_65 fl_11_49 kd_0 rfl rs_0_7 ?_
    refine s_getR (pc := 68) (ci := 8) (k := 1) (r := 40) dX11_image_68 fl_11_217 kd_39 rfl rs_39_1 ?_
    refine s_iload_n (pc := 71) 2 dX11_image_71 rfl rfl ?_
    refine s_iald (pc := 72) dX11_image_72 kd_40 ?_
    refine s_iast (pc := 73) dX11_image_73 kd_54 (fun μ_3 => ?_)
    refine s_iincB (pc := 74) (lv' := fun x4 => [(2, .int x4), (1, .int x3), (0, .ref 0)]) (c := 1) 2 dX11_image_74 rfl (by decide) (by decide) (fun _ => rfl) (fun x4 => ?_)
    refine s_goto (pc := 77) (tgt := 43) dX11_image_77 (by decide) ?_
    refine s_sub (lv' := [(0, .ref 0), (1, .int x3), (2, .int x4)]) [2, 1, 0] rfl ?_
    exact hkb x3 x4 μ_3
  · refine s_sub (lv' := [(0, .ref 0), (1, .int v1)]) [0, 1] rfl ?_
    exact he80 v1 μ
def f_X11_image_L43 (N : Nat) (e80 : Int32 → z_S → Option (Int32 × z_S)) : Nat → Int32 → Int32 → z_S → Option (Int32 × z_S)
  | 0, _, _, _ => none
  | n + 1, v1, v2, μ => b_X11_image_L43 N (f_X11_image_L43 N e80 n) e80 v1 v2 μ
theorem t_X11_image_L43 (N : Nat) (e80 : Int32 → z_S → Option (Int32 × z_S)) (he80 : ∀ (a1 : Int32) (μ : z_S), z_sim true rI mX11_image 1 (e80 a1 μ) 80 [(0, .ref 0), (1, .int a1)] [] μ) : ∀ (n : Nat) (v1 : Int32) (v2 : Int32) (μ : z_S), z_sim true rI mX11_image 1 (f_X11_image_L43 N e80 n v1 v2 μ) 43 [(0, .ref 0), (1, .int v1), (2, .int v2)] [] μ
  | 0, _, _, _ => s_none
  | n + 1, v1, v2, μ => tb_X11_image_L43 N (f_X11_image_L43 N e80 n) e80 (t_X11_image_L43 N e80 he80 n) he80 v1 v2 μ
def b_X11_image_L82 (N : Nat) (kb : Int32 → Int32 → z_S → Option (Int32 × z_S)) (e119 : Int32 → z_S → Option (Int32 × z_S)) (v1 : Int32) (v2 : Int32) (μ : z_S) : Option (Int32 × z_S) :=
  if v2 < (μ.1 ((z_hn μ.2.2.1) + 1) 1) then (z_bd (v1 + 1) fun x5 => z_in v2 4 <| z_in v1 34 <| z_bd (z_setI μ 54 v1.toNatClampNeg (μ.1 41 v2.toNatClampNeg)) fun μ_4 => z_bd (v2 + 1) fun x6 => kb x5 x6 μ_4) else e119 v1 μ
theorem tb_X11_image_L82 (N : Nat) (kb : Int32 → Int32 → z_S → Option (Int32 × z_S)) (e119 : Int32 → z_S → Option (Int32 × z_S)) (hkb : ∀ (a1 : Int32) (a2 : Int32) (μ : z_S), z_sim true rI mX11_image 1 (kb a1 a2 μ) 82 [(0, .ref 0), (1, .int a1), (2, .int a2)] [] μ) (he119 : ∀ (a1 : Int32) (μ : z_S), z_sim true rI mX11_image 1 (e119 a1 μ) 119 [(0, .ref 0), (1, .int a1)] [] μ) (v1 : Int32) (v2 : Int32) (μ : z_S) : z_sim true rI mX11_image 1 (b_X11_image_L82 N kb e119 v1 v2 μ) 82 [(0, .ref 0), (1, .int v1), (2, .int v2)] [] μ := by
  unfold b_X11_image_L82
  refine s_iload_n (pc := 82) 2 dX11_image_82 rfl rfl ?_
  refine s_aload_n (pc := 83) 0 dX11_image_83 rfl rfl ?_
  refine s_getC (pc := 84) dX11_image_84 fl_11_76 ?_
  refine s_getR (pc := 87) (ci := 2) (k := 0) (r := ((z_hn μ.2.2.1) + 1)) dX11_image_87 fl_11_146 (z_hn_k μ.2.2.1) rfl (gr_2_0_0 (z_hn_k μ.2.2.1)) ?_
  refine s_iconst (pc := 90) (v := (1 : Int32)) dX11_image_90 (by decide) ?_
  refine s_ialdK (pc := 91) (k := 1) dX11_image_91 (gk_2_1 (z_hn_k μ.2.2.1)) (by decide) (by decide) (by decide) ?_
  refine s_icmp_ge (pc := 92) (tgt := 119) dX11_image_92 (by decide) ?_ ?_
  · refine s_aload_n (pc := 95) 0 dX11_image_95 rfl rfl ?_
    refine s_getR (pc := 96) (ci := 11) (k := 12) (r := 54) dX11_image_96 fl_11_67 kd_0 rfl rs_0_12 ?_
    refine s_iload_n (pc := 99) 1 dX11_image_99 rfl rfl ?_
    refine s_iincB (pc := 100) (lv' := fun x5 => [(1, .int x5), (0, .ref 0), (2, .int v2)]) (c := 1) 1 dX11_image_100 rfl (by decide) (by decide) (fun _ => rfl) (fun x5 => ?_)
    refine s_aload_n (pc := 103) 1 dX11_image_103 rfl rfl ?_
    refine s_getR (pc := 104) (ci := 11) (k := 7) (r := 39) dX11_image_104 fl_11_49 kd_0 rfl rs_0_7 ?_
    refine s_getR (pc := 107) (ci := 8) (k := 2) (r := 41) dX11_image_107 fl_11_199 kd_39 rfl rs_39_2 ?_
    refine s_iload_n (pc := 110) 2 dX11_image_110 rfl rfl ?_
    refine s_iald (pc := 111) dX11_image_111 kd_41 ?_
    refine s_iast (pc := 112) dX11_image_112 kd_54 (fun μ_4 => ?_)
    refine s_iincB (pc := 113) (lv' := fun x6 => [(2, .int x6), (1, .int x5), (0, .ref 0)]) (c := 1) 2 dX11_image_113 rfl (by decide) (by decide) (fun _ => rfl) (fun x6 => ?_)
    refine s_goto (pc := 116) (tgt := 82) dX11_image_116 (by decide) ?_
    refine s_sub (lv' := [(0, .ref 0), (1, .int x5), (2, .int x6)]) [2, 1, 0] rfl ?_
    exact hkb x5 x6 μ_4
  · refine s_sub (lv' := [(0, .ref 0), (1, .int v1)]) [0, 1] rfl ?_
    exact he119 v1 μ
def f_X11_image_L82 (N : Nat) (e119 : Int32 → z_S → Option (Int32 × z_S)) : Nat → Int32 → Int32 → z_S → Option (Int32 × z_S)
  | 0, _, _, _ => none
  | n + 1, v1, v2, μ => b_X11_image_L82 N (f_X11_image_L82 N e119 n) e119 v1 v2 μ
theorem t_X11_image_L82 (N : Nat) (e119 : Int32 → z_S → Option (Int32 × z_S)) (he119 : ∀ (a1 : Int32) (μ : z_S), z_sim true rI mX11_image 1 (e119 a1 μ) 119 [(0, .ref 0), (1, .int a1)] [] μ) : ∀ (n : Nat) (v1 : Int32) (v2 : Int32) (μ : z_S), z_sim true rI mX11_image 1 (f_X11_image_L82 N e119 n v1 v2 μ) 82 [(0, .ref 0), (1, .int v1), (2, .int v2)] [] μ
  | 0, _, _, _ => s_none
  | n + 1, v1, v2, μ => tb_X11_image_L82 N (f_X11_image_L82 N e119 n) e119 (t_X11_image_L82 N e119 he119 n) he119 v1 v2 μ
def b_X11_image_L121 (N : Nat) (kb : Int32 → Int32 → z_S → Option (Int32 × z_S)) (e198 : Int32 → z_S → Option (Int32 × z_S)) (v1 : Int32) (v2 : Int32) (μ : z_S) : Option (Int32 × z_S) :=
  if v2 < (μ.1 ((z_hn μ.2.2.1) + 1) 0) then (z_bd (v1 + 1) fun x7 => z_in v2 8 <| z_in v1 34 <| z_bd (z_setI μ 54 v1.toNatClampNeg ((μ.1 42 v2.toNatClampNeg) + (1 : Int32))) fun μ_5 => z_bd (x7 + 1) fun x8 => z_in v2 8 <| z_in x7 34 <| z_bd (z_setI μ_5 54 x7.toNatClampNeg (μ_5.1 43 v2.toNatClampNeg)) fun μ_6 => z_bd (x8 + 1) fun x9 => z_in v2 8 <| z_in x8 34 <| z_bd (z_setI μ_6 54 x8.toNatClampNeg ((μ_6.1 44 v2.toNatClampNeg) + (1 : Int32))) fun μ_7 => z_bd (v2 + 1) fun x10 => kb x9 x10 μ_7) else e198 v1 μ
theorem tb_X11_image_L121 (N : Nat) (kb : Int32 → Int32 → z_S → Option (Int32 × z_S)) (e198 : Int32 → z_S → Option (Int32 × z_S)) (hkb : ∀ (a1 : Int32) (a2 : Int32) (μ : z_S), z_sim true rI mX11_image 1 (kb a1 a2 μ) 121 [(0, .ref 0), (1, .int a1), (2, .int a2)] [] μ) (he198 : ∀ (a1 : Int32) (μ : z_S), z_sim true rI mX11_image 1 (e198 a1 μ) 198 [(0, .ref 0), (1, .int a1)] [] μ) (v1 : Int32) (v2 : Int32) (μ : z_S) : z_sim true rI mX11_image 1 (b_X11_image_L121 N kb e198 v1 v2 μ) 121 [(0, .ref 0), (1, .int v1), (2, .int v2)] [] μ := by
  unfold b_X11_image_L121
  refine s_iload_n (pc := 121) 2 dX11_image_121 rfl rfl ?_
  refine s_aload_n (pc := 122) 0 dX11_image_122 rfl rfl ?_
  refine s_getC (pc := 123) dX11_image_123 fl_11_76 ?_
  refine s_getR (pc := 126) (ci := 2) (k := 0) (r := ((z_hn μ.2.2.1) + 1)) dX11_image_126 fl_11_146 (z_hn_k μ.2.2.1) rfl (gr_2_0_0 (z_hn_k μ.2.2.1)) ?_
  refine s_iconst (pc := 129) (v := (0 : Int32)) dX11_image_129 (by decide) ?_
  refine s_ialdK (pc := 130) (k := 0) dX11_image_130 (gk_2_1 (z_hn_k μ.2.2.1)) (by decide) (by decide) (by decide) ?_
  refine s_icmp_ge (pc := 131) (tgt := 198) dX11_image_131 (by decide) ?_ ?_
  · refine s_aload_n (pc := 134) 0 dX11_image_134 rfl rfl ?_
    refine s_getR (pc := 135) (ci := 11) (k := 12) (r := 54) dX11_image_135 fl_11_67 kd_0 rfl rs_0_12 ?_
    refine s_iload_n (pc := 138) 1 dX11_image_138 rfl rfl ?_
    refine s_iincB (pc := 139) (lv' := fun x7 => [(1, .int x7), (0, .ref 0), (2, .int v2)]) (c := 1) 1 dX11_image_139 rfl (by decide) (by decide) (fun _ => rfl) (fun x7 => ?_)
    refine s_aload_n (pc := 142) 1 dX11_image_142 rfl rfl ?_
    refine s_getR (pc := 143) (ci := 11) (k := 7) (r := 39) dX11_image_143 fl_11_49 kd_0 rfl rs_0_7 ?_
    refine s_getR (pc := 146) (ci := 8) (k := 3) (r := 42) dX11_image_146 fl_11_181 kd_39 rfl rs_39_3 ?_
    refine s_iload_n (pc := 149) 2 dX11_image_149 rfl rfl ?_
    refine s_iald (pc := 150) dX11_image_150 kd_42 ?_
    refine s_iconst (pc := 151) (v := (1 : Int32)) dX11_image_151 (by decide) ?_
    refine s_iadd (pc := 152) dX11_image_152 ?_
    refine s_iast (pc := 153) dX11_image_153 kd_54 (fun μ_5 => ?_)
    refine s_aload_n (pc := 154) 1 dX11_image_154 rfl rfl ?_
    refine s_getR (pc := 155) (ci := 11) (k := 12) (r := 54) dX11_image_155 fl_11_67 kd_0 rfl rs_0_12 ?_
    refine s_iload_n (pc := 158) 0 dX11_image_158 rfl rfl ?_
    refine s_iincB (pc := 159) (lv' := fun x8 => [(1, .int x8), (0, .ref 0), (2, .int v2)]) (c := 1) 0 dX11_image_159 rfl (by decide) (by decide) (fun _ => rfl) (fun x8 => ?_)
    refine s_aload_n (pc := 162) 1 dX11_image_162 rfl rfl ?_
    refine s_getR (pc := 163) (ci := 11) (k := 7) (r := 39) dX11_image_163 fl_11_49 kd_0 rfl rs_0_7 ?_
    refine s_getR (pc := 166) (ci := 8) (k := 4) (r := 43) dX11_image_166 fl_11_184 kd_39 rfl rs_39_4 ?_
    refine s_iload_n (pc := 169) 2 dX11_image_169 rfl rfl ?_
    refine s_iald (pc := 170) dX11_image_170 kd_43 ?_
    refine s_iast (pc := 171) dX11_image_171 kd_54 (fun μ_6 => ?_)
    refine s_aload_n (pc := 172) 1 dX11_image_172 rfl rfl ?_
    refine s_getR (pc := 173) (ci := 11) (k := 12) (r := 54) dX11_image_173 fl_11_67 kd_0 rfl rs_0_12 ?_
    refine s_iload_n (pc := 176) 0 dX11_image_176 rfl rfl ?_
    refine s_iincB (pc := 177) (lv' := fun x9 => [(1, .int x9), (0, .ref 0), (2, .int v2)]) (c := 1) 0 dX11_image_177 rfl (by decide) (by decide) (fun _ => rfl) (fun x9 => ?_)
    refine s_aload_n (pc := 180) 1 dX11_image_180 rfl rfl ?_
    refine s_getR (pc := 181) (ci := 11) (k := 7) (r := 39) dX11_image_181 fl_11_49 kd_0 rfl rs_0_7 ?_
    refine s_getR (pc := 184) (ci := 8) (k := 5) (r := 44) dX11_image_184 fl_11_187 kd_39 rfl rs_39_5 ?_
    refine s_iload_n (pc := 187) 2 dX11_image_187 rfl rfl ?_
    refine s_iald (pc := 188) dX11_image_188 kd_44 ?_
    refine s_iconst (pc := 189) (v := (1 : Int32)) dX11_image_189 (by decide) ?_
    refine s_iadd (pc := 190) dX11_image_190 ?_
    refine s_iast (pc := 191) dX11_image_191 kd_54 (fun μ_7 => ?_)
    refine s_iincB (pc := 192) (lv' := fun x10 => [(2, .int x10), (1, .int x9), (0, .ref 0)]) (c := 1) 2 dX11_image_192 rfl (by decide) (by decide) (fun _ => rfl) (fun x10 => ?_)
    refine s_goto (pc := 195) (tgt := 121) dX11_image_195 (by decide) ?_
    refine s_sub (lv' := [(0, .ref 0), (1, .int x9), (2, .int x10)]) [2, 1, 0] rfl ?_
    exact hkb x9 x10 μ_7
  · refine s_sub (lv' := [(0, .ref 0), (1, .int v1)]) [0, 1] rfl ?_
    exact he198 v1 μ
def f_X11_image_L121 (N : Nat) (e198 : Int32 → z_S → Option (Int32 × z_S)) : Nat → Int32 → Int32 → z_S → Option (Int32 × z_S)
  | 0, _, _, _ => none
  | n + 1, v1, v2, μ => b_X11_image_L121 N (f_X11_image_L121 N e198 n) e198 v1 v2 μ
theorem t_X11_image_L121 (N : Nat) (e198 : Int32 → z_S → Option (Int32 × z_S)) (he198 : ∀ (a1 : Int32) (μ : z_S), z_sim true rI mX11_image 1 (e198 a1 μ) 198 [(0, .ref 0), (1, .int a1)] [] μ) : ∀ (n : Nat) (v1 : Int32) (v2 : Int32) (μ : z_S), z_sim true rI mX11_image 1 (f_X11_image_L121 N e198 n v1 v2 μ) 121 [(0, .ref 0), (1, .int v1), (2, .int v2)] [] μ
  | 0, _, _, _ => s_none
  | n + 1, v1, v2, μ => tb_X11_image_L121 N (f_X11_image_L121 N e198 n) e198 (t_X11_image_L121 N e198 he198 n) he198 v1 v2 μ
def f_X11_image (N : Nat) (μ : z_S) : Option (Int32 × z_S) :=
  z_bd ((0 : Int32) + 1) fun x1 => z_bd (z_setI μ 54 0 ((μ.1 39 0) >>> ((8 : Int32) &&& 31))) fun μ_1 => z_bd (x1 + 1) fun x2 => z_in x1 34 <| z_bd (z_setI μ_1 54 x1.toNatClampNeg ((μ_1.1 39 0) &&& (255 : Int32))) fun μ_2 => f_X11_image_L43 N (fun y80_1 μ80 => f_X11_image_L82 N (fun y119_1 μ119 => f_X11_image_L121 N (fun y198_1 μ198 => z_bn (f_X11_checkByte N 54 y198_1 μ198) fun x11 μ_8 => z_in y198_1 34 <| z_bd (z_setI μ_8 54 y198_1.toNatClampNeg x11) fun μ_9 => z_bd (z_setI μ_9 0 16 (y198_1 + (1 : Int32))) fun μ_10 => some ((μ_10.1 0 16), μ_10)) N y119_1 (0 : Int32) μ119) N y80_1 (0 : Int32) μ80) N x2 (0 : Int32) μ_2
theorem t_X11_image (N : Nat) (μ : z_S) : z_met true rI mX11_image 1 [.ref 0] μ (f_X11_image N μ) := by
  refine z_met.of (by decide +kernel) (by show _ ≤ _; first | decide | exact Nat.le_of_ble_eq_true rfl) (lv := [(0, .ref 0)]) rfl ?_
  unfold f_X11_image
  refine s_iconst (pc := 0) (v := (0 : Int32)) dX11_image_0 (by decide) ?_
  refine s_istore_n (pc := 1) (lv' := [(1, .int (0 : Int32)), (0, .ref 0)]) dX11_image_1 rfl (by decide) rfl ?_
  refine s_aload_n (pc := 2) 1 dX11_image_2 rfl rfl ?_
  refine s_getR (pc := 3) (ci := 11) (k := 12) (r := 54) dX11_image_3 fl_11_67 kd_0 rfl rs_0_12 ?_
  refine s_iload_n (pc := 6) 0 dX11_image_6 rfl rfl ?_
  refine s_iincB (pc := 7) (lv' := fun x1 => [(1, .int x1), (0, .ref 0)]) (c := 1) 0 dX11_image_7 rfl (by decide) (by decide) (fun _ => rfl) (fun x1 => ?_)
  refine s_aload_n (pc := 10) 1 dX11_image_10 rfl rfl ?_
  refine s_getR (pc := 11) (ci := 11) (k := 7) (r := 39) dX11_image_11 fl_11_49 kd_0 rfl rs_0_7 ?_
  refine s_getI (pc := 14) (ci := 8) (k := 0) dX11_image_14 fl_11_149 kd_39 rfl ?_
  refine s_bipush (pc := 17) (v := (8 : Int32)) dX11_image_17 (by decide) ?_
  refine s_ishr (pc := 19) dX11_image_19 ?_
  refine s_iastK (pc := 20) (k := 0) dX11_image_20 kd_54 (by decide) (by decide) (by decide) (fun μ_1 => ?_)
  refine s_aload_n (pc := 21) 1 dX11_image_21 rfl rfl ?_
  refine s_getR (pc := 22) (ci := 11) (k := 12) (r := 54) dX11_image_22 fl_11_67 kd_0 rfl rs_0_12 ?_
  refine s_iload_n (pc := 25) 0 dX11_image_25 rfl rfl ?_
  refine s_iincB (pc := 26) (lv' := fun x2 => [(1, .int x2), (0, .ref 0)]) (c := 1) 0 dX11_image_26 rfl (by decide) (by decide) (fun _ => rfl) (fun x2 => ?_)
  refine s_aload_n (pc := 29) 1 dX11_image_29 rfl rfl ?_
  refine s_getR (pc := 30) (ci := 11) (k := 7) (r := 39) dX11_image_30 fl_11_49 kd_0 rfl rs_0_7 ?_
  refine s_getI (pc := 33) (ci := 8) (k := 0) dX11_image_33 fl_11_149 kd_39 rfl ?_
  refine s_sipush (pc := 36) (v := (255 : Int32)) dX11_image_36 (by decide) ?_
  refine s_iand (pc := 39) dX11_image_39 ?_
  refine s_iast (pc := 40) dX11_image_40 kd_54 (fun μ_2 => ?_)
  refine s_iconst (pc := 41) (v := (0 : Int32)) dX11_image_41 (by decide) ?_
  refine s_istore_n (pc := 42) (lv' := [(2, .int (0 : Int32)), (1, .int x2), (0, .ref 0)]) dX11_image_42 rfl (by decide) rfl ?_
  refine s_sub (lv' := [(0, .ref 0), (1, .int x2), (2, .int (0 : Int32))]) [2, 1, 0] rfl ?_
  refine t_X11_image_L43 N _ ?_ N x2 (0 : Int32) μ_2
  · intro y80_1 μ80
    refine s_iconst (pc := 80) (v := (0 : Int32)) dX11_image_80 (by decide) ?_
    refine s_istore_n (pc := 81) (lv' := [(2, .int (0 : Int32)), (0, .ref 0), (1, .int y80_1)]) dX11_image_81 rfl (by decide) rfl ?_
    refine s_sub (lv' := [(0, .ref 0), (1, .int y80_1), (2, .int (0 : Int32))]) [1, 2, 0] rfl ?_
    refine t_X11_image_L82 N _ ?_ N y80_1 (0 : Int32) μ80
    · intro y119_1 μ119
      refine s_iconst (pc := 119) (v := (0 : Int32)) dX11_image_119 (by decide) ?_
      refine s_istore_n (pc := 120) (lv' := [(2, .int (0 : Int32)), (0, .ref 0), (1, .int y119_1)]) dX11_image_120 rfl (by decide) rfl ?_
      refine s_sub (lv' := [(0, .ref 0), (1, .int y119_1), (2, .int (0 : Int32))]) [1, 2, 0] rfl ?_
      refine t_X11_image_L121 N _ ?_ N y119_1 (0 : Int32) μ119
      · intro y198_1 μ198
        refine s_aload_n (pc := 198) 0 dX11_image_198 rfl rfl ?_
        refine s_getR (pc := 199) (ci := 11) (k := 12) (r := 54) dX11_image_199 fl_11_67 kd_0 rfl rs_0_12 ?_
        refine s_iload_n (pc := 202) 1 dX11_image_202 rfl rfl ?_
        refine s_aload_n (pc := 203) 0 dX11_image_203 rfl rfl ?_
        refine s_getR (pc := 204) (ci := 11) (k := 12) (r := 54) dX11_image_204 fl_11_67 kd_0 rfl rs_0_12 ?_
        refine s_iload_n (pc := 207) 1 dX11_image_207 rfl rfl ?_
        refine s_callSI (pc := 208) (as := [.ref 54, .int y198_1]) (st := [.int y198_1, .ref 54]) dX11_image_208 lk_11_328 (t_X11_checkByte N 54 y198_1 μ198) (by omega) rfl (Nat.le_of_ble_eq_true rfl) rfl (fun x11 μ_8 => ?_)
        refine s_iast (pc := 211) dX11_image_211 kd_54 (fun μ_9 => ?_)
        refine s_aload_n (pc := 212) 0 dX11_image_212 rfl rfl ?_
        refine s_iload_n (pc := 213) 1 dX11_image_213 rfl rfl ?_
        refine s_iconst (pc := 214) (v := (1 : Int32)) dX11_image_214 (by decide) ?_
        refine s_iadd (pc := 215) dX11_image_215 ?_
        refine s_putI (pc := 216) (ci := 11) (k := 16) dX11_image_216 fl_11_332 kd_0 rfl rfl (fun μ_10 => ?_)
        refine s_aload_n (pc := 219) 0 dX11_image_219 rfl rfl ?_
        refine s_getI (pc := 220) (ci := 11) (k := 16) dX11_image_220 fl_11_332 kd_0 rfl ?_
        exact s_iret (pc := 223) rfl dX11_image_223 rfl
def f_X11_octet_B12 (N : Nat)   (μ : z_S) : Option (Int32 × z_S) :=
  some ((-1 : Int32), μ)
theorem t_X11_octet_B12 (N : Nat)       (μ : z_S) : z_sim true rI mX11_octet 0 (f_X11_octet_B12 N    μ) 12 [] [] μ := by
  unfold f_X11_octet_B12
  refine s_iconst (pc := 12) (v := (-1 : Int32)) dX11_octet_12 (by decide) ?_
  refine s_goto (pc := 13) (tgt := 22) dX11_octet_13 (by decide) ?_
  exact s_iret (pc := 22) rfl dX11_octet_22 rfl
def f_X11_octet (N : Nat) (a1 : Int32) (μ : z_S) : Option (Int32 × z_S) :=
  if a1 < 0 then (f_X11_octet_B12 N μ) else if a1 < (μ.1 0 16) then (z_in a1 34 <| some ((μ.1 54 a1.toNatClampNeg), μ)) else f_X11_octet_B12 N μ
theorem t_X11_octet (N : Nat) (a1 : Int32) (μ : z_S) : z_met true rI mX11_octet 0 [.ref 0, .int a1] μ (f_X11_octet N a1 μ) := by
  refine z_met.of (by decide +kernel) (by show _ ≤ _; first | decide | exact Nat.le_of_ble_eq_true rfl) (lv := [(0, .ref 0), (1, .int a1)]) rfl ?_
  unfold f_X11_octet
  refine s_iload_n (pc := 0) 1 dX11_octet_0 rfl rfl ?_
  refine s_if_lt (pc := 1) (tgt := 12) dX11_octet_1 (by decide) ?_ ?_
  · refine s_sub (lv' := []) [] rfl ?_
    exact t_X11_octet_B12 N μ
  · refine s_iload_n (pc := 4) 1 dX11_octet_4 rfl rfl ?_
    refine s_aload_n (pc := 5) 0 dX11_octet_5 rfl rfl ?_
    refine s_getI (pc := 6) (ci := 11) (k := 16) dX11_octet_6 fl_11_332 kd_0 rfl ?_
    refine s_icmp_lt (pc := 9) (tgt := 16) dX11_octet_9 (by decide) ?_ ?_
    · refine s_aload_n (pc := 16) 0 dX11_octet_16 rfl rfl ?_
      refine s_getR (pc := 17) (ci := 11) (k := 12) (r := 54) dX11_octet_17 fl_11_67 kd_0 rfl rs_0_12 ?_
      refine s_iload_n (pc := 20) 1 dX11_octet_20 rfl rfl ?_
      refine s_iald (pc := 21) dX11_octet_21 kd_54 ?_
      exact s_iret (pc := 22) rfl dX11_octet_22 rfl
    · refine s_sub (lv' := []) [] rfl ?_
      exact t_X11_octet_B12 N μ
def b_X11_loadScratch_L30 (N : Nat) (kb : Int32 → Int32 → z_S → Option (Unit × z_S)) (e70 : Int32 → z_S → Option (Unit × z_S)) (v1 : Int32) (v2 : Int32) (μ : z_S) : Option (Unit × z_S) :=
  if v2 < (μ.1 ((z_hn μ.2.2.1) + 1) 2) then (z_bd (v1 + 1) fun x2 => z_in v1 1600 <| z_in v2 3 <| z_bd (z_setI μ 46 v2.toNatClampNeg (μ.1 2 v1.toNatClampNeg)) fun μ_4 => z_bd (v2 + 1) fun x3 => kb x2 x3 μ_4) else e70 v1 μ
theorem tb_X11_loadScratch_L30 (N : Nat) (kb : Int32 → Int32 → z_S → Option (Unit × z_S)) (e70 : Int32 → z_S → Option (Unit × z_S)) (hkb : ∀ (a1 : Int32) (a2 : Int32) (μ : z_S), z_sim true rV mX11_loadScratch 3 (kb a1 a2 μ) 30 [(0, .ref 0), (1, .int a1), (2, .int a2)] [] μ) (he70 : ∀ (a1 : Int32) (μ : z_S), z_sim true rV mX11_loadScratch 3 (e70 a1 μ) 70 [(0, .ref 0), (1, .int a1)] [] μ) (v1 : Int32) (v2 : Int32) (μ : z_S) : z_sim true rV mX11_loadScratch 3 (b_X11_loadScratch_L30 N kb e70 v1 v2 μ) 30 [(0, .ref 0), (1, .int v1), (2, .int v2)] [] μ := by
  unfold b_X11_loadScratch_L30
  refine s_iload_n (pc := 30) 2 dX11_loadScratch_30 rfl rfl ?_
  refine s_aload_n (pc := 31) 0 dX11_loadScratch_31 rfl rfl ?_
  refine s_getC (pc := 32) dX11_loadScratch_32 fl_11_76 ?_
  refine s_getR (pc := 35) (ci := 2) (k := 0) (r := ((z_hn μ.2.2.1) + 1)) dX11_loadScratch_35 fl_11_146 (z_hn_k μ.2.2.1) rfl (gr_2_0_0 (z_hn_k μ.2.2.1)) ?_
  refine s_iconst (pc := 38) (v := (2 : Int32)) dX11_loadScratch_38 (by decide) ?_
  refine s_ialdK (pc := 39) (k := 2) dX11_loadScratch_39 (gk_2_1 (z_hn_k μ.2.2.1)) (by decide) (by decide) (by decide) ?_
  refine s_icmp_ge (pc := 40) (tgt := 70) dX11_loadScratch_40 (by decide) ?_ ?_
  · refine s_aload_n (pc := 43) 0 dX11_loadScratch_43 rfl rfl ?_
    refine s_getR (pc := 44) (ci := 11) (k := 8) (r := 45) dX11_loadScratch_44 fl_11_53 kd_0 rfl rs_0_8 ?_
    refine s_getR (pc := 47) (ci := 8) (k := 1) (r := 46) dX11_loadScratch_47 fl_11_217 kd_45 rfl rs_45_1 ?_
    refine s_iload_n (pc := 50) 2 dX11_loadScratch_50 rfl rfl ?_
    refine s_aload_n (pc := 51) 0 dX11_loadScratch_51 rfl rfl ?_
    refine s_getR (pc := 52) (ci := 11) (k := 0) (r := 1) dX11_loadScratch_52 fl_11_12 kd_0 rfl rs_0_0 ?_
    refine s_getR (pc := 55) (ci := 10) (k := 0) (r := 2) dX11_loadScratch_55 fl_11_292 kd_1 rfl rs_1_0 ?_
    refine s_iload_n (pc := 58) 1 dX11_loadScratch_58 rfl rfl ?_
    refine s_iincB (pc := 59) (lv' := fun x2 => [(1, .int x2), (0, .ref 0), (2, .int v2)]) (c := 1) 1 dX11_loadScratch_59 rfl (by decide) (by decide) (fun _ => rfl) (fun x2 => ?_)
    refine s_iald (pc := 62) dX11_loadScratch_62 kd_2 ?_
    refine s_iast (pc := 63) dX11_loadScratch_63 kd_46 (fun μ_4 => ?_)
    refine s_iincB (pc := 64) (lv' := fun x3 => [(2, .int x3), (1, .int x2), (0, .ref 0)]) (c := 1) 2 dX11_loadScratch_64 rfl (by decide) (by decide) (fun _ => rfl) (fun x3 => ?_)
    refine s_goto (pc := 67) (tgt := 30) dX11_loadScratch_67 (by decide) ?_
    refine s_sub (lv' := [(0, .ref 0), (1, .int x2), (2, .int x3)]) [2, 1, 0] rfl ?_
    exact hkb x2 x3 μ_4
  · refine s_sub (lv' := [(0, .ref 0), (1, .int v1)]) [0, 1] rfl ?_
    exact he70 v1 μ
def f_X11_loadScratch_L30 (N : Nat) (e70 : Int32 → z_S → Option (Unit × z_S)) : Nat → Int32 → Int32 → z_S → Option (Unit × z_S)
  | 0, _, _, _ => none
  | n + 1, v1, v2, μ => b_X11_loadScratch_L30 N (f_X11_loadScratch_L30 N e70 n) e70 v1 v2 μ
theorem t_X11_loadScratch_L30 (N : Nat) (e70 : Int32 → z_S → Option (Unit × z_S)) (he70 : ∀ (a1 : Int32) (μ : z_S), z_sim true rV mX11_loadScratch 3 (e70 a1 μ) 70 [(0, .ref 0), (1, .int a1)] [] μ) : ∀ (n : Nat) (v1 : Int32) (v2 : Int32) (μ : z_S), z_sim true rV mX11_loadScratch 3 (f_X11_loadScratch_L30 N e70 n v1 v2 μ) 30 [(0, .ref 0), (1, .int v1), (2, .int v2)] [] μ
  | 0, _, _, _ => s_none
  | n + 1, v1, v2, μ => tb_X11_loadScratch_L30 N (f_X11_loadScratch_L30 N e70 n) e70 (t_X11_loadScratch_L30 N e70 he70 n) he70 v1 v2 μ
def b_X11_loadScratch_L72 (N : Nat) (kb : Int32 → Int32 → z_S → Option (Unit × z_S)) (e112 : Int32 → z_S → Option (Unit × z_S)) (v1 : Int32) (v2 : Int32) (μ : z_S) : Option (Unit × z_S) :=
  if v2 < (μ.1 ((z_hn μ.2.2.1) + 1) 1) then (z_bd (v1 + 1) fun x4 => z_in v1 1600 <| z_in v2 4 <| z_bd (z_setI μ 47 v2.toNatClampNeg (μ.1 2 v1.toNatClampNeg)) fun μ_5 => z_bd (v2 + 1) fun x5 => kb x4 x5 μ_5) else e112 v1 μ
theorem tb_X11_loadScratch_L72 (N : Nat) (kb : Int32 → Int32 → z_S → Option (Unit × z_S)) (e112 : Int32 → z_S → Option (Unit × z_S)) (hkb : ∀ (a1 : Int32) (a2 : Int32) (μ : z_S), z_sim true rV mX11_loadScratch 3 (kb a1 a2 μ) 72 [(0, .ref 0), (1, .int a1), (2, .int a2)] [] μ) (he112 : ∀ (a1 : Int32) (μ : z_S), z_sim true rV mX11_loadScratch 3 (e112 a1 μ) 112 [(0, .ref 0), (1, .int a1)] [] μ) (v1 : Int32) (v2 : Int32) (μ : z_S) : z_sim true rV mX11_loadScratch 3 (b_X11_loadScratch_L72 N kb e112 v1 v2 μ) 72 [(0, .ref 0), (1, .int v1), (2, .int v2)] [] μ := by
  unfold b_X11_loadScratch_L72
  refine s_iload_n (pc := 72) 2 dX11_loadScratch_72 rfl rfl ?_
  refine s_aload_n (pc := 73) 0 dX11_loadScratch_73 rfl rfl ?_
  refine s_getC (pc := 74) dX11_loadScratch_74 fl_11_76 ?_
  refine s_getR (pc := 77) (ci := 2) (k := 0) (r := ((z_hn μ.2.2.1) + 1)) dX11_loadScratch_77 fl_11_146 (z_hn_k μ.2.2.1) rfl (gr_2_0_0 (z_hn_k μ.2.2.1)) ?_
  refine s_iconst (pc := 80) (v := (1 : Int32)) dX11_loadScratch_80 (by decide) ?_
  refine s_ialdK (pc := 81) (k := 1) dX11_loadScratch_81 (gk_2_1 (z_hn_k μ.2.2.1)) (by decide) (by decide) (by decide) ?_
  refine s_icmp_ge (pc := 82) (tgt := 112) dX11_loadScratch_82 (by decide) ?_ ?_
  · refine s_aload_n (pc := 85) 0 dX11_loadScratch_85 rfl rfl ?_
    refine s_getR (pc := 86) (ci := 11) (k := 8) (r := 45) dX11_loadScratch_86 fl_11_53 kd_0 rfl rs_0_8 ?_
    refine s_getR (pc := 89) (ci := 8) (k := 2) (r := 47) dX11_loadScratch_89 fl_11_199 kd_45 rfl rs_45_2 ?_
    refine s_iload_n (pc := 92) 2 dX11_loadScratch_92 rfl rfl ?_
    refine s_aload_n (pc := 93) 0 dX11_loadScratch_93 rfl rfl ?_
    refine s_getR (pc := 94) (ci := 11) (k := 0) (r := 1) dX11_loadScratch_94 fl_11_12 kd_0 rfl rs_0_0 ?_
    refine s_getR (pc := 97) (ci := 10) (k := 0) (r := 2) dX11_loadScratch_97 fl_11_292 kd_1 rfl rs_1_0 ?_
    refine s_iload_n (pc := 100) 1 dX11_loadScratch_100 rfl rfl ?_
    refine s_iincB (pc := 101) (lv' := fun x4 => [(1, .int x4), (0, .ref 0), (2, .int v2)]) (c := 1) 1 dX11_loadScratch_101 rfl (by decide) (by decide) (fun _ => rfl) (fun x4 => ?_)
    refine s_iald (pc := 104) dX11_loadScratch_104 kd_2 ?_
    refine s_iast (pc := 105) dX11_loadScratch_105 kd_47 (fun μ_5 => ?_)
    refine s_iincB (pc := 106) (lv' := fun x5 => [(2, .int x5), (1, .int x4), (0, .ref 0)]) (c := 1) 2 dX11_loadScratch_106 rfl (by decide) (by decide) (fun _ => rfl) (fun x5 => ?_)
    refine s_goto (pc := 109) (tgt := 72) dX11_loadScratch_109 (by decide) ?_
    refine s_sub (lv' := [(0, .ref 0), (1, .int x4), (2, .int x5)]) [2, 1, 0] rfl ?_
    exact hkb x4 x5 μ_5
  · refine s_sub (lv' := [(0, .ref 0), (1, .int v1)]) [0, 1] rfl ?_
    exact he112 v1 μ
def f_X11_loadScratch_L72 (N : Nat) (e112 : Int32 → z_S → Option (Unit × z_S)) : Nat → Int32 → Int32 → z_S → Option (Unit × z_S)
  | 0, _, _, _ => none
  | n + 1, v1, v2, μ => b_X11_loadScratch_L72 N (f_X11_loadScratch_L72 N e112 n) e112 v1 v2 μ
theorem t_X11_loadScratch_L72 (N : Nat) (e112 : Int32 → z_S → Option (Unit × z_S)) (he112 : ∀ (a1 : Int32) (μ : z_S), z_sim true rV mX11_loadScratch 3 (e112 a1 μ) 112 [(0, .ref 0), (1, .int a1)] [] μ) : ∀ (n : Nat) (v1 : Int32) (v2 : Int32) (μ : z_S), z_sim true rV mX11_loadScratch 3 (f_X11_loadScratch_L72 N e112 n v1 v2 μ) 72 [(0, .ref 0), (1, .int v1), (2, .int v2)] [] μ
  | 0, _, _, _ => s_none
  | n + 1, v1, v2, μ => tb_X11_loadScratch_L72 N (f_X11_loadScratch_L72 N e112 n) e112 (t_X11_loadScratch_L72 N e112 he112 n) he112 v1 v2 μ
def b_X11_loadScratch_L114 (N : Nat) (kb : Int32 → Int32 → z_S → Option (Unit × z_S)) (v1 : Int32) (v2 : Int32) (μ : z_S) : Option (Unit × z_S) :=
  if v2 < (μ.1 ((z_hn μ.2.2.1) + 1) 0) then (z_bd (v1 + 1) fun x6 => z_in v1 1600 <| z_in v2 8 <| z_bd (z_setI μ 48 v2.toNatClampNeg ((μ.1 2 v1.toNatClampNeg) - (1 : Int32))) fun μ_6 => z_bd (x6 + 1) fun x7 => z_in x6 1600 <| z_in v2 8 <| z_bd (z_setI μ_6 49 v2.toNatClampNeg (μ_6.1 2 x6.toNatClampNeg)) fun μ_7 => z_bd (x7 + 1) fun x8 => z_in x7 1600 <| z_in v2 8 <| z_bd (z_setI μ_7 50 v2.toNatClampNeg ((μ_7.1 2 x7.toNatClampNeg) - (1 : Int32))) fun μ_8 => z_bd (v2 + 1) fun x9 => kb x8 x9 μ_8) else some ((), μ)
theorem tb_X11_loadScratch_L114 (N : Nat) (kb : Int32 → Int32 → z_S → Option (Unit × z_S)) (hkb : ∀ (a1 : Int32) (a2 : Int32) (μ : z_S), z_sim true rV mX11_loadScratch 3 (kb a1 a2 μ) 114 [(0, .ref 0), (1, .int a1), (2, .int a2)] [] μ) (v1 : Int32) (v2 : Int32) (μ : z_S) : z_sim true rV mX11_loadScratch 3 (b_X11_loadScratch_L114 N kb v1 v2 μ) 114 [(0, .ref 0), (1, .int v1), (2, .int v2)] [] μ := by
  unfold b_X11_loadScratch_L114
  refine s_iload_n (pc := 114) 2 dX11_loadScratch_114 rfl rfl ?_
  refine s_aload_n (pc := 115) 0 dX11_loadScratch_115 rfl rfl ?_
  refine s_getC (pc := 116) dX11_loadScratch_116 fl_11_76 ?_
  refine s_getR (pc := 119) (ci := 2) (k := 0) (r := ((z_hn μ.2.2.1) + 1)) dX11_loadScratch_119 fl_11_146 (z_hn_k μ.2.2.1) rfl (gr_2_0_0 (z_hn_k μ.2.2.1)) ?_
  refine s_iconst (pc := 122) (v := (0 : Int32)) dX11_loadScratch_122 (by decide) ?_
  refine s_ialdK (pc := 123) (k := 0) dX11_loadScratch_123 (gk_2_1 (z_hn_k μ.2.2.1)) (by decide) (by decide) (by decide) ?_
  refine s_icmp_ge (pc := 124) (tgt := 200) dX11_loadScratch_124 (by decide) ?_ ?_
  · refine s_aload_n (pc := 127) 0 dX11_loadScratch_127 rfl rfl ?_
    refine s_getR (pc := 128) (ci := 11) (k := 8) (r := 45) dX11_loadScratch_128 fl_11_53 kd_0 rfl rs_0_8 ?_
    refine s_getR (pc := 131) (ci := 8) (k := 3) (r := 48) dX11_loadScratch_131 fl_11_181 kd_45 rfl rs_45_3 ?_
    refine s_iload_n (pc := 134) 2 dX11_loadScratch_134 rfl rfl ?_
    refine s_aload_n (pc := 135) 0 dX11_loadScratch_135 rfl rfl ?_
    refine s_getR (pc := 136) (ci := 11) (k := 0) (r := 1) dX11_loadScratch_136 fl_11_12 kd_0 rfl rs_0_0 ?_
    refine s_getR (pc := 139) (ci := 10) (k := 0) (r := 2) dX11_loadScratch_139 fl_11_292 kd_1 rfl rs_1_0 ?_
    refine s_iload_n (pc := 142) 1 dX11_loadScratch_142 rfl rfl ?_
    refine s_iincB (pc := 143) (lv' := fun x6 => [(1, .int x6), (0, .ref 0), (2, .int v2)]) (c := 1) 1 dX11_loadScratch_143 rfl (by decide) (by decide) (fun _ => rfl) (fun x6 => ?_)
    refine s_iald (pc := 146) dX11_loadScratch_146 kd_2 ?_
    refine s_iconst (pc := 147) (v := (1 : Int32)) dX11_loadScratch_147 (by decide) ?_
    refine s_isub (pc := 148) dX11_loadScratch_148 ?_
    refine s_iast (pc := 149) dX11_loadScratch_149 kd_48 (fun μ_6 => ?_)
    refine s_aload_n (pc := 150) 1 dX11_loadScratch_150 rfl rfl ?_
    refine s_getR (pc := 151) (ci := 11) (k := 8) (r := 45) dX11_loadScratch_151 fl_11_53 kd_0 rfl rs_0_8 ?_
    refine s_getR (pc := 154) (ci := 8) (k := 4) (r := 49) dX11_loadScratch_154 fl_11_184 kd_45 rfl rs_45_4 ?_
    refine s_iload_n (pc := 157) 2 dX11_loadScratch_157 rfl rfl ?_
    refine s_aload_n (pc := 158) 1 dX11_loadScratch_158 rfl rfl ?_
    refine s_getR (pc := 159) (ci := 11) (k := 0) (r := 1) dX11_loadScratch_159 fl_11_12 kd_0 rfl rs_0_0 ?_
    refine s_getR (pc := 162) (ci := 10) (k := 0) (r := 2) dX11_loadScratch_162 fl_11_292 kd_1 rfl rs_1_0 ?_
    refine s_iload_n (pc := 165) 0 dX11_loadScratch_165 rfl rfl ?_
    refine s_iincB (pc := 166) (lv' := fun x7 => [(1, .int x7), (0, .ref 0), (2, .int v2)]) (c := 1) 0 dX11_loadScratch_166 rfl (by decide) (by decide) (fun _ => rfl) (fun x7 => ?_)
    refine s_iald (pc := 169) dX11_loadScratch_169 kd_2 ?_
    refine s_iast (pc := 170) dX11_loadScratch_170 kd_49 (fun μ_7 => ?_)
    refine s_aload_n (pc := 171) 1 dX11_loadScratch_171 rfl rfl ?_
    refine s_getR (pc := 172) (ci := 11) (k := 8) (r := 45) dX11_loadScratch_172 fl_11_53 kd_0 rfl rs_0_8 ?_
    refine s_getR (pc := 175) (ci := 8) (k := 5) (r := 50) dX11_loadScratch_175 fl_11_187 kd_45 rfl rs_45_5 ?_
    refine s_iload_n (pc := 178) 2 dX11_loadScratch_178 rfl rfl ?_
    refine s_aload_n (pc := 179) 1 dX11_loadScratch_179 rfl rfl ?_
    refine s_getR (pc := 180) (ci := 11) (k := 0) (r := 1) dX11_loadScratch_180 fl_11_12 kd_0 rfl rs_0_0 ?_
    refine s_getR (pc := 183) (ci := 10) (k := 0) (r := 2) dX11_loadScratch_183 fl_11_292 kd_1 rfl rs_1_0 ?_
    refine s_iload_n (pc := 186) 0 dX11_loadScratch_186 rfl rfl ?_
    refine s_iincB (pc := 187) (lv' := fun x8 => [(1, .int x8), (0, .ref 0), (2, .int v2)]) (c := 1) 0 dX11_loadScratch_187 rfl (by decide) (by decide) (fun _ => rfl) (fun x8 => ?_)
    refine s_iald (pc := 190) dX11_loadScratch_190 kd_2 ?_
    refine s_iconst (pc := 191) (v := (1 : Int32)) dX11_loadScratch_191 (by decide) ?_
    refine s_isub (pc := 192) dX11_loadScratch_192 ?_
    refine s_iast (pc := 193) dX11_loadScratch_193 kd_50 (fun μ_8 => ?_)
    refine s_iincB (pc := 194) (lv' := fun x9 => [(2, .int x9), (1, .int x8), (0, .ref 0)]) (c := 1) 2 dX11_loadScratch_194 rfl (by decide) (by decide) (fun _ => rfl) (fun x9 => ?_)
    refine s_goto (pc := 197) (tgt := 114) dX11_loadScratch_197 (by decide) ?_
    refine s_sub (lv' := [(0, .ref 0), (1, .int x8), (2, .int x9)]) [2, 1, 0] rfl ?_
    exact hkb x8 x9 μ_8
  · exact s_vret (pc := 200) dX11_loadScratch_200 rfl
def f_X11_loadScratch_L114 (N : Nat) : Nat → Int32 → Int32 → z_S → Option (Unit × z_S)
  | 0, _, _, _ => none
  | n + 1, v1, v2, μ => b_X11_loadScratch_L114 N (f_X11_loadScratch_L114 N n) v1 v2 μ
theorem t_X11_loadScratch_L114 (N : Nat) : ∀ (n : Nat) (v1 : Int32) (v2 : Int32) (μ : z_S), z_sim true rV mX11_loadScratch 3 (f_X11_loadScratch_L114 N n v1 v2 μ) 114 [(0, .ref 0), (1, .int v1), (2, .int v2)] [] μ
  | 0, _, _, _ => s_none
  | n + 1, v1, v2, μ => tb_X11_loadScratch_L114 N (f_X11_loadScratch_L114 N n) (t_X11_loadScratch_L114 N n) v1 v2 μ
def f_X11_loadScratch (N : Nat) (μ : z_S) : Option (Unit × z_S) :=
  z_bn (f_X8_begin N 45 (z_hn μ.2.2.1) μ) fun _ μ_1 => z_bn (f_X10_pairAt N (0 : Int32) μ_1) fun x1 μ_2 => z_bd (z_setI μ_2 45 0 x1) fun μ_3 => f_X11_loadScratch_L30 N (fun y70_1 μ70 => f_X11_loadScratch_L72 N (fun y112_1 μ112 => f_X11_loadScratch_L114 N N y112_1 (0 : Int32) μ112) N y70_1 (0 : Int32) μ70) N (2 : Int32) (0 : Int32) μ_3
theorem t_X11_loadScratch (N : Nat) (μ : z_S) : z_met true rV mX11_loadScratch 3 [.ref 0] μ (f_X11_loadScratch N μ) := by
  refine z_met.of (by decide +kernel) (by show _ ≤ _; first | decide | exact Nat.le_of_ble_eq_true rfl) (lv := [(0, .ref 0)]) rfl ?_
  unfold f_X11_loadScratch
  refine s_aload_n (pc := 0) 0 dX11_loadScratch_0 rfl rfl ?_
  refine s_getR (pc := 1) (ci := 11) (k := 8) (r := 45) dX11_loadScratch_1 fl_11_53 kd_0 rfl rs_0_8 ?_
  refine s_aload_n (pc := 4) 0 dX11_loadScratch_4 rfl rfl ?_
  refine s_getC (pc := 5) dX11_loadScratch_5 fl_11_76 ?_
  refine s_callVV (pc := 8) (as := [.ref (z_hn μ.2.2.1)]) (st := []) dX11_loadScratch_8 lk_11_127 kd_45 (t_X8_begin N 45 (z_hn μ.2.2.1) μ) (by omega) rfl (by decide) rfl (fun _ μ_1 => ?_)
  refine s_aload_n (pc := 11) 0 dX11_loadScratch_11 rfl rfl ?_
  refine s_getR (pc := 12) (ci := 11) (k := 8) (r := 45) dX11_loadScratch_12 fl_11_53 kd_0 rfl rs_0_8 ?_
  refine s_aload_n (pc := 15) 0 dX11_loadScratch_15 rfl rfl ?_
  refine s_getR (pc := 16) (ci := 11) (k := 0) (r := 1) dX11_loadScratch_16 fl_11_12 kd_0 rfl rs_0_0 ?_
  refine s_iconst (pc := 19) (v := (0 : Int32)) dX11_loadScratch_19 (by decide) ?_
  refine s_callVI (pc := 20) (as := [.int (0 : Int32)]) (st := [.ref 45]) dX11_loadScratch_20 lk_11_295 kd_1 (t_X10_pairAt N (0 : Int32) μ_1) (by omega) rfl (Nat.le_of_ble_eq_true rfl) rfl (fun x1 μ_2 => ?_)
  refine s_putI (pc := 23) (ci := 8) (k := 0) dX11_loadScratch_23 fl_11_149 kd_45 rfl rfl (fun μ_3 => ?_)
  refine s_iconst (pc := 26) (v := (2 : Int32)) dX11_loadScratch_26 (by decide) ?_
  refine s_istore_n (pc := 27) (lv' := [(1, .int (2 : Int32)), (0, .ref 0)]) dX11_loadScratch_27 rfl (by decide) rfl ?_
  refine s_iconst (pc := 28) (v := (0 : Int32)) dX11_loadScratch_28 (by decide) ?_
  refine s_istore_n (pc := 29) (lv' := [(2, .int (0 : Int32)), (1, .int (2 : Int32)), (0, .ref 0)]) dX11_loadScratch_29 rfl (by decide) rfl ?_
  refine s_sub (lv' := [(0, .ref 0), (1, .int (2 : Int32)), (2, .int (0 : Int32))]) [2, 1, 0] rfl ?_
  refine t_X11_loadScratch_L30 N _ ?_ N (2 : Int32) (0 : Int32) μ_3
  · intro y70_1 μ70
    refine s_iconst (pc := 70) (v := (0 : Int32)) dX11_loadScratch_70 (by decide) ?_
    refine s_istore_n (pc := 71) (lv' := [(2, .int (0 : Int32)), (0, .ref 0), (1, .int y70_1)]) dX11_loadScratch_71 rfl (by decide) rfl ?_
    refine s_sub (lv' := [(0, .ref 0), (1, .int y70_1), (2, .int (0 : Int32))]) [1, 2, 0] rfl ?_
    refine t_X11_loadScratch_L72 N _ ?_ N y70_1 (0 : Int32) μ70
    · intro y112_1 μ112
      refine s_iconst (pc := 112) (v := (0 : Int32)) dX11_loadScratch_112 (by decide) ?_
      refine s_istore_n (pc := 113) (lv' := [(2, .int (0 : Int32)), (0, .ref 0), (1, .int y112_1)]) dX11_loadScratch_113 rfl (by decide) rfl ?_
      refine s_sub (lv' := [(0, .ref 0), (1, .int y112_1), (2, .int (0 : Int32))]) [1, 2, 0] rfl ?_
      refine t_X11_loadScratch_L114 N N y112_1 (0 : Int32) μ112
def f_X11_on_B77 (N : Nat)  (s0 : Int32) (μ : z_S) : Option (Int32 × z_S) :=
  z_bd (z_setI μ 1 1 (0 : Int32)) fun μ_2 => if s0 = 0 then (z_bn (f_X11_refuse N (5 : Int32) μ_2) fun x3 μ_3 => z_zb x3 (some (x3, μ_3))) else z_bn (f_X11_loadScratch N μ_2) fun _ μ_4 => z_bn (f_X8_canBe N 45 (z_hn μ_4.2.2.1) μ_4) fun x4 μ_5 => if x4 = 0 then (z_bn (f_X11_refuse N (5 : Int32) μ_5) fun x5 μ_6 => z_zb x5 (some (x5, μ_6))) else z_bn (f_X8_copyFrom N 39 45 μ_5) fun _ μ_7 => z_bd (z_setI μ_7 0 17 (0 : Int32)) fun μ_8 => some ((1 : Int32), μ_8)
theorem t_X11_on_B77 (N : Nat)     (s0 : Int32)  (μ : z_S) : z_sim true rI mX11_on 4 (f_X11_on_B77 N   s0 μ) 77 [(0, .ref 0)] [.int s0] μ := by
  unfold f_X11_on_B77
  refine s_istore_n (pc := 77) (lv' := [(2, .int s0), (0, .ref 0)]) dX11_on_77 rfl (by decide) rfl ?_
  refine s_aload_n (pc := 78) 1 dX11_on_78 rfl rfl ?_
  refine s_getR (pc := 79) (ci := 11) (k := 0) (r := 1) dX11_on_79 fl_11_12 kd_0 rfl rs_0_0 ?_
  refine s_iconst (pc := 82) (v := (0 : Int32)) dX11_on_82 (by decide) ?_
  refine s_putI (pc := 83) (ci := 10) (k := 1) dX11_on_83 fl_11_105 kd_1 rfl rfl (fun μ_2 => ?_)
  refine s_iload_n (pc := 86) 0 dX11_on_86 rfl rfl ?_
  refine s_if_ne (pc := 87) (tgt := 96) dX11_on_87 (by decide) ?_ ?_
  · refine s_aload_n (pc := 90) 1 dX11_on_90 rfl rfl ?_
    refine s_iconst (pc := 91) (v := (5 : Int32)) dX11_on_91 (by decide) ?_
    refine s_callVI (pc := 92) (as := [.int (5 : Int32)]) (st := []) dX11_on_92 lk_11_116 kd_0 (t_X11_refuse N (5 : Int32) μ_2) (by omega) rfl (by decide) rfl (fun x3 μ_3 => ?_)
    exact s_zret (pc := 95) dX11_on_95 rfl
  · refine s_aload_n (pc := 96) 1 dX11_on_96 rfl rfl ?_
    refine s_callVV (pc := 97) (as := []) (st := []) dX11_on_97 lk_11_335 kd_0 (t_X11_loadScratch N μ_2) (by omega) rfl (by decide) rfl (fun _ μ_4 => ?_)
    refine s_aload_n (pc := 100) 1 dX11_on_100 rfl rfl ?_
    refine s_getR (pc := 101) (ci := 11) (k := 8) (r := 45) dX11_on_101 fl_11_53 kd_0 rfl rs_0_8 ?_
    refine s_aload_n (pc := 104) 1 dX11_on_104 rfl rfl ?_
    refine s_getC (pc := 105) dX11_on_105 fl_11_76 ?_
    refine s_callVI (pc := 108) (as := [.ref (z_hn μ_4.2.2.1)]) (st := []) dX11_on_108 lk_11_338 kd_45 (t_X8_canBe N 45 (z_hn μ_4.2.2.1) μ_4) (by omega) rfl (by decide) rfl (fun x4 μ_5 => ?_)
    refine s_if_ne (pc := 111) (tgt := 120) dX11_on_111 (by decide) ?_ ?_
    · refine s_aload_n (pc := 114) 1 dX11_on_114 rfl rfl ?_
      refine s_iconst (pc := 115) (v := (5 : Int32)) dX11_on_115 (by decide) ?_
      refine s_callVI (pc := 116) (as := [.int (5 : Int32)]) (st := []) dX11_on_116 lk_11_116 kd_0 (t_X11_refuse N (5 : Int32) μ_5) (by omega) rfl (by decide) rfl (fun x5 μ_6 => ?_)
      exact s_zret (pc := 119) dX11_on_119 rfl
    · refine s_aload_n (pc := 120) 1 dX11_on_120 rfl rfl ?_
      refine s_getR (pc := 121) (ci := 11) (k := 7) (r := 39) dX11_on_121 fl_11_49 kd_0 rfl rs_0_7 ?_
      refine s_aload_n (pc := 124) 1 dX11_on_124 rfl rfl ?_
      refine s_getR (pc := 125) (ci := 11) (k := 8) (r := 45) dX11_on_125 fl_11_53 kd_0 rfl rs_0_8 ?_
      refine s_callVV (pc := 128) (as := [.ref 45]) (st := []) dX11_on_128 lk_11_249 kd_39 (t_X8_copyFrom N 39 45 μ_5) (by omega) rfl (by decide) rfl (fun _ μ_7 => ?_)
      refine s_aload_n (pc := 131) 1 dX11_on_131 rfl rfl ?_
      refine s_iconst (pc := 132) (v := (0 : Int32)) dX11_on_132 (by decide) ?_
      refine s_putI (pc := 133) (ci := 11) (k := 17) dX11_on_133 fl_11_131 kd_0 rfl rfl (fun μ_8 => ?_)
      refine s_iconst (pc := 136) (v := (1 : Int32)) dX11_on_136 (by decide) ?_
      exact s_zret0 (pc := 137) dX11_on_137 rfl rfl
