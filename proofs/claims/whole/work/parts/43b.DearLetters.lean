def f_X11_on_B76 (N : Nat)   (μ : z_S) : Option (Int32 × z_S) :=
  f_X11_on_B77 N (0 : Int32) μ
theorem t_X11_on_B76 (N : Nat)       (μ : z_S) : z_sim true rI mX11_on 4 (f_X11_on_B76 N    μ) 76 [(0, .ref 0)] [] μ := by
  unfold f_X11_on_B76
  refine s_iconst (pc := 76) (v := (0 : Int32)) dX11_on_76 (by decide) ?_
  exact t_X11_on_B77 N (0 : Int32) μ
def f_X11_on (N : Nat) (μ : z_S) : Option (Int32 × z_S) :=
  z_bd ((((3 : Int32) + (μ.1 ((z_hn μ.2.2.1) + 1) 2)) + (μ.1 ((z_hn μ.2.2.1) + 1) 1)) + ((3 : Int32) * (μ.1 ((z_hn μ.2.2.1) + 1) 0))) fun x1 => if (μ.1 1 1) = x1 then (z_bn (f_X11_checkByte N 2 (x1 - (1 : Int32)) μ) fun x2 μ_1 => z_in (x1 - (1 : Int32)) 1600 <| if x2 = (μ_1.1 2 (x1 - (1 : Int32)).toNatClampNeg) then (f_X11_on_B77 N (1 : Int32) μ_1) else f_X11_on_B76 N μ_1) else f_X11_on_B76 N μ
theorem t_X11_on (N : Nat) (μ : z_S) : z_met true rI mX11_on 4 [.ref 0] μ (f_X11_on N μ) := by
  refine z_met.of (by decide +kernel) (by show _ ≤ _; first | decide | exact Nat.le_of_ble_eq_true rfl) (lv := [(0, .ref 0)]) rfl ?_
  unfold f_X11_on
  refine s_iconst (pc := 0) (v := (3 : Int32)) dX11_on_0 (by decide) ?_
  refine s_aload_n (pc := 1) 0 dX11_on_1 rfl rfl ?_
  refine s_getC (pc := 2) dX11_on_2 fl_11_76 ?_
  refine s_getR (pc := 5) (ci := 2) (k := 0) (r := ((z_hn μ.2.2.1) + 1)) dX11_on_5 fl_11_146 (z_hn_k μ.2.2.1) rfl (gr_2_0_0 (z_hn_k μ.2.2.1)) ?_
  refine s_iconst (pc := 8) (v := (2 : Int32)) dX11_on_8 (by decide) ?_
  refine s_ialdK (pc := 9) (k := 2) dX11_on_9 (gk_2_1 (z_hn_k μ.2.2.1)) (by decide) (by decide) (by decide) ?_
  refine s_iadd (pc := 10) dX11_on_10 ?_
  refine s_aload_n (pc := 11) 0 dX11_on_11 rfl rfl ?_
  refine s_getC (pc := 12) dX11_on_12 fl_11_76 ?_
  refine s_getR (pc := 15) (ci := 2) (k := 0) (r := ((z_hn μ.2.2.1) + 1)) dX11_on_15 fl_11_146 (z_hn_k μ.2.2.1) rfl (gr_2_0_0 (z_hn_k μ.2.2.1)) ?_
  refine s_iconst (pc := 18) (v := (1 : Int32)) dX11_on_18 (by decide) ?_
  refine s_ialdK (pc := 19) (k := 1) dX11_on_19 (gk_2_1 (z_hn_k μ.2.2.1)) (by decide) (by decide) (by decide) ?_
  refine s_iadd (pc := 20) dX11_on_20 ?_
  refine s_iconst (pc := 21) (v := (3 : Int32)) dX11_on_21 (by decide) ?_
  refine s_aload_n (pc := 22) 0 dX11_on_22 rfl rfl ?_
  refine s_getC (pc := 23) dX11_on_23 fl_11_76 ?_
  refine s_getR (pc := 26) (ci := 2) (k := 0) (r := ((z_hn μ.2.2.1) + 1)) dX11_on_26 fl_11_146 (z_hn_k μ.2.2.1) rfl (gr_2_0_0 (z_hn_k μ.2.2.1)) ?_
  refine s_iconst (pc := 29) (v := (0 : Int32)) dX11_on_29 (by decide) ?_
  refine s_ialdK (pc := 30) (k := 0) dX11_on_30 (gk_2_1 (z_hn_k μ.2.2.1)) (by decide) (by decide) (by decide) ?_
  refine s_imul (pc := 31) dX11_on_31 ?_
  refine s_iadd (pc := 32) dX11_on_32 ?_
  refine s_letI (fun x1 => ?_)
  refine s_istore_n (pc := 33) (lv' := [(1, .int x1), (0, .ref 0)]) dX11_on_33 rfl (by decide) rfl ?_
  refine s_aload_n (pc := 34) 1 dX11_on_34 rfl rfl ?_
  refine s_getR (pc := 35) (ci := 11) (k := 0) (r := 1) dX11_on_35 fl_11_12 kd_0 rfl rs_0_0 ?_
  refine s_getI (pc := 38) (ci := 10) (k := 1) dX11_on_38 fl_11_105 kd_1 rfl ?_
  refine s_iload_n (pc := 41) 0 dX11_on_41 rfl rfl ?_
  refine s_icmp_ne (pc := 42) (tgt := 76) dX11_on_42 (by decide) ?_ ?_
  · refine s_aload_n (pc := 45) 1 dX11_on_45 rfl rfl ?_
    refine s_getR (pc := 46) (ci := 11) (k := 0) (r := 1) dX11_on_46 fl_11_12 kd_0 rfl rs_0_0 ?_
    refine s_getR (pc := 49) (ci := 10) (k := 0) (r := 2) dX11_on_49 fl_11_292 kd_1 rfl rs_1_0 ?_
    refine s_iload_n (pc := 52) 0 dX11_on_52 rfl rfl ?_
    refine s_iconst (pc := 53) (v := (1 : Int32)) dX11_on_53 (by decide) ?_
    refine s_isub (pc := 54) dX11_on_54 ?_
    refine s_callSI (pc := 55) (as := [.ref 2, .int (x1 - (1 : Int32))]) (st := []) dX11_on_55 lk_11_328 (t_X11_checkByte N 2 (x1 - (1 : Int32)) μ) (by omega) rfl (by decide) rfl (fun x2 μ_1 => ?_)
    refine s_aload_n (pc := 58) 1 dX11_on_58 rfl rfl ?_
    refine s_getR (pc := 59) (ci := 11) (k := 0) (r := 1) dX11_on_59 fl_11_12 kd_0 rfl rs_0_0 ?_
    refine s_getR (pc := 62) (ci := 10) (k := 0) (r := 2) dX11_on_62 fl_11_292 kd_1 rfl rs_1_0 ?_
    refine s_iload_n (pc := 65) 0 dX11_on_65 rfl rfl ?_
    refine s_iconst (pc := 66) (v := (1 : Int32)) dX11_on_66 (by decide) ?_
    refine s_isub (pc := 67) dX11_on_67 ?_
    refine s_iald (pc := 68) dX11_on_68 kd_2 ?_
    refine s_icmp_ne (pc := 69) (tgt := 76) dX11_on_69 (by decide) ?_ ?_
    · refine s_iconst (pc := 72) (v := (1 : Int32)) dX11_on_72 (by decide) ?_
      refine s_goto (pc := 73) (tgt := 77) dX11_on_73 (by decide) ?_
      refine s_sub (lv' := [(0, .ref 0)]) [1] rfl ?_
      exact t_X11_on_B77 N (1 : Int32) μ_1
    · refine s_sub (lv' := [(0, .ref 0)]) [1] rfl ?_
      exact t_X11_on_B76 N μ_1
  · refine s_sub (lv' := [(0, .ref 0)]) [1] rfl ?_
    exact t_X11_on_B76 N μ
def f_X11_status_B13 (N : Nat)   (μ : z_S) : Option (Int32 × z_S) :=
  some ((-1 : Int32), μ)
theorem t_X11_status_B13 (N : Nat)       (μ : z_S) : z_sim true rI mX11_status 0 (f_X11_status_B13 N    μ) 13 [] [] μ := by
  unfold f_X11_status_B13
  refine s_iconst (pc := 13) (v := (-1 : Int32)) dX11_status_13 (by decide) ?_
  refine s_goto (pc := 14) (tgt := 23) dX11_status_14 (by decide) ?_
  exact s_iret (pc := 23) rfl dX11_status_23 rfl
def f_X11_status (N : Nat) (a1 : Int32) (μ : z_S) : Option (Int32 × z_S) :=
  if a1 < 0 then (f_X11_status_B13 N μ) else if a1 < (6 : Int32) then (z_in a1 6 <| some ((μ.1 55 a1.toNatClampNeg), μ)) else f_X11_status_B13 N μ
theorem t_X11_status (N : Nat) (a1 : Int32) (μ : z_S) : z_met true rI mX11_status 0 [.ref 0, .int a1] μ (f_X11_status N a1 μ) := by
  refine z_met.of (by decide +kernel) (by show _ ≤ _; first | decide | exact Nat.le_of_ble_eq_true rfl) (lv := [(0, .ref 0), (1, .int a1)]) rfl ?_
  unfold f_X11_status
  refine s_iload_n (pc := 0) 1 dX11_status_0 rfl rfl ?_
  refine s_if_lt (pc := 1) (tgt := 13) dX11_status_1 (by decide) ?_ ?_
  · refine s_sub (lv' := []) [] rfl ?_
    exact t_X11_status_B13 N μ
  · refine s_iload_n (pc := 4) 1 dX11_status_4 rfl rfl ?_
    refine s_aload_n (pc := 5) 0 dX11_status_5 rfl rfl ?_
    refine s_getR (pc := 6) (ci := 11) (k := 13) (r := 55) dX11_status_6 fl_11_70 kd_0 rfl rs_0_13 ?_
    refine s_alen (pc := 9) (v := (6 : Int32)) dX11_status_9 kd_55 (by decide) (by decide) (by decide) ?_
    refine s_icmp_lt (pc := 10) (tgt := 17) dX11_status_10 (by decide) ?_ ?_
    · refine s_aload_n (pc := 17) 0 dX11_status_17 rfl rfl ?_
      refine s_getR (pc := 18) (ci := 11) (k := 13) (r := 55) dX11_status_18 fl_11_70 kd_0 rfl rs_0_13 ?_
      refine s_iload_n (pc := 21) 1 dX11_status_21 rfl rfl ?_
      refine s_iald (pc := 22) dX11_status_22 kd_55 ?_
      exact s_iret (pc := 23) rfl dX11_status_23 rfl
    · refine s_sub (lv' := []) [] rfl ?_
      exact t_X11_status_B13 N μ
