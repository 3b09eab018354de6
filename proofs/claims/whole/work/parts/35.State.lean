def f_X8_rest (N : Nat) (o0 : Nat) (o1 : Nat) (μ : z_S) : Option (Unit × z_S) :=
  z_ko true o0 8 <| z_ko true o1 2 <| z_bn (f_J7_fill_53178 N (o0 + 1) (0 : Int32) μ) fun _ μ_1 => z_cpin (0 : Int32) (0 : Int32) (μ_1.1 (o1 + 1) 2) 3 3 <| z_bd (z_cpS μ_1 (o1 + 29) (0 : Int32).toNatClampNeg (o0 + 1) (0 : Int32).toNatClampNeg (μ_1.1 (o1 + 1) 2).toNatClampNeg) fun μ_2 => some ((), μ_2)
theorem t_X8_rest (N : Nat) (o0 : Nat) (o1 : Nat) (μ : z_S) : z_met true rV mX8_rest 1 [.ref o0, .ref o1] μ (f_X8_rest N o0 o1 μ) := by
  refine z_met.of (by decide +kernel) (by show _ ≤ _; first | decide | exact Nat.le_of_ble_eq_true rfl) (lv := [(0, .ref o0), (1, .ref o1)]) rfl ?_
  unfold f_X8_rest
  refine s_ko (fun hk0 => ?_)
  refine s_ko (fun hk1 => ?_)
  refine s_aload_n (pc := 0) 0 dX8_rest_0 rfl rfl ?_
  refine s_getR (pc := 1) (ci := 8) (k := 1) (r := (o0 + 1)) dX8_rest_1 fl_8_9 hk0 rfl (gr_8_0_1 hk0) ?_
  refine s_iconst (pc := 4) (v := (0 : Int32)) dX8_rest_4 (by decide) ?_
  refine s_callSV (pc := 5) (as := [.ref (o0 + 1), .int (0 : Int32)]) (st := []) dX8_rest_5 lk_8_27 (t_J7_fill_53178 N (o0 + 1) (0 : Int32) μ) (by omega) rfl (by decide) rfl (fun _ μ_1 => ?_)
  refine s_aload_n (pc := 8) 1 dX8_rest_8 rfl rfl ?_
  refine s_getR (pc := 9) (ci := 2) (k := 9) (r := (o1 + 29)) dX8_rest_9 fl_8_53 hk1 rfl (gr_2_0_9 hk1) ?_
  refine s_iconst (pc := 12) (v := (0 : Int32)) dX8_rest_12 (by decide) ?_
  refine s_aload_n (pc := 13) 0 dX8_rest_13 rfl rfl ?_
  refine s_getR (pc := 14) (ci := 8) (k := 1) (r := (o0 + 1)) dX8_rest_14 fl_8_9 hk0 rfl (gr_8_0_1 hk0) ?_
  refine s_iconst (pc := 17) (v := (0 : Int32)) dX8_rest_17 (by decide) ?_
  refine s_aload_n (pc := 18) 1 dX8_rest_18 rfl rfl ?_
  refine s_getR (pc := 19) (ci := 2) (k := 0) (r := (o1 + 1)) dX8_rest_19 fl_8_40 hk1 rfl (gr_2_0_0 hk1) ?_
  refine s_iconst (pc := 22) (v := (2 : Int32)) dX8_rest_22 (by decide) ?_
  refine s_ialdK (pc := 23) (k := 2) dX8_rest_23 (gk_2_1 hk1) (by decide) (by decide) (by decide) ?_
  refine s_copy (pc := 24) dX8_rest_24 lc_8_43 (gk_2_29 hk1) (gk_8_1 hk0) (by decide) (fun μ_2 => ?_)
  exact s_vret (pc := 27) dX8_rest_27 rfl
def f_X8_begin (N : Nat) (o0 : Nat) (o1 : Nat) (μ : z_S) : Option (Unit × z_S) :=
  z_ko true o0 8 <| z_ko true o1 2 <| z_bd (z_setI μ o0 0 (0 : Int32)) fun μ_1 => z_bn (f_J7_fill_53178 N (o0 + 2) (0 : Int32) μ_1) fun _ μ_2 => z_bn (f_J7_fill_53178 N (o0 + 3) (-1 : Int32) μ_2) fun _ μ_3 => z_bn (f_J7_fill_53178 N (o0 + 4) (0 : Int32) μ_3) fun _ μ_4 => z_bn (f_J7_fill_53178 N (o0 + 5) (-1 : Int32) μ_4) fun _ μ_5 => z_cpin (0 : Int32) (0 : Int32) (μ_5.1 (o1 + 1) 1) 4 4 <| z_bd (z_cpS μ_5 (o1 + 28) (0 : Int32).toNatClampNeg (o0 + 2) (0 : Int32).toNatClampNeg (μ_5.1 (o1 + 1) 1).toNatClampNeg) fun μ_6 => z_bn (f_X8_rest N o0 o1 μ_6) fun _ μ_7 => some ((), μ_7)
theorem t_X8_begin (N : Nat) (o0 : Nat) (o1 : Nat) (μ : z_S) : z_met true rV mX8_begin 2 [.ref o0, .ref o1] μ (f_X8_begin N o0 o1 μ) := by
  refine z_met.of (by decide +kernel) (by show _ ≤ _; first | decide | exact Nat.le_of_ble_eq_true rfl) (lv := [(0, .ref o0), (1, .ref o1)]) rfl ?_
  unfold f_X8_begin
  refine s_ko (fun hk0 => ?_)
  refine s_ko (fun hk1 => ?_)
  refine s_aload_n (pc := 0) 0 dX8_begin_0 rfl rfl ?_
  refine s_iconst (pc := 1) (v := (0 : Int32)) dX8_begin_1 (by decide) ?_
  refine s_putI (pc := 2) (ci := 8) (k := 0) dX8_begin_2 fl_8_33 hk0 rfl rfl (fun μ_1 => ?_)
  refine s_aload_n (pc := 5) 0 dX8_begin_5 rfl rfl ?_
  refine s_getR (pc := 6) (ci := 8) (k := 2) (r := (o0 + 2)) dX8_begin_6 fl_8_15 hk0 rfl (gr_8_0_2 hk0) ?_
  refine s_iconst (pc := 9) (v := (0 : Int32)) dX8_begin_9 (by decide) ?_
  refine s_callSV (pc := 10) (as := [.ref (o0 + 2), .int (0 : Int32)]) (st := []) dX8_begin_10 lk_8_27 (t_J7_fill_53178 N (o0 + 2) (0 : Int32) μ_1) (by omega) rfl (by decide) rfl (fun _ μ_2 => ?_)
  refine s_aload_n (pc := 13) 0 dX8_begin_13 rfl rfl ?_
  refine s_getR (pc := 14) (ci := 8) (k := 3) (r := (o0 + 3)) dX8_begin_14 fl_8_18 hk0 rfl (gr_8_0_3 hk0) ?_
  refine s_iconst (pc := 17) (v := (-1 : Int32)) dX8_begin_17 (by decide) ?_
  refine s_callSV (pc := 18) (as := [.ref (o0 + 3), .int (-1 : Int32)]) (st := []) dX8_begin_18 lk_8_27 (t_J7_fill_53178 N (o0 + 3) (-1 : Int32) μ_2) (by omega) rfl (by decide) rfl (fun _ μ_3 => ?_)
  refine s_aload_n (pc := 21) 0 dX8_begin_21 rfl rfl ?_
  refine s_getR (pc := 22) (ci := 8) (k := 4) (r := (o0 + 4)) dX8_begin_22 fl_8_21 hk0 rfl (gr_8_0_4 hk0) ?_
  refine s_iconst (pc := 25) (v := (0 : Int32)) dX8_begin_25 (by decide) ?_
  refine s_callSV (pc := 26) (as := [.ref (o0 + 4), .int (0 : Int32)]) (st := []) dX8_begin_26 lk_8_27 (t_J7_fill_53178 N (o0 + 4) (0 : Int32) μ_3) (by omega) rfl (by decide) rfl (fun _ μ_4 => ?_)
  refine s_aload_n (pc := 29) 0 dX8_begin_29 rfl rfl ?_
  refine s_getR (pc := 30) (ci := 8) (k := 5) (r := (o0 + 5)) dX8_begin_30 fl_8_24 hk0 rfl (gr_8_0_5 hk0) ?_
  refine s_iconst (pc := 33) (v := (-1 : Int32)) dX8_begin_33 (by decide) ?_
  refine s_callSV (pc := 34) (as := [.ref (o0 + 5), .int (-1 : Int32)]) (st := []) dX8_begin_34 lk_8_27 (t_J7_fill_53178 N (o0 + 5) (-1 : Int32) μ_4) (by omega) rfl (by decide) rfl (fun _ μ_5 => ?_)
  refine s_aload_n (pc := 37) 1 dX8_begin_37 rfl rfl ?_
  refine s_getR (pc := 38) (ci := 2) (k := 8) (r := (o1 + 28)) dX8_begin_38 fl_8_37 hk1 rfl (gr_2_0_8 hk1) ?_
  refine s_iconst (pc := 41) (v := (0 : Int32)) dX8_begin_41 (by decide) ?_
  refine s_aload_n (pc := 42) 0 dX8_begin_42 rfl rfl ?_
  refine s_getR (pc := 43) (ci := 8) (k := 2) (r := (o0 + 2)) dX8_begin_43 fl_8_15 hk0 rfl (gr_8_0_2 hk0) ?_
  refine s_iconst (pc := 46) (v := (0 : Int32)) dX8_begin_46 (by decide) ?_
  refine s_aload_n (pc := 47) 1 dX8_begin_47 rfl rfl ?_
  refine s_getR (pc := 48) (ci := 2) (k := 0) (r := (o1 + 1)) dX8_begin_48 fl_8_40 hk1 rfl (gr_2_0_0 hk1) ?_
  refine s_iconst (pc := 51) (v := (1 : Int32)) dX8_begin_51 (by decide) ?_
  refine s_ialdK (pc := 52) (k := 1) dX8_begin_52 (gk_2_1 hk1) (by decide) (by decide) (by decide) ?_
  refine s_copy (pc := 53) dX8_begin_53 lc_8_43 (gk_2_28 hk1) (gk_8_2 hk0) (by decide) (fun μ_6 => ?_)
  refine s_aload_n (pc := 56) 0 dX8_begin_56 rfl rfl ?_
  refine s_aload_n (pc := 57) 1 dX8_begin_57 rfl rfl ?_
  refine s_callVV (pc := 58) (as := [.ref o1]) (st := []) dX8_begin_58 lk_8_49 hk0 (t_X8_rest N o0 o1 μ_6) (by omega) rfl (by decide) rfl (fun _ μ_7 => ?_)
  exact s_vret (pc := 61) dX8_begin_61 rfl
def f_X8_copyFrom (N : Nat) (o0 : Nat) (o1 : Nat) (μ : z_S) : Option (Unit × z_S) :=
  z_ko true o0 8 <| z_ko true o1 8 <| z_bd (z_setI μ o0 0 (μ.1 o1 0)) fun μ_1 => z_cpin (0 : Int32) (0 : Int32) (3 : Int32) 3 3 <| z_bd (z_cpS μ_1 (o1 + 1) (0 : Int32).toNatClampNeg (o0 + 1) (0 : Int32).toNatClampNeg (3 : Int32).toNatClampNeg) fun μ_2 => z_cpin (0 : Int32) (0 : Int32) (4 : Int32) 4 4 <| z_bd (z_cpS μ_2 (o1 + 2) (0 : Int32).toNatClampNeg (o0 + 2) (0 : Int32).toNatClampNeg (4 : Int32).toNatClampNeg) fun μ_3 => z_cpin (0 : Int32) (0 : Int32) (8 : Int32) 8 8 <| z_bd (z_cpS μ_3 (o1 + 3) (0 : Int32).toNatClampNeg (o0 + 3) (0 : Int32).toNatClampNeg (8 : Int32).toNatClampNeg) fun μ_4 => z_cpin (0 : Int32) (0 : Int32) (8 : Int32) 8 8 <| z_bd (z_cpS μ_4 (o1 + 4) (0 : Int32).toNatClampNeg (o0 + 4) (0 : Int32).toNatClampNeg (8 : Int32).toNatClampNeg) fun μ_5 => z_cpin (0 : Int32) (0 : Int32) (8 : Int32) 8 8 <| z_bd (z_cpS μ_5 (o1 + 5) (0 : Int32).toNatClampNeg (o0 + 5) (0 : Int32).toNatClampNeg (8 : Int32).toNatClampNeg) fun μ_6 => some ((), μ_6)
theorem t_X8_copyFrom (N : Nat) (o0 : Nat) (o1 : Nat) (μ : z_S) : z_met true rV mX8_copyFrom 0 [.ref o0, .ref o1] μ (f_X8_copyFrom N o0 o1 μ) := by
  refine z_met.of (by decide +kernel) (by show _ ≤ _; first | decide | exact Nat.le_of_ble_eq_true rfl) (lv := [(0, .ref o0), (1, .ref o1)]) rfl ?_
  unfold f_X8_copyFrom
  refine s_ko (fun hk0 => ?_)
  refine s_ko (fun hk1 => ?_)
  refine s_aload_n (pc := 0) 0 dX8_copyFrom_0 rfl rfl ?_
  refine s_aload_n (pc := 1) 1 dX8_copyFrom_1 rfl rfl ?_
  refine s_getI (pc := 2) (ci := 8) (k := 0) dX8_copyFrom_2 fl_8_33 hk1 rfl ?_
  refine s_putI (pc := 5) (ci := 8) (k := 0) dX8_copyFrom_5 fl_8_33 hk0 rfl rfl (fun μ_1 => ?_)
  refine s_aload_n (pc := 8) 1 dX8_copyFrom_8 rfl rfl ?_
  refine s_getR (pc := 9) (ci := 8) (k := 1) (r := (o1 + 1)) dX8_copyFrom_9 fl_8_9 hk1 rfl (gr_8_0_1 hk1) ?_
  refine s_iconst (pc := 12) (v := (0 : Int32)) dX8_copyFrom_12 (by decide) ?_
  refine s_aload_n (pc := 13) 0 dX8_copyFrom_13 rfl rfl ?_
  refine s_getR (pc := 14) (ci := 8) (k := 1) (r := (o0 + 1)) dX8_copyFrom_14 fl_8_9 hk0 rfl (gr_8_0_1 hk0) ?_
  refine s_iconst (pc := 17) (v := (0 : Int32)) dX8_copyFrom_17 (by decide) ?_
  refine s_aload_n (pc := 18) 0 dX8_copyFrom_18 rfl rfl ?_
  refine s_getR (pc := 19) (ci := 8) (k := 1) (r := (o0 + 1)) dX8_copyFrom_19 fl_8_9 hk0 rfl (gr_8_0_1 hk0) ?_
  refine s_alen (pc := 22) (v := (3 : Int32)) dX8_copyFrom_22 (gk_8_1 hk0) (by decide) (by decide) (by decide) ?_
  refine s_copy (pc := 23) dX8_copyFrom_23 lc_8_43 (gk_8_1 hk1) (gk_8_1 hk0) (by decide) (fun μ_2 => ?_)
  refine s_aload_n (pc := 26) 1 dX8_copyFrom_26 rfl rfl ?_
  refine s_getR (pc := 27) (ci := 8) (k := 2) (r := (o1 + 2)) dX8_copyFrom_27 fl_8_15 hk1 rfl (gr_8_0_2 hk1) ?_
  refine s_iconst (pc := 30) (v := (0 : Int32)) dX8_copyFrom_30 (by decide) ?_
  refine s_aload_n (pc := 31) 0 dX8_copyFrom_31 rfl rfl ?_
  refine s_getR (pc := 32) (ci := 8) (k := 2) (r := (o0 + 2)) dX8_copyFrom_32 fl_8_15 hk0 rfl (gr_8_0_2 hk0) ?_
  refine s_iconst (pc := 35) (v := (0 : Int32)) dX8_copyFrom_35 (by decide) ?_
  refine s_aload_n (pc := 36) 0 dX8_copyFrom_36 rfl rfl ?_
  refine s_getR (pc := 37) (ci := 8) (k := 2) (r := (o0 + 2)) dX8_copyFrom_37 fl_8_15 hk0 rfl (gr_8_0_2 hk0) ?_
  refine s_alen (pc := 40) (v := (4 : Int32)) dX8_copyFrom_40 (gk_8_2 hk0) (by decide) (by decide) (by decide) ?_
  refine s_copy (pc := 41) dX8_copyFrom_41 lc_8_43 (gk_8_2 hk1) (gk_8_2 hk0) (by decide) (fun μ_3 => ?_)
  refine s_aload_n (pc := 44) 1 dX8_copyFrom_44 rfl rfl ?_
  refine s_getR (pc := 45) (ci := 8) (k := 3) (r := (o1 + 3)) dX8_copyFrom_45 fl_8_18 hk1 rfl (gr_8_0_3 hk1) ?_
  refine s_iconst (pc := 48) (v := (0 : Int32)) dX8_copyFrom_48 (by decide) ?_
  refine s_aload_n (pc := 49) 0 dX8_copyFrom_49 rfl rfl ?_
  refine s_getR (pc := 50) (ci := 8) (k := 3) (r := (o0 + 3)) dX8_copyFrom_50 fl_8_18 hk0 rfl (gr_8_0_3 hk0) ?_
  refine s_iconst (pc := 53) (v := (0 : Int32)) dX8_copyFrom_53 (by decide) ?_
  refine s_aload_n (pc := 54) 0 dX8_copyFrom_54 rfl rfl ?_
  refine s_getR (pc := 55) (ci := 8) (k := 3) (r := (o0 + 3)) dX8_copyFrom_55 fl_8_18 hk0 rfl (gr_8_0_3 hk0) ?_
  refine s_alen (pc := 58) (v := (8 : Int32)) dX8_copyFrom_58 (gk_8_3 hk0) (by decide) (by decide) (by decide) ?_
  refine s_copy (pc := 59) dX8_copyFrom_59 lc_8_43 (gk_8_3 hk1) (gk_8_3 hk0) (by decide) (fun μ_4 => ?_)
  refine s_aload_n (pc := 62) 1 dX8_copyFrom_62 rfl rfl ?_
  refine s_getR (pc := 63) (ci := 8) (k := 4) (r := (o1 + 4)) dX8_copyFrom_63 fl_8_21 hk1 rfl (gr_8_0_4 hk1) ?_
  refine s_iconst (pc := 66) (v := (0 : Int32)) dX8_copyFrom_66 (by decide) ?_
  refine s_aload_n (pc := 67) 0 dX8_copyFrom_67 rfl rfl ?_
  refine s_getR (pc := 68) (ci := 8) (k := 4) (r := (o0 + 4)) dX8_copyFrom_68 fl_8_21 hk0 rfl (gr_8_0_4 hk0) ?_
  refine s_iconst (pc := 71) (v := (0 : Int32)) dX8_copyFrom_71 (by decide) ?_
  refine s_aload_n (pc := 72) 0 dX8_copyFrom_72 rfl rfl ?_
  refine s_getR (pc := 73) (ci := 8) (k := 4) (r := (o0 + 4)) dX8_copyFrom_73 fl_8_21 hk0 rfl (gr_8_0_4 hk0) ?_
  refine s_alen (pc := 76) (v := (8 : Int32)) dX8_copyFrom_76 (gk_8_4 hk0) (by decide) (by decide) (by decide) ?_
  refine s_copy (pc := 77) dX8_copyFrom_77 lc_8_43 (gk_8_4 hk1) (gk_8_4 hk0) (by decide) (fun μ_5 => ?_)
  refine s_aload_n (pc := 80) 1 dX8_copyFrom_80 rfl rfl ?_
  refine s_getR (pc := 81) (ci := 8) (k := 5) (r := (o1 + 5)) dX8_copyFrom_81 fl_8_24 hk1 rfl (gr_8_0_5 hk1) ?_
  refine s_iconst (pc := 84) (v := (0 : Int32)) dX8_copyFrom_84 (by decide) ?_
  refine s_aload_n (pc := 85) 0 dX8_copyFrom_85 rfl rfl ?_
  refine s_getR (pc := 86) (ci := 8) (k := 5) (r := (o0 + 5)) dX8_copyFrom_86 fl_8_24 hk0 rfl (gr_8_0_5 hk0) ?_
  refine s_iconst (pc := 89) (v := (0 : Int32)) dX8_copyFrom_89 (by decide) ?_
  refine s_aload_n (pc := 90) 0 dX8_copyFrom_90 rfl rfl ?_
  refine s_getR (pc := 91) (ci := 8) (k := 5) (r := (o0 + 5)) dX8_copyFrom_91 fl_8_24 hk0 rfl (gr_8_0_5 hk0) ?_
  refine s_alen (pc := 94) (v := (8 : Int32)) dX8_copyFrom_94 (gk_8_5 hk0) (by decide) (by decide) (by decide) ?_
  refine s_copy (pc := 95) dX8_copyFrom_95 lc_8_43 (gk_8_5 hk1) (gk_8_5 hk0) (by decide) (fun μ_6 => ?_)
  exact s_vret (pc := 98) dX8_copyFrom_98 rfl
def f_X8_countOf_B33 (N : Nat) (o0 : Nat) (c1 : Int32) (c4 : Int32) (kb : Int32 → Int32 → z_S → Option (Int32 × z_S)) (v2 : Int32) (v5 : Int32) (μ : z_S) : Option (Int32 × z_S) :=
  z_bd (v5 + 1) fun x4 => kb v2 x4 μ
theorem t_X8_countOf_B33 (N : Nat) (o0 : Nat) (c1 : Int32) (c4 : Int32) (hk0 : z_kw true o0 = (20, (z_kw true o0).2)) (kb : Int32 → Int32 → z_S → Option (Int32 × z_S)) (hkb : ∀ (a2 : Int32) (a5 : Int32) (μ : z_S), z_sim true rI mX8_countOf 0 (kb a2 a5 μ) 11 [(1, .int c1), (2, .int a2), (3, .ref o0), (4, .int c4), (5, .int a5)] [] μ) (v2 : Int32) (v5 : Int32)  (μ : z_S) : z_sim true rI mX8_countOf 0 (f_X8_countOf_B33 N o0 c1 c4 kb v2 v5 μ) 33 [(1, .int c1), (2, .int v2), (3, .ref o0), (4, .int c4), (5, .int v5)] [] μ := by
  unfold f_X8_countOf_B33
  refine s_iincB (pc := 33) (lv' := fun x4 => [(5, .int x4), (1, .int c1), (2, .int v2), (3, .ref o0), (4, .int c4)]) (c := 1) 4 dX8_countOf_33 rfl (by decide) (by decide) (fun _ => rfl) (fun x4 => ?_)
  refine s_goto (pc := 36) (tgt := 11) dX8_countOf_36 (by decide) ?_
  refine s_sub (lv' := [(1, .int c1), (2, .int v2), (3, .ref o0), (4, .int c4), (5, .int x4)]) [1, 2, 3, 4, 0] rfl ?_
  exact hkb v2 x4 μ
def b_X8_countOf_L11 (N : Nat) (o0 : Nat) (c1 : Int32) (c4 : Int32) (kb : Int32 → Int32 → z_S → Option (Int32 × z_S)) (v2 : Int32) (v5 : Int32) (μ : z_S) : Option (Int32 × z_S) :=
  if v5 < c4 then (z_in v5 (z_kw true o0).2 <| z_bd (μ.1 o0 v5.toNatClampNeg) fun x2 => if x2 = c1 then (z_bd (v2 + 1) fun x3 => f_X8_countOf_B33 N o0 c1 c4 kb x3 v5 μ) else f_X8_countOf_B33 N o0 c1 c4 kb v2 v5 μ) else some (v2, μ)
theorem tb_X8_countOf_L11 (N : Nat) (o0 : Nat) (c1 : Int32) (c4 : Int32) (hk0 : z_kw true o0 = (20, (z_kw true o0).2)) (kb : Int32 → Int32 → z_S → Option (Int32 × z_S)) (hkb : ∀ (a2 : Int32) (a5 : Int32) (μ : z_S), z_sim true rI mX8_countOf 0 (kb a2 a5 μ) 11 [(1, .int c1), (2, .int a2), (3, .ref o0), (4, .int c4), (5, .int a5)] [] μ) (v2 : Int32) (v5 : Int32) (μ : z_S) : z_sim true rI mX8_countOf 0 (b_X8_countOf_L11 N o0 c1 c4 kb v2 v5 μ) 11 [(1, .int c1), (2, .int v2), (3, .ref o0), (4, .int c4), (5, .int v5)] [] μ := by
  unfold b_X8_countOf_L11
  refine s_iload (pc := 11) 4 dX8_countOf_11 rfl ?_
  refine s_iload (pc := 13) 3 dX8_countOf_13 rfl ?_
  refine s_icmp_ge (pc := 15) (tgt := 39) dX8_countOf_15 (by decide) ?_ ?_
  · refine s_aload_n (pc := 18) 2 dX8_countOf_18 rfl rfl ?_
    refine s_iload (pc := 19) 4 dX8_countOf_19 rfl ?_
    refine s_iald (pc := 21) dX8_countOf_21 hk0 ?_
    refine s_letI (fun x2 => ?_)
    refine s_istore (pc := 22) (lv' := [(6, .int x2), (1, .int c1), (2, .int v2), (3, .ref o0), (4, .int c4), (5, .int v5)]) dX8_countOf_22 (by decide) rfl ?_
    refine s_iload (pc := 24) 0 dX8_countOf_24 rfl ?_
    refine s_iload_n (pc := 26) 1 dX8_countOf_26 rfl rfl ?_
    refine s_icmp_ne (pc := 27) (tgt := 33) dX8_countOf_27 (by decide) ?_ ?_
    · refine s_iincB (pc := 30) (lv' := fun x3 => [(2, .int x3), (6, .int x2), (1, .int c1), (3, .ref o0), (4, .int c4), (5, .int v5)]) (c := 1) 2 dX8_countOf_30 rfl (by decide) (by decide) (fun _ => rfl) (fun x3 => ?_)
      refine s_sub (lv' := [(1, .int c1), (2, .int x3), (3, .ref o0), (4, .int c4), (5, .int v5)]) [2, 0, 3, 4, 5] rfl ?_
      exact t_X8_countOf_B33 N o0 c1 c4 hk0 kb hkb x3 v5 μ
    · refine s_sub (lv' := [(1, .int c1), (2, .int v2), (3, .ref o0), (4, .int c4), (5, .int v5)]) [1, 2, 3, 4, 5] rfl ?_
      exact t_X8_countOf_B33 N o0 c1 c4 hk0 kb hkb v2 v5 μ
  · refine s_iload_n (pc := 39) 1 dX8_countOf_39 rfl rfl ?_
    exact s_iret (pc := 40) rfl dX8_countOf_40 rfl
def f_X8_countOf_L11 (N : Nat) (o0 : Nat) (c1 : Int32) (c4 : Int32) : Nat → Int32 → Int32 → z_S → Option (Int32 × z_S)
  | 0, _, _, _ => none
  | n + 1, v2, v5, μ => b_X8_countOf_L11 N o0 c1 c4 (f_X8_countOf_L11 N o0 c1 c4 n) v2 v5 μ
theorem t_X8_countOf_L11 (N : Nat) (o0 : Nat) (c1 : Int32) (c4 : Int32) (hk0 : z_kw true o0 = (20, (z_kw true o0).2)) : ∀ (n : Nat) (v2 : Int32) (v5 : Int32) (μ : z_S), z_sim true rI mX8_countOf 0 (f_X8_countOf_L11 N o0 c1 c4 n v2 v5 μ) 11 [(1, .int c1), (2, .int v2), (3, .ref o0), (4, .int c4), (5, .int v5)] [] μ
  | 0, _, _, _ => s_none
  | n + 1, v2, v5, μ => tb_X8_countOf_L11 N o0 c1 c4 hk0 (f_X8_countOf_L11 N o0 c1 c4 n) (t_X8_countOf_L11 N o0 c1 c4 hk0 n) v2 v5 μ
def f_X8_countOf (N : Nat) (o0 : Nat) (a1 : Int32) (μ : z_S) : Option (Int32 × z_S) :=
  z_kd true o0 20 <| z_bd (Int32.ofNat (z_kw true o0).2) fun x1 => f_X8_countOf_L11 N o0 a1 x1 N (0 : Int32) (0 : Int32) μ
theorem t_X8_countOf (N : Nat) (o0 : Nat) (a1 : Int32) (μ : z_S) : z_met true rI mX8_countOf 0 [.ref o0, .int a1] μ (f_X8_countOf N o0 a1 μ) := by
  refine z_met.of (by decide +kernel) (by show _ ≤ _; first | decide | exact Nat.le_of_ble_eq_true rfl) (lv := [(0, .ref o0), (1, .int a1)]) rfl ?_
  unfold f_X8_countOf
  refine s_kd (fun hk0 => ?_)
  refine s_iconst (pc := 0) (v := (0 : Int32)) dX8_countOf_0 (by decide) ?_
  refine s_istore_n (pc := 1) (lv' := [(2, .int (0 : Int32)), (0, .ref o0), (1, .int a1)]) dX8_countOf_1 rfl (by decide) rfl ?_
  refine s_aload_n (pc := 2) 1 dX8_countOf_2 rfl rfl ?_
  refine s_astore_n (pc := 3) (lv' := [(3, .ref o0), (2, .int (0 : Int32)), (0, .ref o0), (1, .int a1)]) dX8_countOf_3 rfl (by decide) rfl ?_
  refine s_aload_n (pc := 4) 0 dX8_countOf_4 rfl rfl ?_
  refine s_alen (pc := 5) dX8_countOf_5 hk0 (by decide) (by decide) rfl ?_
  refine s_letI (fun x1 => ?_)
  refine s_istore (pc := 6) (lv' := [(4, .int x1), (3, .ref o0), (2, .int (0 : Int32)), (0, .ref o0), (1, .int a1)]) dX8_countOf_6 (by decide) rfl ?_
  refine s_iconst (pc := 8) (v := (0 : Int32)) dX8_countOf_8 (by decide) ?_
  refine s_istore (pc := 9) (lv' := [(5, .int (0 : Int32)), (4, .int x1), (3, .ref o0), (2, .int (0 : Int32)), (0, .ref o0), (1, .int a1)]) dX8_countOf_9 (by decide) rfl ?_
  refine s_sub (lv' := [(1, .int a1), (2, .int (0 : Int32)), (3, .ref o0), (4, .int x1), (5, .int (0 : Int32))]) [5, 3, 2, 1, 0] rfl ?_
  refine t_X8_countOf_L11 N o0 a1 x1 hk0 N (0 : Int32) (0 : Int32) μ
def f_X8_countDone (N : Nat) (o0 : Nat) (μ : z_S) : Option (Int32 × z_S) :=
  z_ko true o0 8 <| z_bn (f_X8_countOf N (o0 + 3) (-1 : Int32) μ) fun x1 μ_1 => some (((8 : Int32) - x1), μ_1)
theorem t_X8_countDone (N : Nat) (o0 : Nat) (μ : z_S) : z_met true rI mX8_countDone 1 [.ref o0] μ (f_X8_countDone N o0 μ) := by
  refine z_met.of (by decide +kernel) (by show _ ≤ _; first | decide | exact Nat.le_of_ble_eq_true rfl) (lv := [(0, .ref o0)]) rfl ?_
  unfold f_X8_countDone
  refine s_ko (fun hk0 => ?_)
  refine s_bipush (pc := 0) (v := (8 : Int32)) dX8_countDone_0 (by decide) ?_
  refine s_aload_n (pc := 2) 0 dX8_countDone_2 rfl rfl ?_
  refine s_getR (pc := 3) (ci := 8) (k := 3) (r := (o0 + 3)) dX8_countDone_3 fl_8_18 hk0 rfl (gr_8_0_3 hk0) ?_
  refine s_iconst (pc := 6) (v := (-1 : Int32)) dX8_countDone_6 (by decide) ?_
  refine s_callSI (pc := 7) (as := [.ref (o0 + 3), .int (-1 : Int32)]) (st := [.int (8 : Int32)]) dX8_countDone_7 lk_8_56 (t_X8_countOf N (o0 + 3) (-1 : Int32) μ) (by omega) rfl (Nat.le_of_ble_eq_true rfl) rfl (fun x1 μ_1 => ?_)
  refine s_isub (pc := 10) dX8_countDone_10 ?_
  exact s_iret (pc := 11) rfl dX8_countDone_11 rfl
def f_X8_countSheets (N : Nat) (o0 : Nat) (μ : z_S) : Option (Int32 × z_S) :=
  z_ko true o0 8 <| z_bn (f_X8_countOf N (o0 + 4) (0 : Int32) μ) fun x1 μ_1 => some (((8 : Int32) - x1), μ_1)
theorem t_X8_countSheets (N : Nat) (o0 : Nat) (μ : z_S) : z_met true rI mX8_countSheets 1 [.ref o0] μ (f_X8_countSheets N o0 μ) := by
  refine z_met.of (by decide +kernel) (by show _ ≤ _; first | decide | exact Nat.le_of_ble_eq_true rfl) (lv := [(0, .ref o0)]) rfl ?_
  unfold f_X8_countSheets
  refine s_ko (fun hk0 => ?_)
  refine s_bipush (pc := 0) (v := (8 : Int32)) dX8_countSheets_0 (by decide) ?_
  refine s_aload_n (pc := 2) 0 dX8_countSheets_2 rfl rfl ?_
  refine s_getR (pc := 3) (ci := 8) (k := 4) (r := (o0 + 4)) dX8_countSheets_3 fl_8_21 hk0 rfl (gr_8_0_4 hk0) ?_
  refine s_iconst (pc := 6) (v := (0 : Int32)) dX8_countSheets_6 (by decide) ?_
  refine s_callSI (pc := 7) (as := [.ref (o0 + 4), .int (0 : Int32)]) (st := [.int (8 : Int32)]) dX8_countSheets_7 lk_8_56 (t_X8_countOf N (o0 + 4) (0 : Int32) μ) (by omega) rfl (Nat.le_of_ble_eq_true rfl) rfl (fun x1 μ_1 => ?_)
  refine s_isub (pc := 10) dX8_countSheets_10 ?_
  exact s_iret (pc := 11) rfl dX8_countSheets_11 rfl
def f_X8_countGiven (N : Nat) (o0 : Nat) (μ : z_S) : Option (Int32 × z_S) :=
  z_ko true o0 8 <| z_bn (f_X8_countOf N (o0 + 5) (-1 : Int32) μ) fun x1 μ_1 => some (((8 : Int32) - x1), μ_1)
theorem t_X8_countGiven (N : Nat) (o0 : Nat) (μ : z_S) : z_met true rI mX8_countGiven 1 [.ref o0] μ (f_X8_countGiven N o0 μ) := by
  refine z_met.of (by decide +kernel) (by show _ ≤ _; first | decide | exact Nat.le_of_ble_eq_true rfl) (lv := [(0, .ref o0)]) rfl ?_
  unfold f_X8_countGiven
  refine s_ko (fun hk0 => ?_)
  refine s_bipush (pc := 0) (v := (8 : Int32)) dX8_countGiven_0 (by decide) ?_
  refine s_aload_n (pc := 2) 0 dX8_countGiven_2 rfl rfl ?_
  refine s_getR (pc := 3) (ci := 8) (k := 5) (r := (o0 + 5)) dX8_countGiven_3 fl_8_24 hk0 rfl (gr_8_0_5 hk0) ?_
  refine s_iconst (pc := 6) (v := (-1 : Int32)) dX8_countGiven_6 (by decide) ?_
  refine s_callSI (pc := 7) (as := [.ref (o0 + 5), .int (-1 : Int32)]) (st := [.int (8 : Int32)]) dX8_countGiven_7 lk_8_56 (t_X8_countOf N (o0 + 5) (-1 : Int32) μ) (by omega) rfl (Nat.le_of_ble_eq_true rfl) rfl (fun x1 μ_1 => ?_)
  refine s_isub (pc := 10) dX8_countGiven_10 ?_
  exact s_iret (pc := 11) rfl dX8_countGiven_11 rfl
def b_X8_countLeft_L13 (N : Nat) (o0 : Nat) (c3 : Int32) (kb : Int32 → Int32 → z_S → Option (Int32 × z_S)) (v1 : Int32) (v4 : Int32) (μ : z_S) : Option (Int32 × z_S) :=
  if v4 < c3 then (z_in v4 3 <| z_bd (μ.1 (o0 + 1) v4.toNatClampNeg) fun x1 => z_bd (v1 + x1) fun x2 => z_bd (v4 + 1) fun x3 => kb x2 x3 μ) else some (v1, μ)
theorem tb_X8_countLeft_L13 (N : Nat) (o0 : Nat) (c3 : Int32) (hk0 : z_kw true o0 = (8, 0)) (kb : Int32 → Int32 → z_S → Option (Int32 × z_S)) (hkb : ∀ (a1 : Int32) (a4 : Int32) (μ : z_S), z_sim true rI mX8_countLeft 0 (kb a1 a4 μ) 13 [(1, .int a1), (2, .ref (o0 + 1)), (3, .int c3), (4, .int a4)] [] μ) (v1 : Int32) (v4 : Int32) (μ : z_S) : z_sim true rI mX8_countLeft 0 (b_X8_countLeft_L13 N o0 c3 kb v1 v4 μ) 13 [(1, .int v1), (2, .ref (o0 + 1)), (3, .int c3), (4, .int v4)] [] μ := by
  unfold b_X8_countLeft_L13
  refine s_iload (pc := 13) 3 dX8_countLeft_13 rfl ?_
  refine s_iload_n (pc := 15) 2 dX8_countLeft_15 rfl rfl ?_
  refine s_icmp_ge (pc := 16) (tgt := 36) dX8_countLeft_16 (by decide) ?_ ?_
  · refine s_aload_n (pc := 19) 1 dX8_countLeft_19 rfl rfl ?_
    refine s_iload (pc := 20) 3 dX8_countLeft_20 rfl ?_
    refine s_iald (pc := 22) dX8_countLeft_22 (gk_8_1 hk0) ?_
    refine s_letI (fun x1 => ?_)
    refine s_istore (pc := 23) (lv' := [(5, .int x1), (1, .int v1), (2, .ref (o0 + 1)), (3, .int c3), (4, .int v4)]) dX8_countLeft_23 (by decide) rfl ?_
    refine s_iload_n (pc := 25) 1 dX8_countLeft_25 rfl rfl ?_
    refine s_iload (pc := 26) 0 dX8_countLeft_26 rfl ?_
    refine s_iadd (pc := 28) dX8_countLeft_28 ?_
    refine s_letI (fun x2 => ?_)
    refine s_istore_n (pc := 29) (lv' := [(1, .int x2), (5, .int x1), (2, .ref (o0 + 1)), (3, .int c3), (4, .int v4)]) dX8_countLeft_29 rfl (by decide) rfl ?_
    refine s_iincB (pc := 30) (lv' := fun x3 => [(4, .int x3), (1, .int x2), (5, .int x1), (2, .ref (o0 + 1)), (3, .int c3)]) (c := 1) 4 dX8_countLeft_30 rfl (by decide) (by decide) (fun _ => rfl) (fun x3 => ?_)
    refine s_goto (pc := 33) (tgt := 13) dX8_countLeft_33 (by decide) ?_
    refine s_sub (lv' := [(1, .int x2), (2, .ref (o0 + 1)), (3, .int c3), (4, .int x3)]) [1, 3, 4, 0] rfl ?_
    exact hkb x2 x3 μ
  · refine s_iload_n (pc := 36) 0 dX8_countLeft_36 rfl rfl ?_
    exact s_iret (pc := 37) rfl dX8_countLeft_37 rfl
def f_X8_countLeft_L13 (N : Nat) (o0 : Nat) (c3 : Int32) : Nat → Int32 → Int32 → z_S → Option (Int32 × z_S)
  | 0, _, _, _ => none
  | n + 1, v1, v4, μ => b_X8_countLeft_L13 N o0 c3 (f_X8_countLeft_L13 N o0 c3 n) v1 v4 μ
theorem t_X8_countLeft_L13 (N : Nat) (o0 : Nat) (c3 : Int32) (hk0 : z_kw true o0 = (8, 0)) : ∀ (n : Nat) (v1 : Int32) (v4 : Int32) (μ : z_S), z_sim true rI mX8_countLeft 0 (f_X8_countLeft_L13 N o0 c3 n v1 v4 μ) 13 [(1, .int v1), (2, .ref (o0 + 1)), (3, .int c3), (4, .int v4)] [] μ
  | 0, _, _, _ => s_none
  | n + 1, v1, v4, μ => tb_X8_countLeft_L13 N o0 c3 hk0 (f_X8_countLeft_L13 N o0 c3 n) (t_X8_countLeft_L13 N o0 c3 hk0 n) v1 v4 μ
def f_X8_countLeft (N : Nat) (o0 : Nat) (μ : z_S) : Option (Int32 × z_S) :=
  z_ko true o0 8 <| f_X8_countLeft_L13 N o0 (3 : Int32) N (0 : Int32) (0 : Int32) μ
theorem t_X8_countLeft (N : Nat) (o0 : Nat) (μ : z_S) : z_met true rI mX8_countLeft 0 [.ref o0] μ (f_X8_countLeft N o0 μ) := by
  refine z_met.of (by decide +kernel) (by show _ ≤ _; first | decide | exact Nat.le_of_ble_eq_true rfl) (lv := [(0, .ref o0)]) rfl ?_
  unfold f_X8_countLeft
  refine s_ko (fun hk0 => ?_)
  refine s_iconst (pc := 0) (v := (0 : Int32)) dX8_countLeft_0 (by decide) ?_
  refine s_istore_n (pc := 1) (lv' := [(1, .int (0 : Int32)), (0, .ref o0)]) dX8_countLeft_1 rfl (by decide) rfl ?_
  refine s_aload_n (pc := 2) 1 dX8_countLeft_2 rfl rfl ?_
  refine s_getR (pc := 3) (ci := 8) (k := 1) (r := (o0 + 1)) dX8_countLeft_3 fl_8_9 hk0 rfl (gr_8_0_1 hk0) ?_
  refine s_astore_n (pc := 6) (lv' := [(2, .ref (o0 + 1)), (1, .int (0 : Int32)), (0, .ref o0)]) dX8_countLeft_6 rfl (by decide) rfl ?_
  refine s_aload_n (pc := 7) 0 dX8_countLeft_7 rfl rfl ?_
  refine s_alen (pc := 8) (v := (3 : Int32)) dX8_countLeft_8 (gk_8_1 hk0) (by decide) (by decide) (by decide) ?_
  refine s_istore_n (pc := 9) (lv' := [(3, .int (3 : Int32)), (2, .ref (o0 + 1)), (1, .int (0 : Int32)), (0, .ref o0)]) dX8_countLeft_9 rfl (by decide) rfl ?_
  refine s_iconst (pc := 10) (v := (0 : Int32)) dX8_countLeft_10 (by decide) ?_
  refine s_istore (pc := 11) (lv' := [(4, .int (0 : Int32)), (3, .int (3 : Int32)), (2, .ref (o0 + 1)), (1, .int (0 : Int32)), (0, .ref o0)]) dX8_countLeft_11 (by decide) rfl ?_
  refine s_sub (lv' := [(1, .int (0 : Int32)), (2, .ref (o0 + 1)), (3, .int (3 : Int32)), (4, .int (0 : Int32))]) [3, 2, 1, 0] rfl ?_
  refine t_X8_countLeft_L13 N o0 (3 : Int32) hk0 N (0 : Int32) (0 : Int32) μ
def f_X8_doneByHelper_B26 (N : Nat) (o0 : Nat) (c1 : Int32) (kb : Int32 → Int32 → z_S → Option (Int32 × z_S)) (v2 : Int32) (v3 : Int32) (μ : z_S) : Option (Int32 × z_S) :=
  z_bd (v3 + 1) fun x2 => kb v2 x2 μ
theorem t_X8_doneByHelper_B26 (N : Nat) (o0 : Nat) (c1 : Int32) (hk0 : z_kw true o0 = (8, 0)) (kb : Int32 → Int32 → z_S → Option (Int32 × z_S)) (hkb : ∀ (a2 : Int32) (a3 : Int32) (μ : z_S), z_sim true rI mX8_doneByHelper 0 (kb a2 a3 μ) 4 [(0, .ref o0), (1, .int c1), (2, .int a2), (3, .int a3)] [] μ) (v2 : Int32) (v3 : Int32)  (μ : z_S) : z_sim true rI mX8_doneByHelper 0 (f_X8_doneByHelper_B26 N o0 c1 kb v2 v3 μ) 26 [(0, .ref o0), (1, .int c1), (2, .int v2), (3, .int v3)] [] μ := by
  unfold f_X8_doneByHelper_B26
  refine s_iincB (pc := 26) (lv' := fun x2 => [(3, .int x2), (0, .ref o0), (1, .int c1), (2, .int v2)]) (c := 1) 3 dX8_doneByHelper_26 rfl (by decide) (by decide) (fun _ => rfl) (fun x2 => ?_)
  refine s_goto (pc := 29) (tgt := 4) dX8_doneByHelper_29 (by decide) ?_
  refine s_sub (lv' := [(0, .ref o0), (1, .int c1), (2, .int v2), (3, .int x2)]) [1, 2, 3, 0] rfl ?_
  exact hkb v2 x2 μ
def b_X8_doneByHelper_L4 (N : Nat) (o0 : Nat) (c1 : Int32) (kb : Int32 → Int32 → z_S → Option (Int32 × z_S)) (v2 : Int32) (v3 : Int32) (μ : z_S) : Option (Int32 × z_S) :=
  if v3 < (8 : Int32) then (z_in v3 8 <| if (μ.1 (o0 + 3) v3.toNatClampNeg) = c1 then (z_bd (v2 ||| ((1 : Int32) <<< (v3 &&& 31))) fun x1 => f_X8_doneByHelper_B26 N o0 c1 kb x1 v3 μ) else f_X8_doneByHelper_B26 N o0 c1 kb v2 v3 μ) else some (v2, μ)
theorem tb_X8_doneByHelper_L4 (N : Nat) (o0 : Nat) (c1 : Int32) (hk0 : z_kw true o0 = (8, 0)) (kb : Int32 → Int32 → z_S → Option (Int32 × z_S)) (hkb : ∀ (a2 : Int32) (a3 : Int32) (μ : z_S), z_sim true rI mX8_doneByHelper 0 (kb a2 a3 μ) 4 [(0, .ref o0), (1, .int c1), (2, .int a2), (3, .int a3)] [] μ) (v2 : Int32) (v3 : Int32) (μ : z_S) : z_sim true rI mX8_doneByHelper 0 (b_X8_doneByHelper_L4 N o0 c1 kb v2 v3 μ) 4 [(0, .ref o0), (1, .int c1), (2, .int v2), (3, .int v3)] [] μ := by
  unfold b_X8_doneByHelper_L4
  refine s_iload_n (pc := 4) 3 dX8_doneByHelper_4 rfl rfl ?_
  refine s_bipush (pc := 5) (v := (8 : Int32)) dX8_doneByHelper_5 (by decide) ?_
  refine s_icmp_ge (pc := 7) (tgt := 32) dX8_doneByHelper_7 (by decide) ?_ ?_
  · refine s_aload_n (pc := 10) 0 dX8_doneByHelper_10 rfl rfl ?_
    refine s_getR (pc := 11) (ci := 8) (k := 3) (r := (o0 + 3)) dX8_doneByHelper_11 fl_8_18 hk0 rfl (gr_8_0_3 hk0) ?_
    refine s_iload_n (pc := 14) 3 dX8_doneByHelper_14 rfl rfl ?_
    refine s_iald (pc := 15) dX8_doneByHelper_15 (gk_8_3 hk0) ?_
    refine s_iload_n (pc := 16) 1 dX8_doneByHelper_16 rfl rfl ?_
    refine s_icmp_ne (pc := 17) (tgt := 26) dX8_doneByHelper_17 (by decide) ?_ ?_
    · refine s_iload_n (pc := 20) 2 dX8_doneByHelper_20 rfl rfl ?_
      refine s_iconst (pc := 21) (v := (1 : Int32)) dX8_doneByHelper_21 (by decide) ?_
      refine s_iload_n (pc := 22) 3 dX8_doneByHelper_22 rfl rfl ?_
      refine s_ishl (pc := 23) dX8_doneByHelper_23 ?_
      refine s_ior (pc := 24) dX8_doneByHelper_24 ?_
      refine s_letI (fun x1 => ?_)
      refine s_istore_n (pc := 25) (lv' := [(2, .int x1), (0, .ref o0), (1, .int c1), (3, .int v3)]) dX8_doneByHelper_25 rfl (by decide) rfl ?_
      refine s_sub (lv' := [(0, .ref o0), (1, .int c1), (2, .int x1), (3, .int v3)]) [1, 2, 0, 3] rfl ?_
      exact t_X8_doneByHelper_B26 N o0 c1 hk0 kb hkb x1 v3 μ
    · exact t_X8_doneByHelper_B26 N o0 c1 hk0 kb hkb v2 v3 μ
  · refine s_iload_n (pc := 32) 2 dX8_doneByHelper_32 rfl rfl ?_
    exact s_iret (pc := 33) rfl dX8_doneByHelper_33 rfl
def f_X8_doneByHelper_L4 (N : Nat) (o0 : Nat) (c1 : Int32) : Nat → Int32 → Int32 → z_S → Option (Int32 × z_S)
  | 0, _, _, _ => none
  | n + 1, v2, v3, μ => b_X8_doneByHelper_L4 N o0 c1 (f_X8_doneByHelper_L4 N o0 c1 n) v2 v3 μ
theorem t_X8_doneByHelper_L4 (N : Nat) (o0 : Nat) (c1 : Int32) (hk0 : z_kw true o0 = (8, 0)) : ∀ (n : Nat) (v2 : Int32) (v3 : Int32) (μ : z_S), z_sim true rI mX8_doneByHelper 0 (f_X8_doneByHelper_L4 N o0 c1 n v2 v3 μ) 4 [(0, .ref o0), (1, .int c1), (2, .int v2), (3, .int v3)] [] μ
  | 0, _, _, _ => s_none
  | n + 1, v2, v3, μ => tb_X8_doneByHelper_L4 N o0 c1 hk0 (f_X8_doneByHelper_L4 N o0 c1 n) (t_X8_doneByHelper_L4 N o0 c1 hk0 n) v2 v3 μ
def f_X8_doneByHelper (N : Nat) (o0 : Nat) (a1 : Int32) (μ : z_S) : Option (Int32 × z_S) :=
  z_ko true o0 8 <| f_X8_doneByHelper_L4 N o0 a1 N (0 : Int32) (0 : Int32) μ
theorem t_X8_doneByHelper (N : Nat) (o0 : Nat) (a1 : Int32) (μ : z_S) : z_met true rI mX8_doneByHelper 0 [.ref o0, .int a1] μ (f_X8_doneByHelper N o0 a1 μ) := by
  refine z_met.of (by decide +kernel) (by show _ ≤ _; first | decide | exact Nat.le_of_ble_eq_true rfl) (lv := [(0, .ref o0), (1, .int a1)]) rfl ?_
  unfold f_X8_doneByHelper
  refine s_ko (fun hk0 => ?_)
  refine s_iconst (pc := 0) (v := (0 : Int32)) dX8_doneByHelper_0 (by decide) ?_
  refine s_istore_n (pc := 1) (lv' := [(2, .int (0 : Int32)), (0, .ref o0), (1, .int a1)]) dX8_doneByHelper_1 rfl (by decide) rfl ?_
  refine s_iconst (pc := 2) (v := (0 : Int32)) dX8_doneByHelper_2 (by decide) ?_
  refine s_istore_n (pc := 3) (lv' := [(3, .int (0 : Int32)), (2, .int (0 : Int32)), (0, .ref o0), (1, .int a1)]) dX8_doneByHelper_3 rfl (by decide) rfl ?_
  refine s_sub (lv' := [(0, .ref o0), (1, .int a1), (2, .int (0 : Int32)), (3, .int (0 : Int32))]) [2, 3, 1, 0] rfl ?_
  refine t_X8_doneByHelper_L4 N o0 a1 hk0 N (0 : Int32) (0 : Int32) μ
def f_X8_hasSheetNear_B37 (N : Nat) (o0 : Nat) (o1 : Nat) (c2 : Int32) (c3 : Int32) (kb : Int32 → z_S → Option (Int32 × z_S)) (v4 : Int32) (μ : z_S) : Option (Int32 × z_S) :=
  z_bd (v4 + 1) fun x2 => kb x2 μ
theorem t_X8_hasSheetNear_B37 (N : Nat) (o0 : Nat) (o1 : Nat) (c2 : Int32) (c3 : Int32) (hk0 : z_kw true o0 = (8, 0)) (hk1 : z_kw true o1 = (2, 0)) (kb : Int32 → z_S → Option (Int32 × z_S)) (hkb : ∀ (a4 : Int32) (μ : z_S), z_sim true rI mX8_hasSheetNear 1 (kb a4 μ) 3 [(0, .ref o0), (1, .ref o1), (2, .int c2), (3, .int c3), (4, .int a4)] [] μ) (v4 : Int32)  (μ : z_S) : z_sim true rI mX8_hasSheetNear 1 (f_X8_hasSheetNear_B37 N o0 o1 c2 c3 kb v4 μ) 37 [(0, .ref o0), (1, .ref o1), (2, .int c2), (3, .int c3), (4, .int v4)] [] μ := by
  unfold f_X8_hasSheetNear_B37
  refine s_iincB (pc := 37) (lv' := fun x2 => [(4, .int x2), (0, .ref o0), (1, .ref o1), (2, .int c2), (3, .int c3)]) (c := 1) 4 dX8_hasSheetNear_37 rfl (by decide) (by decide) (fun _ => rfl) (fun x2 => ?_)
  refine s_goto (pc := 40) (tgt := 3) dX8_hasSheetNear_40 (by decide) ?_
  refine s_sub (lv' := [(0, .ref o0), (1, .ref o1), (2, .int c2), (3, .int c3), (4, .int x2)]) [1, 2, 3, 4, 0] rfl ?_
  exact hkb x2 μ
def b_X8_hasSheetNear_L3 (N : Nat) (o0 : Nat) (o1 : Nat) (c2 : Int32) (c3 : Int32) (kb : Int32 → z_S → Option (Int32 × z_S)) (v4 : Int32) (μ : z_S) : Option (Int32 × z_S) :=
  if v4 < (μ.1 (o1 + 1) 0) then (z_bn (f_X2_isNear N o1 c2 v4 μ) fun x1 μ_1 => if x1 = 0 then (f_X8_hasSheetNear_B37 N o0 o1 c2 c3 kb v4 μ_1) else z_in v4 8 <| if (μ_1.1 (o0 + 4) v4.toNatClampNeg) = c3 then (some ((1 : Int32), μ_1)) else f_X8_hasSheetNear_B37 N o0 o1 c2 c3 kb v4 μ_1) else some ((0 : Int32), μ)
theorem tb_X8_hasSheetNear_L3 (N : Nat) (o0 : Nat) (o1 : Nat) (c2 : Int32) (c3 : Int32) (hk0 : z_kw true o0 = (8, 0)) (hk1 : z_kw true o1 = (2, 0)) (kb : Int32 → z_S → Option (Int32 × z_S)) (hkb : ∀ (a4 : Int32) (μ : z_S), z_sim true rI mX8_hasSheetNear 1 (kb a4 μ) 3 [(0, .ref o0), (1, .ref o1), (2, .int c2), (3, .int c3), (4, .int a4)] [] μ) (v4 : Int32) (μ : z_S) : z_sim true rI mX8_hasSheetNear 1 (b_X8_hasSheetNear_L3 N o0 o1 c2 c3 kb v4 μ) 3 [(0, .ref o0), (1, .ref o1), (2, .int c2), (3, .int c3), (4, .int v4)] [] μ := by
  unfold b_X8_hasSheetNear_L3
  refine s_iload (pc := 3) 4 dX8_hasSheetNear_3 rfl ?_
  refine s_aload_n (pc := 5) 1 dX8_hasSheetNear_5 rfl rfl ?_
  refine s_getR (pc := 6) (ci := 2) (k := 0) (r := (o1 + 1)) dX8_hasSheetNear_6 fl_8_40 hk1 rfl (gr_2_0_0 hk1) ?_
  refine s_iconst (pc := 9) (v := (0 : Int32)) dX8_hasSheetNear_9 (by decide) ?_
  refine s_ialdK (pc := 10) (k := 0) dX8_hasSheetNear_10 (gk_2_1 hk1) (by decide) (by decide) (by decide) ?_
  refine s_icmp_ge (pc := 11) (tgt := 43) dX8_hasSheetNear_11 (by decide) ?_ ?_
  · refine s_aload_n (pc := 14) 1 dX8_hasSheetNear_14 rfl rfl ?_
    refine s_iload_n (pc := 15) 2 dX8_hasSheetNear_15 rfl rfl ?_
    refine s_iload (pc := 16) 4 dX8_hasSheetNear_16 rfl ?_
    refine s_callVI (pc := 18) (as := [.int c2, .int v4]) (st := []) dX8_hasSheetNear_18 lk_8_60 hk1 (t_X2_isNear N o1 c2 v4 μ) (by omega) rfl (by decide) rfl (fun x1 μ_1 => ?_)
    refine s_if_eq (pc := 21) (tgt := 37) dX8_hasSheetNear_21 (by decide) ?_ ?_
    · exact t_X8_hasSheetNear_B37 N o0 o1 c2 c3 hk0 hk1 kb hkb v4 μ_1
    · refine s_aload_n (pc := 24) 0 dX8_hasSheetNear_24 rfl rfl ?_
      refine s_getR (pc := 25) (ci := 8) (k := 4) (r := (o0 + 4)) dX8_hasSheetNear_25 fl_8_21 hk0 rfl (gr_8_0_4 hk0) ?_
      refine s_iload (pc := 28) 4 dX8_hasSheetNear_28 rfl ?_
      refine s_iald (pc := 30) dX8_hasSheetNear_30 (gk_8_4 hk0) ?_
      refine s_iload_n (pc := 31) 3 dX8_hasSheetNear_31 rfl rfl ?_
      refine s_icmp_ne (pc := 32) (tgt := 37) dX8_hasSheetNear_32 (by decide) ?_ ?_
      · refine s_iconst (pc := 35) (v := (1 : Int32)) dX8_hasSheetNear_35 (by decide) ?_
        exact s_zret0 (pc := 36) dX8_hasSheetNear_36 rfl rfl
      · exact t_X8_hasSheetNear_B37 N o0 o1 c2 c3 hk0 hk1 kb hkb v4 μ_1
  · refine s_iconst (pc := 43) (v := (0 : Int32)) dX8_hasSheetNear_43 (by decide) ?_
    exact s_zret0 (pc := 44) dX8_hasSheetNear_44 rfl rfl
def f_X8_hasSheetNear_L3 (N : Nat) (o0 : Nat) (o1 : Nat) (c2 : Int32) (c3 : Int32) : Nat → Int32 → z_S → Option (Int32 × z_S)
  | 0, _, _ => none
  | n + 1, v4, μ => b_X8_hasSheetNear_L3 N o0 o1 c2 c3 (f_X8_hasSheetNear_L3 N o0 o1 c2 c3 n) v4 μ
theorem t_X8_hasSheetNear_L3 (N : Nat) (o0 : Nat) (o1 : Nat) (c2 : Int32) (c3 : Int32) (hk0 : z_kw true o0 = (8, 0)) (hk1 : z_kw true o1 = (2, 0)) : ∀ (n : Nat) (v4 : Int32) (μ : z_S), z_sim true rI mX8_hasSheetNear 1 (f_X8_hasSheetNear_L3 N o0 o1 c2 c3 n v4 μ) 3 [(0, .ref o0), (1, .ref o1), (2, .int c2), (3, .int c3), (4, .int v4)] [] μ
  | 0, _, _ => s_none
  | n + 1, v4, μ => tb_X8_hasSheetNear_L3 N o0 o1 c2 c3 hk0 hk1 (f_X8_hasSheetNear_L3 N o0 o1 c2 c3 n) (t_X8_hasSheetNear_L3 N o0 o1 c2 c3 hk0 hk1 n) v4 μ
def f_X8_hasSheetNear (N : Nat) (o0 : Nat) (o1 : Nat) (a2 : Int32) (a3 : Int32) (μ : z_S) : Option (Int32 × z_S) :=
  z_ko true o0 8 <| z_ko true o1 2 <| f_X8_hasSheetNear_L3 N o0 o1 a2 a3 N (0 : Int32) μ
theorem t_X8_hasSheetNear (N : Nat) (o0 : Nat) (o1 : Nat) (a2 : Int32) (a3 : Int32) (μ : z_S) : z_met true rI mX8_hasSheetNear 1 [.ref o0, .ref o1, .int a2, .int a3] μ (f_X8_hasSheetNear N o0 o1 a2 a3 μ) := by
  refine z_met.of (by decide +kernel) (by show _ ≤ _; first | decide | exact Nat.le_of_ble_eq_true rfl) (lv := [(0, .ref o0), (1, .ref o1), (2, .int a2), (3, .int a3)]) rfl ?_
  unfold f_X8_hasSheetNear
  refine s_ko (fun hk0 => ?_)
  refine s_ko (fun hk1 => ?_)
  refine s_iconst (pc := 0) (v := (0 : Int32)) dX8_hasSheetNear_0 (by decide) ?_
  refine s_istore (pc := 1) (lv' := [(4, .int (0 : Int32)), (0, .ref o0), (1, .ref o1), (2, .int a2), (3, .int a3)]) dX8_hasSheetNear_1 (by decide) rfl ?_
  refine s_sub (lv' := [(0, .ref o0), (1, .ref o1), (2, .int a2), (3, .int a3), (4, .int (0 : Int32))]) [1, 2, 3, 4, 0] rfl ?_
  refine t_X8_hasSheetNear_L3 N o0 o1 a2 a3 hk0 hk1 N (0 : Int32) μ
def f_X8_letterCanBe_B64 (N : Nat) (o0 : Nat) (o1 : Nat)  (μ : z_S) : Option (Int32 × z_S) :=
  some ((1 : Int32), μ)
theorem t_X8_letterCanBe_B64 (N : Nat) (o0 : Nat) (o1 : Nat) (hk0 : z_kw true o0 = (8, 0)) (hk1 : z_kw true o1 = (2, 0))     (μ : z_S) : z_sim true rI mX8_letterCanBe 2 (f_X8_letterCanBe_B64 N o0 o1   μ) 64 [] [] μ := by
  unfold f_X8_letterCanBe_B64
  refine s_iconst (pc := 64) (v := (1 : Int32)) dX8_letterCanBe_64 (by decide) ?_
  refine s_goto (pc := 65) (tgt := 69) dX8_letterCanBe_65 (by decide) ?_
  exact s_zret0 (pc := 69) dX8_letterCanBe_69 rfl rfl
def f_X8_letterCanBe (N : Nat) (o0 : Nat) (o1 : Nat) (a2 : Int32) (μ : z_S) : Option (Int32 × z_S) :=
  z_ko true o0 8 <| z_ko true o1 2 <| z_in a2 8 <| if (μ.1 (o0 + 3) a2.toNatClampNeg) < (μ.1 (o1 + 1) 2) then (z_in a2 8 <| if (μ.1 (o0 + 5) a2.toNatClampNeg) < (μ.1 (o1 + 1) 1) then (z_in a2 8 <| if (4 : Int32) < (μ.1 (o0 + 4) a2.toNatClampNeg) then (some ((0 : Int32), μ)) else z_in a2 8 <| if (μ.1 (o0 + 4) a2.toNatClampNeg) = 0 then (f_X8_letterCanBe_B64 N o0 o1 μ) else z_in a2 8 <| z_bn (f_X8_hasSheetNear N o0 o1 a2 (μ.1 (o0 + 4) a2.toNatClampNeg) μ) fun x1 μ_1 => if x1 = 0 then (f_X8_letterCanBe_B64 N o0 o1 μ_1) else some ((0 : Int32), μ_1)) else some ((0 : Int32), μ)) else some ((0 : Int32), μ)
theorem t_X8_letterCanBe (N : Nat) (o0 : Nat) (o1 : Nat) (a2 : Int32) (μ : z_S) : z_met true rI mX8_letterCanBe 2 [.ref o0, .ref o1, .int a2] μ (f_X8_letterCanBe N o0 o1 a2 μ) := by
  refine z_met.of (by decide +kernel) (by show _ ≤ _; first | decide | exact Nat.le_of_ble_eq_true rfl) (lv := [(0, .ref o0), (1, .ref o1), (2, .int a2)]) rfl ?_
  unfold f_X8_letterCanBe
  refine s_ko (fun hk0 => ?_)
  refine s_ko (fun hk1 => ?_)
  refine s_aload_n (pc := 0) 0 dX8_letterCanBe_0 rfl rfl ?_
  refine s_getR (pc := 1) (ci := 8) (k := 3) (r := (o0 + 3)) dX8_letterCanBe_1 fl_8_18 hk0 rfl (gr_8_0_3 hk0) ?_
  refine s_iload_n (pc := 4) 2 dX8_letterCanBe_4 rfl rfl ?_
  refine s_iald (pc := 5) dX8_letterCanBe_5 (gk_8_3 hk0) ?_
  refine s_aload_n (pc := 6) 1 dX8_letterCanBe_6 rfl rfl ?_
  refine s_getR (pc := 7) (ci := 2) (k := 0) (r := (o1 + 1)) dX8_letterCanBe_7 fl_8_40 hk1 rfl (gr_2_0_0 hk1) ?_
  refine s_iconst (pc := 10) (v := (2 : Int32)) dX8_letterCanBe_10 (by decide) ?_
  refine s_ialdK (pc := 11) (k := 2) dX8_letterCanBe_11 (gk_2_1 hk1) (by decide) (by decide) (by decide) ?_
  refine s_icmp_ge (pc := 12) (tgt := 68) dX8_letterCanBe_12 (by decide) ?_ ?_
  · refine s_aload_n (pc := 15) 0 dX8_letterCanBe_15 rfl rfl ?_
    refine s_getR (pc := 16) (ci := 8) (k := 5) (r := (o0 + 5)) dX8_letterCanBe_16 fl_8_24 hk0 rfl (gr_8_0_5 hk0) ?_
    refine s_iload_n (pc := 19) 2 dX8_letterCanBe_19 rfl rfl ?_
    refine s_iald (pc := 20) dX8_letterCanBe_20 (gk_8_5 hk0) ?_
    refine s_aload_n (pc := 21) 1 dX8_letterCanBe_21 rfl rfl ?_
    refine s_getR (pc := 22) (ci := 2) (k := 0) (r := (o1 + 1)) dX8_letterCanBe_22 fl_8_40 hk1 rfl (gr_2_0_0 hk1) ?_
    refine s_iconst (pc := 25) (v := (1 : Int32)) dX8_letterCanBe_25 (by decide) ?_
    refine s_ialdK (pc := 26) (k := 1) dX8_letterCanBe_26 (gk_2_1 hk1) (by decide) (by decide) (by decide) ?_
    refine s_icmp_ge (pc := 27) (tgt := 68) dX8_letterCanBe_27 (by decide) ?_ ?_
    · refine s_aload_n (pc := 30) 0 dX8_letterCanBe_30 rfl rfl ?_
      refine s_getR (pc := 31) (ci := 8) (k := 4) (r := (o0 + 4)) dX8_letterCanBe_31 fl_8_21 hk0 rfl (gr_8_0_4 hk0) ?_
      refine s_iload_n (pc := 34) 2 dX8_letterCanBe_34 rfl rfl ?_
      refine s_iald (pc := 35) dX8_letterCanBe_35 (gk_8_4 hk0) ?_
      refine s_iconst (pc := 36) (v := (4 : Int32)) dX8_letterCanBe_36 (by decide) ?_
      refine s_icmp_gt (pc := 37) (tgt := 68) dX8_letterCanBe_37 (by decide) ?_ ?_
      · refine s_iconst (pc := 68) (v := (0 : Int32)) dX8_letterCanBe_68 (by decide) ?_
        exact s_zret0 (pc := 69) dX8_letterCanBe_69 rfl rfl
      · refine s_aload_n (pc := 40) 0 dX8_letterCanBe_40 rfl rfl ?_
        refine s_getR (pc := 41) (ci := 8) (k := 4) (r := (o0 + 4)) dX8_letterCanBe_41 fl_8_21 hk0 rfl (gr_8_0_4 hk0) ?_
        refine s_iload_n (pc := 44) 2 dX8_letterCanBe_44 rfl rfl ?_
        refine s_iald (pc := 45) dX8_letterCanBe_45 (gk_8_4 hk0) ?_
        refine s_if_eq (pc := 46) (tgt := 64) dX8_letterCanBe_46 (by decide) ?_ ?_
        · refine s_sub (lv' := []) [] rfl ?_
          exact t_X8_letterCanBe_B64 N o0 o1 hk0 hk1 μ
        · refine s_aload_n (pc := 49) 0 dX8_letterCanBe_49 rfl rfl ?_
          refine s_aload_n (pc := 50) 1 dX8_letterCanBe_50 rfl rfl ?_
          refine s_iload_n (pc := 51) 2 dX8_letterCanBe_51 rfl rfl ?_
          refine s_aload_n (pc := 52) 0 dX8_letterCanBe_52 rfl rfl ?_
          refine s_getR (pc := 53) (ci := 8) (k := 4) (r := (o0 + 4)) dX8_letterCanBe_53 fl_8_21 hk0 rfl (gr_8_0_4 hk0) ?_
          refine s_iload_n (pc := 56) 2 dX8_letterCanBe_56 rfl rfl ?_
          refine s_iald (pc := 57) dX8_letterCanBe_57 (gk_8_4 hk0) ?_
          refine s_callVI (pc := 58) (as := [.ref o1, .int a2, .int (μ.1 (o0 + 4) a2.toNatClampNeg)]) (st := []) dX8_letterCanBe_58 lk_8_68 hk0 (t_X8_hasSheetNear N o0 o1 a2 (μ.1 (o0 + 4) a2.toNatClampNeg) μ) (by omega) rfl (by decide) rfl (fun x1 μ_1 => ?_)
          refine s_if_ne (pc := 61) (tgt := 68) dX8_letterCanBe_61 (by decide) ?_ ?_
          · refine s_sub (lv' := []) [] rfl ?_
            exact t_X8_letterCanBe_B64 N o0 o1 hk0 hk1 μ_1
          · refine s_iconst (pc := 68) (v := (0 : Int32)) dX8_letterCanBe_68 (by decide) ?_
            exact s_zret0 (pc := 69) dX8_letterCanBe_69 rfl rfl
    · refine s_iconst (pc := 68) (v := (0 : Int32)) dX8_letterCanBe_68 (by decide) ?_
      exact s_zret0 (pc := 69) dX8_letterCanBe_69 rfl rfl
  · refine s_iconst (pc := 68) (v := (0 : Int32)) dX8_letterCanBe_68 (by decide) ?_
    exact s_zret0 (pc := 69) dX8_letterCanBe_69 rfl rfl
def f_X8_canBe_B52 (N : Nat) (o0 : Nat) (o1 : Nat) (kb : Int32 → Int32 → z_S → Option (Int32 × z_S)) (e59 : Int32 → z_S → Option (Int32 × z_S)) (v3 : Int32) (s0 : Int32) (μ : z_S) : Option (Int32 × z_S) :=
  z_bd (v3 + 1) fun x1 => kb s0 x1 μ
theorem t_X8_canBe_B52 (N : Nat) (o0 : Nat) (o1 : Nat) (hk0 : z_kw true o0 = (8, 0)) (hk1 : z_kw true o1 = (2, 0)) (kb : Int32 → Int32 → z_S → Option (Int32 × z_S)) (e59 : Int32 → z_S → Option (Int32 × z_S)) (hkb : ∀ (a2 : Int32) (a3 : Int32) (μ : z_S), z_sim true rI mX8_canBe 3 (kb a2 a3 μ) 18 [(0, .ref o0), (1, .ref o1), (2, .int a2), (3, .int a3)] [] μ) (he59 : ∀ (a2 : Int32) (μ : z_S), z_sim true rI mX8_canBe 3 (e59 a2 μ) 59 [(0, .ref o0), (1, .ref o1), (2, .int a2)] [] μ) (v3 : Int32) (s0 : Int32)  (μ : z_S) : z_sim true rI mX8_canBe 3 (f_X8_canBe_B52 N o0 o1 kb e59 v3 s0 μ) 52 [(0, .ref o0), (1, .ref o1), (3, .int v3)] [.int s0] μ := by
  unfold f_X8_canBe_B52
  refine s_istore_n (pc := 52) (lv' := [(2, .int s0), (0, .ref o0), (1, .ref o1), (3, .int v3)]) dX8_canBe_52 rfl (by decide) rfl ?_
  refine s_iincB (pc := 53) (lv' := fun x1 => [(3, .int x1), (2, .int s0), (0, .ref o0), (1, .ref o1)]) (c := 1) 3 dX8_canBe_53 rfl (by decide) (by decide) (fun _ => rfl) (fun x1 => ?_)
  refine s_goto (pc := 56) (tgt := 18) dX8_canBe_56 (by decide) ?_
  refine s_sub (lv' := [(0, .ref o0), (1, .ref o1), (2, .int s0), (3, .int x1)]) [2, 3, 1, 0] rfl ?_
  exact hkb s0 x1 μ
def f_X8_canBe_B51 (N : Nat) (o0 : Nat) (o1 : Nat) (kb : Int32 → Int32 → z_S → Option (Int32 × z_S)) (e59 : Int32 → z_S → Option (Int32 × z_S)) (v3 : Int32) (μ : z_S) : Option (Int32 × z_S) :=
  f_X8_canBe_B52 N o0 o1 kb e59 v3 (0 : Int32) μ
theorem t_X8_canBe_B51 (N : Nat) (o0 : Nat) (o1 : Nat) (hk0 : z_kw true o0 = (8, 0)) (hk1 : z_kw true o1 = (2, 0)) (kb : Int32 → Int32 → z_S → Option (Int32 × z_S)) (e59 : Int32 → z_S → Option (Int32 × z_S)) (hkb : ∀ (a2 : Int32) (a3 : Int32) (μ : z_S), z_sim true rI mX8_canBe 3 (kb a2 a3 μ) 18 [(0, .ref o0), (1, .ref o1), (2, .int a2), (3, .int a3)] [] μ) (he59 : ∀ (a2 : Int32) (μ : z_S), z_sim true rI mX8_canBe 3 (e59 a2 μ) 59 [(0, .ref o0), (1, .ref o1), (2, .int a2)] [] μ) (v3 : Int32)  (μ : z_S) : z_sim true rI mX8_canBe 3 (f_X8_canBe_B51 N o0 o1 kb e59 v3 μ) 51 [(0, .ref o0), (1, .ref o1), (3, .int v3)] [] μ := by
  unfold f_X8_canBe_B51
  refine s_iconst (pc := 51) (v := (0 : Int32)) dX8_canBe_51 (by decide) ?_
  exact t_X8_canBe_B52 N o0 o1 hk0 hk1 kb e59 hkb he59 v3 (0 : Int32) μ
def b_X8_canBe_L18 (N : Nat) (o0 : Nat) (o1 : Nat) (kb : Int32 → Int32 → z_S → Option (Int32 × z_S)) (e59 : Int32 → z_S → Option (Int32 × z_S)) (v2 : Int32) (v3 : Int32) (μ : z_S) : Option (Int32 × z_S) :=
  if v3 < (μ.1 (o1 + 1) 2) then (if v2 = 0 then (f_X8_canBe_B51 N o0 o1 kb e59 v3 μ) else z_in v3 3 <| z_in v3 3 <| if (μ.1 (o1 + 29) v3.toNatClampNeg) < (μ.1 (o0 + 1) v3.toNatClampNeg) then (f_X8_canBe_B51 N o0 o1 kb e59 v3 μ) else f_X8_canBe_B52 N o0 o1 kb e59 v3 (1 : Int32) μ) else e59 v2 μ
theorem tb_X8_canBe_L18 (N : Nat) (o0 : Nat) (o1 : Nat) (hk0 : z_kw true o0 = (8, 0)) (hk1 : z_kw true o1 = (2, 0)) (kb : Int32 → Int32 → z_S → Option (Int32 × z_S)) (e59 : Int32 → z_S → Option (Int32 × z_S)) (hkb : ∀ (a2 : Int32) (a3 : Int32) (μ : z_S), z_sim true rI mX8_canBe 3 (kb a2 a3 μ) 18 [(0, .ref o0), (1, .ref o1), (2, .int a2), (3, .int a3)] [] μ) (he59 : ∀ (a2 : Int32) (μ : z_S), z_sim true rI mX8_canBe 3 (e59 a2 μ) 59 [(0, .ref o0), (1, .ref o1), (2, .int a2)] [] μ) (v2 : Int32) (v3 : Int32) (μ : z_S) : z_sim true rI mX8_canBe 3 (b_X8_canBe_L18 N o0 o1 kb e59 v2 v3 μ) 18 [(0, .ref o0), (1, .ref o1), (2, .int v2), (3, .int v3)] [] μ := by
  unfold b_X8_canBe_L18
  refine s_iload_n (pc := 18) 3 dX8_canBe_18 rfl rfl ?_
  refine s_aload_n (pc := 19) 1 dX8_canBe_19 rfl rfl ?_
  refine s_getR (pc := 20) (ci := 2) (k := 0) (r := (o1 + 1)) dX8_canBe_20 fl_8_40 hk1 rfl (gr_2_0_0 hk1) ?_
  refine s_iconst (pc := 23) (v := (2 : Int32)) dX8_canBe_23 (by decide) ?_
  refine s_ialdK (pc := 24) (k := 2) dX8_canBe_24 (gk_2_1 hk1) (by decide) (by decide) (by decide) ?_
  refine s_icmp_ge (pc := 25) (tgt := 59) dX8_canBe_25 (by decide) ?_ ?_
  · refine s_iload_n (pc := 28) 2 dX8_canBe_28 rfl rfl ?_
    refine s_if_eq (pc := 29) (tgt := 51) dX8_canBe_29 (by decide) ?_ ?_
    · refine s_sub (lv' := [(0, .ref o0), (1, .ref o1), (3, .int v3)]) [0, 1, 3] rfl ?_
      exact t_X8_canBe_B51 N o0 o1 hk0 hk1 kb e59 hkb he59 v3 μ
    · refine s_aload_n (pc := 32) 0 dX8_canBe_32 rfl rfl ?_
      refine s_getR (pc := 33) (ci := 8) (k := 1) (r := (o0 + 1)) dX8_canBe_33 fl_8_9 hk0 rfl (gr_8_0_1 hk0) ?_
      refine s_iload_n (pc := 36) 3 dX8_canBe_36 rfl rfl ?_
      refine s_iald (pc := 37) dX8_canBe_37 (gk_8_1 hk0) ?_
      refine s_aload_n (pc := 38) 1 dX8_canBe_38 rfl rfl ?_
      refine s_getR (pc := 39) (ci := 2) (k := 9) (r := (o1 + 29)) dX8_canBe_39 fl_8_53 hk1 rfl (gr_2_0_9 hk1) ?_
      refine s_iload_n (pc := 42) 3 dX8_canBe_42 rfl rfl ?_
      refine s_iald (pc := 43) dX8_canBe_43 (gk_2_29 hk1) ?_
      refine s_icmp_gt (pc := 44) (tgt := 51) dX8_canBe_44 (by decide) ?_ ?_
      · refine s_sub (lv' := [(0, .ref o0), (1, .ref o1), (3, .int v3)]) [0, 1, 3] rfl ?_
        exact t_X8_canBe_B51 N o0 o1 hk0 hk1 kb e59 hkb he59 v3 μ
      · refine s_iconst (pc := 47) (v := (1 : Int32)) dX8_canBe_47 (by decide) ?_
        refine s_goto (pc := 48) (tgt := 52) dX8_canBe_48 (by decide) ?_
        refine s_sub (lv' := [(0, .ref o0), (1, .ref o1), (3, .int v3)]) [0, 1, 3] rfl ?_
        exact t_X8_canBe_B52 N o0 o1 hk0 hk1 kb e59 hkb he59 v3 (1 : Int32) μ
  · refine s_sub (lv' := [(0, .ref o0), (1, .ref o1), (2, .int v2)]) [0, 1, 2] rfl ?_
    exact he59 v2 μ
def f_X8_canBe_L18 (N : Nat) (o0 : Nat) (o1 : Nat) (e59 : Int32 → z_S → Option (Int32 × z_S)) : Nat → Int32 → Int32 → z_S → Option (Int32 × z_S)
  | 0, _, _, _ => none
  | n + 1, v2, v3, μ => b_X8_canBe_L18 N o0 o1 (f_X8_canBe_L18 N o0 o1 e59 n) e59 v2 v3 μ
theorem t_X8_canBe_L18 (N : Nat) (o0 : Nat) (o1 : Nat) (hk0 : z_kw true o0 = (8, 0)) (hk1 : z_kw true o1 = (2, 0)) (e59 : Int32 → z_S → Option (Int32 × z_S)) (he59 : ∀ (a2 : Int32) (μ : z_S), z_sim true rI mX8_canBe 3 (e59 a2 μ) 59 [(0, .ref o0), (1, .ref o1), (2, .int a2)] [] μ) : ∀ (n : Nat) (v2 : Int32) (v3 : Int32) (μ : z_S), z_sim true rI mX8_canBe 3 (f_X8_canBe_L18 N o0 o1 e59 n v2 v3 μ) 18 [(0, .ref o0), (1, .ref o1), (2, .int v2), (3, .int v3)] [] μ
  | 0, _, _, _ => s_none
  | n + 1, v2, v3, μ => tb_X8_canBe_L18 N o0 o1 hk0 hk1 (f_X8_canBe_L18 N o0 o1 e59 n) e59 (t_X8_canBe_L18 N o0 o1 hk0 hk1 e59 he59 n) he59 v2 v3 μ
def f_X8_canBe_B95 (N : Nat) (o0 : Nat) (o1 : Nat) (kb : Int32 → Int32 → z_S → Option (Int32 × z_S)) (e102 : Int32 → z_S → Option (Int32 × z_S)) (v3 : Int32) (s0 : Int32) (μ : z_S) : Option (Int32 × z_S) :=
  z_bd (v3 + 1) fun x2 => kb s0 x2 μ
theorem t_X8_canBe_B95 (N : Nat) (o0 : Nat) (o1 : Nat) (hk0 : z_kw true o0 = (8, 0)) (hk1 : z_kw true o1 = (2, 0)) (kb : Int32 → Int32 → z_S → Option (Int32 × z_S)) (e102 : Int32 → z_S → Option (Int32 × z_S)) (hkb : ∀ (a2 : Int32) (a3 : Int32) (μ : z_S), z_sim true rI mX8_canBe 3 (kb a2 a3 μ) 61 [(0, .ref o0), (1, .ref o1), (2, .int a2), (3, .int a3)] [] μ) (he102 : ∀ (a2 : Int32) (μ : z_S), z_sim true rI mX8_canBe 3 (e102 a2 μ) 102 [(0, .ref o0), (1, .ref o1), (2, .int a2)] [] μ) (v3 : Int32) (s0 : Int32)  (μ : z_S) : z_sim true rI mX8_canBe 3 (f_X8_canBe_B95 N o0 o1 kb e102 v3 s0 μ) 95 [(0, .ref o0), (1, .ref o1), (3, .int v3)] [.int s0] μ := by
  unfold f_X8_canBe_B95
  refine s_istore_n (pc := 95) (lv' := [(2, .int s0), (0, .ref o0), (1, .ref o1), (3, .int v3)]) dX8_canBe_95 rfl (by decide) rfl ?_
  refine s_iincB (pc := 96) (lv' := fun x2 => [(3, .int x2), (2, .int s0), (0, .ref o0), (1, .ref o1)]) (c := 1) 3 dX8_canBe_96 rfl (by decide) (by decide) (fun _ => rfl) (fun x2 => ?_)
  refine s_goto (pc := 99) (tgt := 61) dX8_canBe_99 (by decide) ?_
  refine s_sub (lv' := [(0, .ref o0), (1, .ref o1), (2, .int s0), (3, .int x2)]) [2, 3, 1, 0] rfl ?_
  exact hkb s0 x2 μ
def f_X8_canBe_B94 (N : Nat) (o0 : Nat) (o1 : Nat) (kb : Int32 → Int32 → z_S → Option (Int32 × z_S)) (e102 : Int32 → z_S → Option (Int32 × z_S)) (v3 : Int32) (μ : z_S) : Option (Int32 × z_S) :=
  f_X8_canBe_B95 N o0 o1 kb e102 v3 (0 : Int32) μ
theorem t_X8_canBe_B94 (N : Nat) (o0 : Nat) (o1 : Nat) (hk0 : z_kw true o0 = (8, 0)) (hk1 : z_kw true o1 = (2, 0)) (kb : Int32 → Int32 → z_S → Option (Int32 × z_S)) (e102 : Int32 → z_S → Option (Int32 × z_S)) (hkb : ∀ (a2 : Int32) (a3 : Int32) (μ : z_S), z_sim true rI mX8_canBe 3 (kb a2 a3 μ) 61 [(0, .ref o0), (1, .ref o1), (2, .int a2), (3, .int a3)] [] μ) (he102 : ∀ (a2 : Int32) (μ : z_S), z_sim true rI mX8_canBe 3 (e102 a2 μ) 102 [(0, .ref o0), (1, .ref o1), (2, .int a2)] [] μ) (v3 : Int32)  (μ : z_S) : z_sim true rI mX8_canBe 3 (f_X8_canBe_B94 N o0 o1 kb e102 v3 μ) 94 [(0, .ref o0), (1, .ref o1), (3, .int v3)] [] μ := by
  unfold f_X8_canBe_B94
  refine s_iconst (pc := 94) (v := (0 : Int32)) dX8_canBe_94 (by decide) ?_
  exact t_X8_canBe_B95 N o0 o1 hk0 hk1 kb e102 hkb he102 v3 (0 : Int32) μ
def b_X8_canBe_L61 (N : Nat) (o0 : Nat) (o1 : Nat) (kb : Int32 → Int32 → z_S → Option (Int32 × z_S)) (e102 : Int32 → z_S → Option (Int32 × z_S)) (v2 : Int32) (v3 : Int32) (μ : z_S) : Option (Int32 × z_S) :=
  if v3 < (μ.1 (o1 + 1) 1) then (if v2 = 0 then (f_X8_canBe_B94 N o0 o1 kb e102 v3 μ) else z_in v3 4 <| z_in v3 4 <| if (μ.1 (o1 + 28) v3.toNatClampNeg) < (μ.1 (o0 + 2) v3.toNatClampNeg) then (f_X8_canBe_B94 N o0 o1 kb e102 v3 μ) else f_X8_canBe_B95 N o0 o1 kb e102 v3 (1 : Int32) μ) else e102 v2 μ
theorem tb_X8_canBe_L61 (N : Nat) (o0 : Nat) (o1 : Nat) (hk0 : z_kw true o0 = (8, 0)) (hk1 : z_kw true o1 = (2, 0)) (kb : Int32 → Int32 → z_S → Option (Int32 × z_S)) (e102 : Int32 → z_S → Option (Int32 × z_S)) (hkb : ∀ (a2 : Int32) (a3 : Int32) (μ : z_S), z_sim true rI mX8_canBe 3 (kb a2 a3 μ) 61 [(0, .ref o0), (1, .ref o1), (2, .int a2), (3, .int a3)] [] μ) (he102 : ∀ (a2 : Int32) (μ : z_S), z_sim true rI mX8_canBe 3 (e102 a2 μ) 102 [(0, .ref o0), (1, .ref o1), (2, .int a2)] [] μ) (v2 : Int32) (v3 : Int32) (μ : z_S) : z_sim true rI mX8_canBe 3 (b_X8_canBe_L61 N o0 o1 kb e102 v2 v3 μ) 61 [(0, .ref o0), (1, .ref o1), (2, .int v2), (3, .int v3)] [] μ := by
  unfold b_X8_canBe_L61
  refine s_iload_n (pc := 61) 3 dX8_canBe_61 rfl rfl ?_
  refine s_aload_n (pc := 62) 1 dX8_canBe_62 rfl rfl ?_
  refine s_getR (pc := 63) (ci := 2) (k := 0) (r := (o1 + 1)) dX8_canBe_63 fl_8_40 hk1 rfl (gr_2_0_0 hk1) ?_
  refine s_iconst (pc := 66) (v := (1 : Int32)) dX8_canBe_66 (by decide) ?_
  refine s_ialdK (pc := 67) (k := 1) dX8_canBe_67 (gk_2_1 hk1) (by decide) (by decide) (by decide) ?_
  refine s_icmp_ge (pc := 68) (tgt := 102) dX8_canBe_68 (by decide) ?_ ?_
  · refine s_iload_n (pc := 71) 2 dX8_canBe_71 rfl rfl ?_
    refine s_if_eq (pc := 72) (tgt := 94) dX8_canBe_72 (by decide) ?_ ?_
    · refine s_sub (lv' := [(0, .ref o0), (1, .ref o1), (3, .int v3)]) [0, 1, 3] rfl ?_
      exact t_X8_canBe_B94 N o0 o1 hk0 hk1 kb e102 hkb he102 v3 μ
    · refine s_aload_n (pc := 75) 0 dX8_canBe_75 rfl rfl ?_
      refine s_getR (pc := 76) (ci := 8) (k := 2) (r := (o0 + 2)) dX8_canBe_76 fl_8_15 hk0 rfl (gr_8_0_2 hk0) ?_
      refine s_iload_n (pc := 79) 3 dX8_canBe_79 rfl rfl ?_
      refine s_iald (pc := 80) dX8_canBe_80 (gk_8_2 hk0) ?_
      refine s_aload_n (pc := 81) 1 dX8_canBe_81 rfl rfl ?_
      refine s_getR (pc := 82) (ci := 2) (k := 8) (r := (o1 + 28)) dX8_canBe_82 fl_8_37 hk1 rfl (gr_2_0_8 hk1) ?_
      refine s_iload_n (pc := 85) 3 dX8_canBe_85 rfl rfl ?_
      refine s_iald (pc := 86) dX8_canBe_86 (gk_2_28 hk1) ?_
      refine s_icmp_gt (pc := 87) (tgt := 94) dX8_canBe_87 (by decide) ?_ ?_
      · refine s_sub (lv' := [(0, .ref o0), (1, .ref o1), (3, .int v3)]) [0, 1, 3] rfl ?_
        exact t_X8_canBe_B94 N o0 o1 hk0 hk1 kb e102 hkb he102 v3 μ
      · refine s_iconst (pc := 90) (v := (1 : Int32)) dX8_canBe_90 (by decide) ?_
        refine s_goto (pc := 91) (tgt := 95) dX8_canBe_91 (by decide) ?_
        refine s_sub (lv' := [(0, .ref o0), (1, .ref o1), (3, .int v3)]) [0, 1, 3] rfl ?_
        exact t_X8_canBe_B95 N o0 o1 hk0 hk1 kb e102 hkb he102 v3 (1 : Int32) μ
  · refine s_sub (lv' := [(0, .ref o0), (1, .ref o1), (2, .int v2)]) [0, 1, 2] rfl ?_
    exact he102 v2 μ
def f_X8_canBe_L61 (N : Nat) (o0 : Nat) (o1 : Nat) (e102 : Int32 → z_S → Option (Int32 × z_S)) : Nat → Int32 → Int32 → z_S → Option (Int32 × z_S)
  | 0, _, _, _ => none
  | n + 1, v2, v3, μ => b_X8_canBe_L61 N o0 o1 (f_X8_canBe_L61 N o0 o1 e102 n) e102 v2 v3 μ
theorem t_X8_canBe_L61 (N : Nat) (o0 : Nat) (o1 : Nat) (hk0 : z_kw true o0 = (8, 0)) (hk1 : z_kw true o1 = (2, 0)) (e102 : Int32 → z_S → Option (Int32 × z_S)) (he102 : ∀ (a2 : Int32) (μ : z_S), z_sim true rI mX8_canBe 3 (e102 a2 μ) 102 [(0, .ref o0), (1, .ref o1), (2, .int a2)] [] μ) : ∀ (n : Nat) (v2 : Int32) (v3 : Int32) (μ : z_S), z_sim true rI mX8_canBe 3 (f_X8_canBe_L61 N o0 o1 e102 n v2 v3 μ) 61 [(0, .ref o0), (1, .ref o1), (2, .int v2), (3, .int v3)] [] μ
  | 0, _, _, _ => s_none
  | n + 1, v2, v3, μ => tb_X8_canBe_L61 N o0 o1 hk0 hk1 (f_X8_canBe_L61 N o0 o1 e102 n) e102 (t_X8_canBe_L61 N o0 o1 hk0 hk1 e102 he102 n) he102 v2 v3 μ
def f_X8_canBe_B132 (N : Nat) (o0 : Nat) (o1 : Nat) (kb : Int32 → Int32 → z_S → Option (Int32 × z_S)) (v3 : Int32) (s0 : Int32) (μ : z_S) : Option (Int32 × z_S) :=
  z_bd (v3 + 1) fun x3 => kb s0 x3 μ
theorem t_X8_canBe_B132 (N : Nat) (o0 : Nat) (o1 : Nat) (hk0 : z_kw true o0 = (8, 0)) (hk1 : z_kw true o1 = (2, 0)) (kb : Int32 → Int32 → z_S → Option (Int32 × z_S)) (hkb : ∀ (a2 : Int32) (a3 : Int32) (μ : z_S), z_sim true rI mX8_canBe 3 (kb a2 a3 μ) 104 [(0, .ref o0), (1, .ref o1), (2, .int a2), (3, .int a3)] [] μ) (v3 : Int32) (s0 : Int32)  (μ : z_S) : z_sim true rI mX8_canBe 3 (f_X8_canBe_B132 N o0 o1 kb v3 s0 μ) 132 [(0, .ref o0), (1, .ref o1), (3, .int v3)] [.int s0] μ := by
  unfold f_X8_canBe_B132
  refine s_istore_n (pc := 132) (lv' := [(2, .int s0), (0, .ref o0), (1, .ref o1), (3, .int v3)]) dX8_canBe_132 rfl (by decide) rfl ?_
  refine s_iincB (pc := 133) (lv' := fun x3 => [(3, .int x3), (2, .int s0), (0, .ref o0), (1, .ref o1)]) (c := 1) 3 dX8_canBe_133 rfl (by decide) (by decide) (fun _ => rfl) (fun x3 => ?_)
  refine s_goto (pc := 136) (tgt := 104) dX8_canBe_136 (by decide) ?_
  refine s_sub (lv' := [(0, .ref o0), (1, .ref o1), (2, .int s0), (3, .int x3)]) [2, 3, 1, 0] rfl ?_
  exact hkb s0 x3 μ
def f_X8_canBe_B131 (N : Nat) (o0 : Nat) (o1 : Nat) (kb : Int32 → Int32 → z_S → Option (Int32 × z_S)) (v3 : Int32) (μ : z_S) : Option (Int32 × z_S) :=
  f_X8_canBe_B132 N o0 o1 kb v3 (0 : Int32) μ
theorem t_X8_canBe_B131 (N : Nat) (o0 : Nat) (o1 : Nat) (hk0 : z_kw true o0 = (8, 0)) (hk1 : z_kw true o1 = (2, 0)) (kb : Int32 → Int32 → z_S → Option (Int32 × z_S)) (hkb : ∀ (a2 : Int32) (a3 : Int32) (μ : z_S), z_sim true rI mX8_canBe 3 (kb a2 a3 μ) 104 [(0, .ref o0), (1, .ref o1), (2, .int a2), (3, .int a3)] [] μ) (v3 : Int32)  (μ : z_S) : z_sim true rI mX8_canBe 3 (f_X8_canBe_B131 N o0 o1 kb v3 μ) 131 [(0, .ref o0), (1, .ref o1), (3, .int v3)] [] μ := by
  unfold f_X8_canBe_B131
  refine s_iconst (pc := 131) (v := (0 : Int32)) dX8_canBe_131 (by decide) ?_
  exact t_X8_canBe_B132 N o0 o1 hk0 hk1 kb hkb v3 (0 : Int32) μ
def b_X8_canBe_L104 (N : Nat) (o0 : Nat) (o1 : Nat) (kb : Int32 → Int32 → z_S → Option (Int32 × z_S)) (v2 : Int32) (v3 : Int32) (μ : z_S) : Option (Int32 × z_S) :=
  if v3 < (μ.1 (o1 + 1) 0) then (if v2 = 0 then (f_X8_canBe_B131 N o0 o1 kb v3 μ) else z_bn (f_X8_letterCanBe N o0 o1 v3 μ) fun x4 μ_1 => if x4 = 0 then (f_X8_canBe_B131 N o0 o1 kb v3 μ_1) else f_X8_canBe_B132 N o0 o1 kb v3 (1 : Int32) μ_1) else z_zb v2 (some (v2, μ))
theorem tb_X8_canBe_L104 (N : Nat) (o0 : Nat) (o1 : Nat) (hk0 : z_kw true o0 = (8, 0)) (hk1 : z_kw true o1 = (2, 0)) (kb : Int32 → Int32 → z_S → Option (Int32 × z_S)) (hkb : ∀ (a2 : Int32) (a3 : Int32) (μ : z_S), z_sim true rI mX8_canBe 3 (kb a2 a3 μ) 104 [(0, .ref o0), (1, .ref o1), (2, .int a2), (3, .int a3)] [] μ) (v2 : Int32) (v3 : Int32) (μ : z_S) : z_sim true rI mX8_canBe 3 (b_X8_canBe_L104 N o0 o1 kb v2 v3 μ) 104 [(0, .ref o0), (1, .ref o1), (2, .int v2), (3, .int v3)] [] μ := by
  unfold b_X8_canBe_L104
  refine s_iload_n (pc := 104) 3 dX8_canBe_104 rfl rfl ?_
  refine s_aload_n (pc := 105) 1 dX8_canBe_105 rfl rfl ?_
  refine s_getR (pc := 106) (ci := 2) (k := 0) (r := (o1 + 1)) dX8_canBe_106 fl_8_40 hk1 rfl (gr_2_0_0 hk1) ?_
  refine s_iconst (pc := 109) (v := (0 : Int32)) dX8_canBe_109 (by decide) ?_
  refine s_ialdK (pc := 110) (k := 0) dX8_canBe_110 (gk_2_1 hk1) (by decide) (by decide) (by decide) ?_
  refine s_icmp_ge (pc := 111) (tgt := 139) dX8_canBe_111 (by decide) ?_ ?_
  · refine s_iload_n (pc := 114) 2 dX8_canBe_114 rfl rfl ?_
    refine s_if_eq (pc := 115) (tgt := 131) dX8_canBe_115 (by decide) ?_ ?_
    · refine s_sub (lv' := [(0, .ref o0), (1, .ref o1), (3, .int v3)]) [0, 1, 3] rfl ?_
      exact t_X8_canBe_B131 N o0 o1 hk0 hk1 kb hkb v3 μ
    · refine s_aload_n (pc := 118) 0 dX8_canBe_118 rfl rfl ?_
      refine s_aload_n (pc := 119) 1 dX8_canBe_119 rfl rfl ?_
      refine s_iload_n (pc := 120) 3 dX8_canBe_120 rfl rfl ?_
      refine s_callVI (pc := 121) (as := [.ref o1, .int v3]) (st := []) dX8_canBe_121 lk_8_64 hk0 (t_X8_letterCanBe N o0 o1 v3 μ) (by omega) rfl (by decide) rfl (fun x4 μ_1 => ?_)
      refine s_if_eq (pc := 124) (tgt := 131) dX8_canBe_124 (by decide) ?_ ?_
      · refine s_sub (lv' := [(0, .ref o0), (1, .ref o1), (3, .int v3)]) [0, 1, 3] rfl ?_
        exact t_X8_canBe_B131 N o0 o1 hk0 hk1 kb hkb v3 μ_1
      · refine s_iconst (pc := 127) (v := (1 : Int32)) dX8_canBe_127 (by decide) ?_
        refine s_goto (pc := 128) (tgt := 132) dX8_canBe_128 (by decide) ?_
        refine s_sub (lv' := [(0, .ref o0), (1, .ref o1), (3, .int v3)]) [0, 1, 3] rfl ?_
        exact t_X8_canBe_B132 N o0 o1 hk0 hk1 kb hkb v3 (1 : Int32) μ_1
  · refine s_iload_n (pc := 139) 2 dX8_canBe_139 rfl rfl ?_
    exact s_zret (pc := 140) dX8_canBe_140 rfl
def f_X8_canBe_L104 (N : Nat) (o0 : Nat) (o1 : Nat) : Nat → Int32 → Int32 → z_S → Option (Int32 × z_S)
  | 0, _, _, _ => none
  | n + 1, v2, v3, μ => b_X8_canBe_L104 N o0 o1 (f_X8_canBe_L104 N o0 o1 n) v2 v3 μ
theorem t_X8_canBe_L104 (N : Nat) (o0 : Nat) (o1 : Nat) (hk0 : z_kw true o0 = (8, 0)) (hk1 : z_kw true o1 = (2, 0)) : ∀ (n : Nat) (v2 : Int32) (v3 : Int32) (μ : z_S), z_sim true rI mX8_canBe 3 (f_X8_canBe_L104 N o0 o1 n v2 v3 μ) 104 [(0, .ref o0), (1, .ref o1), (2, .int v2), (3, .int v3)] [] μ
  | 0, _, _, _ => s_none
  | n + 1, v2, v3, μ => tb_X8_canBe_L104 N o0 o1 hk0 hk1 (f_X8_canBe_L104 N o0 o1 n) (t_X8_canBe_L104 N o0 o1 hk0 hk1 n) v2 v3 μ
def f_X8_canBe_B15 (N : Nat) (o0 : Nat) (o1 : Nat) (s0 : Int32) (μ : z_S) : Option (Int32 × z_S) :=
  f_X8_canBe_L18 N o0 o1 (fun y59_2 μ59 => f_X8_canBe_L61 N o0 o1 (fun y102_2 μ102 => f_X8_canBe_L104 N o0 o1 N y102_2 (0 : Int32) μ102) N y59_2 (0 : Int32) μ59) N s0 (0 : Int32) μ
theorem t_X8_canBe_B15 (N : Nat) (o0 : Nat) (o1 : Nat) (hk0 : z_kw true o0 = (8, 0)) (hk1 : z_kw true o1 = (2, 0))   (s0 : Int32)  (μ : z_S) : z_sim true rI mX8_canBe 3 (f_X8_canBe_B15 N o0 o1  s0 μ) 15 [(0, .ref o0), (1, .ref o1)] [.int s0] μ := by
  unfold f_X8_canBe_B15
  refine s_istore_n (pc := 15) (lv' := [(2, .int s0), (0, .ref o0), (1, .ref o1)]) dX8_canBe_15 rfl (by decide) rfl ?_
  refine s_iconst (pc := 16) (v := (0 : Int32)) dX8_canBe_16 (by decide) ?_
  refine s_istore_n (pc := 17) (lv' := [(3, .int (0 : Int32)), (2, .int s0), (0, .ref o0), (1, .ref o1)]) dX8_canBe_17 rfl (by decide) rfl ?_
  refine s_sub (lv' := [(0, .ref o0), (1, .ref o1), (2, .int s0), (3, .int (0 : Int32))]) [2, 3, 1, 0] rfl ?_
  refine t_X8_canBe_L18 N o0 o1 hk0 hk1 _ ?_ N s0 (0 : Int32) μ
  · intro y59_2 μ59
    refine s_iconst (pc := 59) (v := (0 : Int32)) dX8_canBe_59 (by decide) ?_
    refine s_istore_n (pc := 60) (lv' := [(3, .int (0 : Int32)), (0, .ref o0), (1, .ref o1), (2, .int y59_2)]) dX8_canBe_60 rfl (by decide) rfl ?_
    refine s_sub (lv' := [(0, .ref o0), (1, .ref o1), (2, .int y59_2), (3, .int (0 : Int32))]) [1, 2, 3, 0] rfl ?_
    refine t_X8_canBe_L61 N o0 o1 hk0 hk1 _ ?_ N y59_2 (0 : Int32) μ59
    · intro y102_2 μ102
      refine s_iconst (pc := 102) (v := (0 : Int32)) dX8_canBe_102 (by decide) ?_
      refine s_istore_n (pc := 103) (lv' := [(3, .int (0 : Int32)), (0, .ref o0), (1, .ref o1), (2, .int y102_2)]) dX8_canBe_103 rfl (by decide) rfl ?_
      refine s_sub (lv' := [(0, .ref o0), (1, .ref o1), (2, .int y102_2), (3, .int (0 : Int32))]) [1, 2, 3, 0] rfl ?_
      refine t_X8_canBe_L104 N o0 o1 hk0 hk1 N y102_2 (0 : Int32) μ102
def f_X8_canBe (N : Nat) (o0 : Nat) (o1 : Nat) (μ : z_S) : Option (Int32 × z_S) :=
  z_ko true o0 8 <| z_ko true o1 2 <| if (999 : Int32) < (μ.1 o0 0) then (f_X8_canBe_B15 N o0 o1 (0 : Int32) μ) else f_X8_canBe_B15 N o0 o1 (1 : Int32) μ
theorem t_X8_canBe (N : Nat) (o0 : Nat) (o1 : Nat) (μ : z_S) : z_met true rI mX8_canBe 3 [.ref o0, .ref o1] μ (f_X8_canBe N o0 o1 μ) := by
  refine z_met.of (by decide +kernel) (by show _ ≤ _; first | decide | exact Nat.le_of_ble_eq_true rfl) (lv := [(0, .ref o0), (1, .ref o1)]) rfl ?_
  unfold f_X8_canBe
  refine s_ko (fun hk0 => ?_)
  refine s_ko (fun hk1 => ?_)
  refine s_aload_n (pc := 0) 0 dX8_canBe_0 rfl rfl ?_
  refine s_getI (pc := 1) (ci := 8) (k := 0) dX8_canBe_1 fl_8_33 hk0 rfl ?_
  refine s_sipush (pc := 4) (v := (999 : Int32)) dX8_canBe_4 (by decide) ?_
  refine s_icmp_gt (pc := 7) (tgt := 14) dX8_canBe_7 (by decide) ?_ ?_
  · refine s_iconst (pc := 14) (v := (0 : Int32)) dX8_canBe_14 (by decide) ?_
    exact t_X8_canBe_B15 N o0 o1 hk0 hk1 (0 : Int32) μ
  · refine s_iconst (pc := 10) (v := (1 : Int32)) dX8_canBe_10 (by decide) ?_
    refine s_goto (pc := 11) (tgt := 15) dX8_canBe_11 (by decide) ?_
    exact t_X8_canBe_B15 N o0 o1 hk0 hk1 (1 : Int32) μ
