def b_X2_clear_L18 (N : Nat) (o0 : Nat) (kb : Int32 → z_S → Option (Unit × z_S)) (e50 : z_S → Option (Unit × z_S)) (v1 : Int32) (μ : z_S) : Option (Unit × z_S) :=
  if v1 < (8 : Int32) then (z_in v1 8 <| z_bn (f_J7_fill_53178 N (o0 + 11 + v1.toNatClampNeg) (0 : Int32) μ) fun _ μ_3 => z_in v1 8 <| z_bn (f_J7_fill_53178 N (o0 + 20 + v1.toNatClampNeg) (-1 : Int32) μ_3) fun _ μ_4 => z_bd (v1 + 1) fun x1 => kb x1 μ_4) else e50 μ
theorem tb_X2_clear_L18 (N : Nat) (o0 : Nat) (hk0 : z_kw true o0 = (2, 0)) (kb : Int32 → z_S → Option (Unit × z_S)) (e50 : z_S → Option (Unit × z_S)) (hkb : ∀ (a1 : Int32) (μ : z_S), z_sim true rV mX2_clear 1 (kb a1 μ) 18 [(0, .ref o0), (1, .int a1)] [] μ) (he50 : ∀ (μ : z_S), z_sim true rV mX2_clear 1 (e50 μ) 50 [(0, .ref o0)] [] μ) (v1 : Int32) (μ : z_S) : z_sim true rV mX2_clear 1 (b_X2_clear_L18 N o0 kb e50 v1 μ) 18 [(0, .ref o0), (1, .int v1)] [] μ := by
  unfold b_X2_clear_L18
  refine s_iload_n (pc := 18) 1 dX2_clear_18 rfl rfl ?_
  refine s_bipush (pc := 19) (v := (8 : Int32)) dX2_clear_19 (by decide) ?_
  refine s_icmp_ge (pc := 21) (tgt := 50) dX2_clear_21 (by decide) ?_ ?_
  · refine s_aload_n (pc := 24) 0 dX2_clear_24 rfl rfl ?_
    refine s_getR (pc := 25) (ci := 2) (k := 6) (r := (o0 + 10)) dX2_clear_25 fl_2_35 hk0 rfl (gr_2_0_6 hk0) ?_
    refine s_iload_n (pc := 28) 1 dX2_clear_28 rfl rfl ?_
    refine s_aald (pc := 29) (r := (o0 + 11 + v1.toNatClampNeg)) dX2_clear_29 (gk_2_10 hk0) (by decide) (by decide) (fun hi => ga_2_10 hk0 hi) (fun hi1 => ?_)
    refine s_iconst (pc := 30) (v := (0 : Int32)) dX2_clear_30 (by decide) ?_
    refine s_callSV (pc := 31) (as := [.ref (o0 + 11 + v1.toNatClampNeg), .int (0 : Int32)]) (st := []) dX2_clear_31 lk_2_69 (t_J7_fill_53178 N (o0 + 11 + v1.toNatClampNeg) (0 : Int32) μ) (by omega) rfl (by decide) rfl (fun _ μ_3 => ?_)
    refine s_aload_n (pc := 34) 0 dX2_clear_34 rfl rfl ?_
    refine s_getR (pc := 35) (ci := 2) (k := 7) (r := (o0 + 19)) dX2_clear_35 fl_2_38 hk0 rfl (gr_2_0_7 hk0) ?_
    refine s_iload_n (pc := 38) 1 dX2_clear_38 rfl rfl ?_
    refine s_aald (pc := 39) (r := (o0 + 20 + v1.toNatClampNeg)) dX2_clear_39 (gk_2_19 hk0) (by decide) (by decide) (fun hi => ga_2_19 hk0 hi) (fun hi2 => ?_)
    refine s_iconst (pc := 40) (v := (-1 : Int32)) dX2_clear_40 (by decide) ?_
    refine s_callSV (pc := 41) (as := [.ref (o0 + 20 + v1.toNatClampNeg), .int (-1 : Int32)]) (st := []) dX2_clear_41 lk_2_69 (t_J7_fill_53178 N (o0 + 20 + v1.toNatClampNeg) (-1 : Int32) μ_3) (by omega) rfl (by decide) rfl (fun _ μ_4 => ?_)
    refine s_iincB (pc := 44) (lv' := fun x1 => [(1, .int x1), (0, .ref o0)]) (c := 1) 1 dX2_clear_44 rfl (by decide) (by decide) (fun _ => rfl) (fun x1 => ?_)
    refine s_goto (pc := 47) (tgt := 18) dX2_clear_47 (by decide) ?_
    refine s_sub (lv' := [(0, .ref o0), (1, .int x1)]) [1, 0] rfl ?_
    exact hkb x1 μ_4
  · refine s_sub (lv' := [(0, .ref o0)]) [0] rfl ?_
    exact he50 μ
def f_X2_clear_L18 (N : Nat) (o0 : Nat) (e50 : z_S → Option (Unit × z_S)) : Nat → Int32 → z_S → Option (Unit × z_S)
  | 0, _, _ => none
  | n + 1, v1, μ => b_X2_clear_L18 N o0 (f_X2_clear_L18 N o0 e50 n) e50 v1 μ
theorem t_X2_clear_L18 (N : Nat) (o0 : Nat) (hk0 : z_kw true o0 = (2, 0)) (e50 : z_S → Option (Unit × z_S)) (he50 : ∀ (μ : z_S), z_sim true rV mX2_clear 1 (e50 μ) 50 [(0, .ref o0)] [] μ) : ∀ (n : Nat) (v1 : Int32) (μ : z_S), z_sim true rV mX2_clear 1 (f_X2_clear_L18 N o0 e50 n v1 μ) 18 [(0, .ref o0), (1, .int v1)] [] μ
  | 0, _, _ => s_none
  | n + 1, v1, μ => tb_X2_clear_L18 N o0 hk0 (f_X2_clear_L18 N o0 e50 n) e50 (t_X2_clear_L18 N o0 hk0 e50 he50 n) he50 v1 μ
def f_X2_clear (N : Nat) (o0 : Nat) (μ : z_S) : Option (Unit × z_S) :=
  z_ko true o0 2 <| z_bn (f_J7_fill_53178 N (o0 + 1) (0 : Int32) μ) fun _ μ_1 => z_bn (f_J7_fill_53178 N (o0 + 9) (0 : Int32) μ_1) fun _ μ_2 => f_X2_clear_L18 N o0 (fun μ50 => z_bd (z_setI μ50 o0 15 (3 : Int32)) fun μ_5 => z_bd (z_setI μ_5 o0 16 (0 : Int32)) fun μ_6 => z_bd (z_setI μ_6 (o0 + 32) 1 (0 : Int32)) fun μ_7 => z_bn (f_X0_add N (o0 + 32) (20 : Int32) μ_7) fun _ μ_8 => z_bn (f_X0_add N (o0 + 32) (-4 : Int32) μ_8) fun _ μ_9 => z_bd (z_setI μ_9 (o0 + 34) 0 (0 : Int32)) fun μ_10 => z_bd (z_setI μ_10 (o0 + 35) 0 (1 : Int32)) fun μ_11 => z_bd (z_setI μ_11 (o0 + 34) 1 (1 : Int32)) fun μ_12 => z_bd (z_setI μ_12 (o0 + 35) 1 (2 : Int32)) fun μ_13 => some ((), μ_13)) N (0 : Int32) μ_2
theorem t_X2_clear (N : Nat) (o0 : Nat) (μ : z_S) : z_met true rV mX2_clear 1 [.ref o0] μ (f_X2_clear N o0 μ) := by
  refine z_met.of (by decide +kernel) (by show _ ≤ _; first | decide | exact Nat.le_of_ble_eq_true rfl) (lv := [(0, .ref o0)]) rfl ?_
  unfold f_X2_clear
  refine s_ko (fun hk0 => ?_)
  refine s_aload_n (pc := 0) 0 dX2_clear_0 rfl rfl ?_
  refine s_getR (pc := 1) (ci := 2) (k := 0) (r := (o0 + 1)) dX2_clear_1 fl_2_13 hk0 rfl (gr_2_0_0 hk0) ?_
  refine s_iconst (pc := 4) (v := (0 : Int32)) dX2_clear_4 (by decide) ?_
  refine s_callSV (pc := 5) (as := [.ref (o0 + 1), .int (0 : Int32)]) (st := []) dX2_clear_5 lk_2_69 (t_J7_fill_53178 N (o0 + 1) (0 : Int32) μ) (by omega) rfl (by decide) rfl (fun _ μ_1 => ?_)
  refine s_aload_n (pc := 8) 0 dX2_clear_8 rfl rfl ?_
  refine s_getR (pc := 9) (ci := 2) (k := 5) (r := (o0 + 9)) dX2_clear_9 fl_2_32 hk0 rfl (gr_2_0_5 hk0) ?_
  refine s_iconst (pc := 12) (v := (0 : Int32)) dX2_clear_12 (by decide) ?_
  refine s_callSV (pc := 13) (as := [.ref (o0 + 9), .int (0 : Int32)]) (st := []) dX2_clear_13 lk_2_69 (t_J7_fill_53178 N (o0 + 9) (0 : Int32) μ_1) (by omega) rfl (by decide) rfl (fun _ μ_2 => ?_)
  refine s_iconst (pc := 16) (v := (0 : Int32)) dX2_clear_16 (by decide) ?_
  refine s_istore_n (pc := 17) (lv' := [(1, .int (0 : Int32)), (0, .ref o0)]) dX2_clear_17 rfl (by decide) rfl ?_
  refine s_sub (lv' := [(0, .ref o0), (1, .int (0 : Int32))]) [1, 0] rfl ?_
  refine t_X2_clear_L18 N o0 hk0 _ ?_ N (0 : Int32) μ_2
  · intro μ50
    refine s_aload_n (pc := 50) 0 dX2_clear_50 rfl rfl ?_
    refine s_iconst (pc := 51) (v := (3 : Int32)) dX2_clear_51 (by decide) ?_
    refine s_putI (pc := 52) (ci := 2) (k := 15) dX2_clear_52 fl_2_75 hk0 rfl rfl (fun μ_5 => ?_)
    refine s_aload_n (pc := 55) 0 dX2_clear_55 rfl rfl ?_
    refine s_iconst (pc := 56) (v := (0 : Int32)) dX2_clear_56 (by decide) ?_
    refine s_putI (pc := 57) (ci := 2) (k := 16) dX2_clear_57 fl_2_79 hk0 rfl rfl (fun μ_6 => ?_)
    refine s_aload_n (pc := 60) 0 dX2_clear_60 rfl rfl ?_
    refine s_getR (pc := 61) (ci := 2) (k := 12) (r := (o0 + 32)) dX2_clear_61 fl_2_56 hk0 rfl (gr_2_0_12 hk0) ?_
    refine s_iconst (pc := 64) (v := (0 : Int32)) dX2_clear_64 (by decide) ?_
    refine s_putI (pc := 65) (ci := 0) (k := 1) dX2_clear_65 fl_2_82 (gk_2_32 hk0) rfl rfl (fun μ_7 => ?_)
    refine s_aload_n (pc := 68) 0 dX2_clear_68 rfl rfl ?_
    refine s_getR (pc := 69) (ci := 2) (k := 12) (r := (o0 + 32)) dX2_clear_69 fl_2_56 hk0 rfl (gr_2_0_12 hk0) ?_
    refine s_bipush (pc := 72) (v := (20 : Int32)) dX2_clear_72 (by decide) ?_
    refine s_callVV (pc := 74) (as := [.int (20 : Int32)]) (st := []) dX2_clear_74 lk_2_85 (gk_2_32 hk0) (t_X0_add N (o0 + 32) (20 : Int32) μ_7) (by omega) rfl (by decide) rfl (fun _ μ_8 => ?_)
    refine s_aload_n (pc := 77) 0 dX2_clear_77 rfl rfl ?_
    refine s_getR (pc := 78) (ci := 2) (k := 12) (r := (o0 + 32)) dX2_clear_78 fl_2_56 hk0 rfl (gr_2_0_12 hk0) ?_
    refine s_bipush (pc := 81) (v := (-4 : Int32)) dX2_clear_81 (by decide) ?_
    refine s_callVV (pc := 83) (as := [.int (-4 : Int32)]) (st := []) dX2_clear_83 lk_2_85 (gk_2_32 hk0) (t_X0_add N (o0 + 32) (-4 : Int32) μ_8) (by omega) rfl (by decide) rfl (fun _ μ_9 => ?_)
    refine s_aload_n (pc := 86) 0 dX2_clear_86 rfl rfl ?_
    refine s_getR (pc := 87) (ci := 2) (k := 13) (r := (o0 + 34)) dX2_clear_87 fl_2_60 hk0 rfl (gr_2_0_13 hk0) ?_
    refine s_iconst (pc := 90) (v := (0 : Int32)) dX2_clear_90 (by decide) ?_
    refine s_iconst (pc := 91) (v := (0 : Int32)) dX2_clear_91 (by decide) ?_
    refine s_iastK (pc := 92) (k := 0) dX2_clear_92 (gk_2_34 hk0) (by decide) (by decide) (by decide) (fun μ_10 => ?_)
    refine s_aload_n (pc := 93) 0 dX2_clear_93 rfl rfl ?_
    refine s_getR (pc := 94) (ci := 2) (k := 14) (r := (o0 + 35)) dX2_clear_94 fl_2_63 hk0 rfl (gr_2_0_14 hk0) ?_
    refine s_iconst (pc := 97) (v := (0 : Int32)) dX2_clear_97 (by decide) ?_
    refine s_iconst (pc := 98) (v := (1 : Int32)) dX2_clear_98 (by decide) ?_
    refine s_iastK (pc := 99) (k := 0) dX2_clear_99 (gk_2_35 hk0) (by decide) (by decide) (by decide) (fun μ_11 => ?_)
    refine s_aload_n (pc := 100) 0 dX2_clear_100 rfl rfl ?_
    refine s_getR (pc := 101) (ci := 2) (k := 13) (r := (o0 + 34)) dX2_clear_101 fl_2_60 hk0 rfl (gr_2_0_13 hk0) ?_
    refine s_iconst (pc := 104) (v := (1 : Int32)) dX2_clear_104 (by decide) ?_
    refine s_iconst (pc := 105) (v := (1 : Int32)) dX2_clear_105 (by decide) ?_
    refine s_iastK (pc := 106) (k := 1) dX2_clear_106 (gk_2_34 hk0) (by decide) (by decide) (by decide) (fun μ_12 => ?_)
    refine s_aload_n (pc := 107) 0 dX2_clear_107 rfl rfl ?_
    refine s_getR (pc := 108) (ci := 2) (k := 14) (r := (o0 + 35)) dX2_clear_108 fl_2_63 hk0 rfl (gr_2_0_14 hk0) ?_
    refine s_iconst (pc := 111) (v := (1 : Int32)) dX2_clear_111 (by decide) ?_
    refine s_iconst (pc := 112) (v := (2 : Int32)) dX2_clear_112 (by decide) ?_
    refine s_iastK (pc := 113) (k := 1) dX2_clear_113 (gk_2_35 hk0) (by decide) (by decide) (by decide) (fun μ_13 => ?_)
    exact s_vret (pc := 114) dX2_clear_114 rfl
def f_X2_keep (N : Nat) (o0 : Nat) (a1 : Int32) (o2 : Nat) (μ : z_S) : Option (Unit × z_S) :=
  z_ko true o0 2 <| z_ko true o2 0 <| z_in a1 2 <| z_bd (z_setI μ (o0 + 34) a1.toNatClampNeg (μ.1 (o0 + 32) 1)) fun μ_1 => z_bn (f_X0_addAll N (o0 + 32) o2 μ_1) fun _ μ_2 => z_in a1 2 <| z_bd (z_setI μ_2 (o0 + 35) a1.toNatClampNeg (μ_2.1 (o0 + 32) 1)) fun μ_3 => some ((), μ_3)
theorem t_X2_keep (N : Nat) (o0 : Nat) (a1 : Int32) (o2 : Nat) (μ : z_S) : z_met true rV mX2_keep 2 [.ref o0, .int a1, .ref o2] μ (f_X2_keep N o0 a1 o2 μ) := by
  refine z_met.of (by decide +kernel) (by show _ ≤ _; first | decide | exact Nat.le_of_ble_eq_true rfl) (lv := [(0, .ref o0), (1, .int a1), (2, .ref o2)]) rfl ?_
  unfold f_X2_keep
  refine s_ko (fun hk0 => ?_)
  refine s_ko (fun hk2 => ?_)
  refine s_aload_n (pc := 0) 0 dX2_keep_0 rfl rfl ?_
  refine s_getR (pc := 1) (ci := 2) (k := 13) (r := (o0 + 34)) dX2_keep_1 fl_2_60 hk0 rfl (gr_2_0_13 hk0) ?_
  refine s_iload_n (pc := 4) 1 dX2_keep_4 rfl rfl ?_
  refine s_aload_n (pc := 5) 0 dX2_keep_5 rfl rfl ?_
  refine s_getR (pc := 6) (ci := 2) (k := 12) (r := (o0 + 32)) dX2_keep_6 fl_2_56 hk0 rfl (gr_2_0_12 hk0) ?_
  refine s_getI (pc := 9) (ci := 0) (k := 1) dX2_keep_9 fl_2_82 (gk_2_32 hk0) rfl ?_
  refine s_iast (pc := 12) dX2_keep_12 (gk_2_34 hk0) (fun μ_1 => ?_)
  refine s_aload_n (pc := 13) 0 dX2_keep_13 rfl rfl ?_
  refine s_getR (pc := 14) (ci := 2) (k := 12) (r := (o0 + 32)) dX2_keep_14 fl_2_56 hk0 rfl (gr_2_0_12 hk0) ?_
  refine s_aload_n (pc := 17) 2 dX2_keep_17 rfl rfl ?_
  refine s_callVV (pc := 18) (as := [.ref o2]) (st := []) dX2_keep_18 lk_2_89 (gk_2_32 hk0) (t_X0_addAll N (o0 + 32) o2 μ_1) (by omega) rfl (by decide) rfl (fun _ μ_2 => ?_)
  refine s_aload_n (pc := 21) 0 dX2_keep_21 rfl rfl ?_
  refine s_getR (pc := 22) (ci := 2) (k := 14) (r := (o0 + 35)) dX2_keep_22 fl_2_63 hk0 rfl (gr_2_0_14 hk0) ?_
  refine s_iload_n (pc := 25) 1 dX2_keep_25 rfl rfl ?_
  refine s_aload_n (pc := 26) 0 dX2_keep_26 rfl rfl ?_
  refine s_getR (pc := 27) (ci := 2) (k := 12) (r := (o0 + 32)) dX2_keep_27 fl_2_56 hk0 rfl (gr_2_0_12 hk0) ?_
  refine s_getI (pc := 30) (ci := 0) (k := 1) dX2_keep_30 fl_2_82 (gk_2_32 hk0) rfl ?_
  refine s_iast (pc := 33) dX2_keep_33 (gk_2_35 hk0) (fun μ_3 => ?_)
  exact s_vret (pc := 34) dX2_keep_34 rfl
def b_X2_find_L2 (N : Nat) (o0 : Nat) (c1 : Int32) (c2 : Int32) (kb : Int32 → z_S → Option (Int32 × z_S)) (v3 : Int32) (μ : z_S) : Option (Int32 × z_S) :=
  z_in c1 10 <| if v3 < (μ.1 (o0 + 1) c1.toNatClampNeg) then (z_in c1 3 <| z_in v3 8 <| if (μ.1 (o0 + 3 + c1.toNatClampNeg) v3.toNatClampNeg) = c2 then (some (v3, μ)) else z_bd (v3 + 1) fun x1 => kb x1 μ) else some ((-1 : Int32), μ)
theorem tb_X2_find_L2 (N : Nat) (o0 : Nat) (c1 : Int32) (c2 : Int32) (hk0 : z_kw true o0 = (2, 0)) (kb : Int32 → z_S → Option (Int32 × z_S)) (hkb : ∀ (a3 : Int32) (μ : z_S), z_sim true rI mX2_find 0 (kb a3 μ) 2 [(0, .ref o0), (1, .int c1), (2, .int c2), (3, .int a3)] [] μ) (v3 : Int32) (μ : z_S) : z_sim true rI mX2_find 0 (b_X2_find_L2 N o0 c1 c2 kb v3 μ) 2 [(0, .ref o0), (1, .int c1), (2, .int c2), (3, .int v3)] [] μ := by
  unfold b_X2_find_L2
  refine s_iload_n (pc := 2) 3 dX2_find_2 rfl rfl ?_
  refine s_aload_n (pc := 3) 0 dX2_find_3 rfl rfl ?_
  refine s_getR (pc := 4) (ci := 2) (k := 0) (r := (o0 + 1)) dX2_find_4 fl_2_13 hk0 rfl (gr_2_0_0 hk0) ?_
  refine s_iload_n (pc := 7) 1 dX2_find_7 rfl rfl ?_
  refine s_iald (pc := 8) dX2_find_8 (gk_2_1 hk0) ?_
  refine s_icmp_ge (pc := 9) (tgt := 32) dX2_find_9 (by decide) ?_ ?_
  · refine s_aload_n (pc := 12) 0 dX2_find_12 rfl rfl ?_
    refine s_getR (pc := 13) (ci := 2) (k := 1) (r := (o0 + 2)) dX2_find_13 fl_2_20 hk0 rfl (gr_2_0_1 hk0) ?_
    refine s_iload_n (pc := 16) 1 dX2_find_16 rfl rfl ?_
    refine s_aald (pc := 17) (r := (o0 + 3 + c1.toNatClampNeg)) dX2_find_17 (gk_2_2 hk0) (by decide) (by decide) (fun hi => ga_2_2 hk0 hi) (fun hi1 => ?_)
    refine s_iload_n (pc := 18) 3 dX2_find_18 rfl rfl ?_
    refine s_iald (pc := 19) dX2_find_19 (gb_2_2 hk0 hi1) ?_
    refine s_iload_n (pc := 20) 2 dX2_find_20 rfl rfl ?_
    refine s_icmp_ne (pc := 21) (tgt := 26) dX2_find_21 (by decide) ?_ ?_
    · refine s_iload_n (pc := 24) 3 dX2_find_24 rfl rfl ?_
      exact s_iret (pc := 25) rfl dX2_find_25 rfl
    · refine s_iincB (pc := 26) (lv' := fun x1 => [(3, .int x1), (0, .ref o0), (1, .int c1), (2, .int c2)]) (c := 1) 3 dX2_find_26 rfl (by decide) (by decide) (fun _ => rfl) (fun x1 => ?_)
      refine s_goto (pc := 29) (tgt := 2) dX2_find_29 (by decide) ?_
      refine s_sub (lv' := [(0, .ref o0), (1, .int c1), (2, .int c2), (3, .int x1)]) [1, 2, 3, 0] rfl ?_
      exact hkb x1 μ
  · refine s_iconst (pc := 32) (v := (-1 : Int32)) dX2_find_32 (by decide) ?_
    exact s_iret (pc := 33) rfl dX2_find_33 rfl
def f_X2_find_L2 (N : Nat) (o0 : Nat) (c1 : Int32) (c2 : Int32) : Nat → Int32 → z_S → Option (Int32 × z_S)
  | 0, _, _ => none
  | n + 1, v3, μ => b_X2_find_L2 N o0 c1 c2 (f_X2_find_L2 N o0 c1 c2 n) v3 μ
theorem t_X2_find_L2 (N : Nat) (o0 : Nat) (c1 : Int32) (c2 : Int32) (hk0 : z_kw true o0 = (2, 0)) : ∀ (n : Nat) (v3 : Int32) (μ : z_S), z_sim true rI mX2_find 0 (f_X2_find_L2 N o0 c1 c2 n v3 μ) 2 [(0, .ref o0), (1, .int c1), (2, .int c2), (3, .int v3)] [] μ
  | 0, _, _ => s_none
  | n + 1, v3, μ => tb_X2_find_L2 N o0 c1 c2 hk0 (f_X2_find_L2 N o0 c1 c2 n) (t_X2_find_L2 N o0 c1 c2 hk0 n) v3 μ
def f_X2_find (N : Nat) (o0 : Nat) (a1 : Int32) (a2 : Int32) (μ : z_S) : Option (Int32 × z_S) :=
  z_ko true o0 2 <| f_X2_find_L2 N o0 a1 a2 N (0 : Int32) μ
theorem t_X2_find (N : Nat) (o0 : Nat) (a1 : Int32) (a2 : Int32) (μ : z_S) : z_met true rI mX2_find 0 [.ref o0, .int a1, .int a2] μ (f_X2_find N o0 a1 a2 μ) := by
  refine z_met.of (by decide +kernel) (by show _ ≤ _; first | decide | exact Nat.le_of_ble_eq_true rfl) (lv := [(0, .ref o0), (1, .int a1), (2, .int a2)]) rfl ?_
  unfold f_X2_find
  refine s_ko (fun hk0 => ?_)
  refine s_iconst (pc := 0) (v := (0 : Int32)) dX2_find_0 (by decide) ?_
  refine s_istore_n (pc := 1) (lv' := [(3, .int (0 : Int32)), (0, .ref o0), (1, .int a1), (2, .int a2)]) dX2_find_1 rfl (by decide) rfl ?_
  refine s_sub (lv' := [(0, .ref o0), (1, .int a1), (2, .int a2), (3, .int (0 : Int32))]) [1, 2, 3, 0] rfl ?_
  refine t_X2_find_L2 N o0 a1 a2 hk0 N (0 : Int32) μ
def f_X2_isNear (N : Nat) (o0 : Nat) (a1 : Int32) (a2 : Int32) (μ : z_S) : Option (Int32 × z_S) :=
  z_ko true o0 2 <| z_in a1 8 <| if (((μ.1 (o0 + 9) a1.toNatClampNeg) >>> (a2 &&& 31)) &&& (1 : Int32)) = (1 : Int32) then (some ((1 : Int32), μ)) else some ((0 : Int32), μ)
theorem t_X2_isNear (N : Nat) (o0 : Nat) (a1 : Int32) (a2 : Int32) (μ : z_S) : z_met true rI mX2_isNear 0 [.ref o0, .int a1, .int a2] μ (f_X2_isNear N o0 a1 a2 μ) := by
  refine z_met.of (by decide +kernel) (by show _ ≤ _; first | decide | exact Nat.le_of_ble_eq_true rfl) (lv := [(0, .ref o0), (1, .int a1), (2, .int a2)]) rfl ?_
  unfold f_X2_isNear
  refine s_ko (fun hk0 => ?_)
  refine s_aload_n (pc := 0) 0 dX2_isNear_0 rfl rfl ?_
  refine s_getR (pc := 1) (ci := 2) (k := 5) (r := (o0 + 9)) dX2_isNear_1 fl_2_32 hk0 rfl (gr_2_0_5 hk0) ?_
  refine s_iload_n (pc := 4) 1 dX2_isNear_4 rfl rfl ?_
  refine s_iald (pc := 5) dX2_isNear_5 (gk_2_9 hk0) ?_
  refine s_iload_n (pc := 6) 2 dX2_isNear_6 rfl rfl ?_
  refine s_ishr (pc := 7) dX2_isNear_7 ?_
  refine s_iconst (pc := 8) (v := (1 : Int32)) dX2_isNear_8 (by decide) ?_
  refine s_iand (pc := 9) dX2_isNear_9 ?_
  refine s_iconst (pc := 10) (v := (1 : Int32)) dX2_isNear_10 (by decide) ?_
  refine s_icmp_ne (pc := 11) (tgt := 18) dX2_isNear_11 (by decide) ?_ ?_
  · refine s_iconst (pc := 14) (v := (1 : Int32)) dX2_isNear_14 (by decide) ?_
    refine s_goto (pc := 15) (tgt := 19) dX2_isNear_15 (by decide) ?_
    exact s_zret0 (pc := 19) dX2_isNear_19 rfl rfl
  · refine s_iconst (pc := 18) (v := (0 : Int32)) dX2_isNear_18 (by decide) ?_
    exact s_zret0 (pc := 19) dX2_isNear_19 rfl rfl
def b_X2_allWishes_L4 (N : Nat) (o0 : Nat) (c1 : Int32) (kb : Int32 → Int32 → z_S → Option (Int32 × z_S)) (v2 : Int32) (v3 : Int32) (μ : z_S) : Option (Int32 × z_S) :=
  if v3 < (μ.1 (o0 + 1) 1) then (z_in c1 8 <| z_in v3 4 <| z_bd (v2 + (μ.1 (o0 + 11 + c1.toNatClampNeg) v3.toNatClampNeg)) fun x1 => z_bd (v3 + 1) fun x2 => kb x1 x2 μ) else some (v2, μ)
theorem tb_X2_allWishes_L4 (N : Nat) (o0 : Nat) (c1 : Int32) (hk0 : z_kw true o0 = (2, 0)) (kb : Int32 → Int32 → z_S → Option (Int32 × z_S)) (hkb : ∀ (a2 : Int32) (a3 : Int32) (μ : z_S), z_sim true rI mX2_allWishes 0 (kb a2 a3 μ) 4 [(0, .ref o0), (1, .int c1), (2, .int a2), (3, .int a3)] [] μ) (v2 : Int32) (v3 : Int32) (μ : z_S) : z_sim true rI mX2_allWishes 0 (b_X2_allWishes_L4 N o0 c1 kb v2 v3 μ) 4 [(0, .ref o0), (1, .int c1), (2, .int v2), (3, .int v3)] [] μ := by
  unfold b_X2_allWishes_L4
  refine s_iload_n (pc := 4) 3 dX2_allWishes_4 rfl rfl ?_
  refine s_aload_n (pc := 5) 0 dX2_allWishes_5 rfl rfl ?_
  refine s_getR (pc := 6) (ci := 2) (k := 0) (r := (o0 + 1)) dX2_allWishes_6 fl_2_13 hk0 rfl (gr_2_0_0 hk0) ?_
  refine s_iconst (pc := 9) (v := (1 : Int32)) dX2_allWishes_9 (by decide) ?_
  refine s_ialdK (pc := 10) (k := 1) dX2_allWishes_10 (gk_2_1 hk0) (by decide) (by decide) (by decide) ?_
  refine s_icmp_ge (pc := 11) (tgt := 31) dX2_allWishes_11 (by decide) ?_ ?_
  · refine s_iload_n (pc := 14) 2 dX2_allWishes_14 rfl rfl ?_
    refine s_aload_n (pc := 15) 0 dX2_allWishes_15 rfl rfl ?_
    refine s_getR (pc := 16) (ci := 2) (k := 6) (r := (o0 + 10)) dX2_allWishes_16 fl_2_35 hk0 rfl (gr_2_0_6 hk0) ?_
    refine s_iload_n (pc := 19) 1 dX2_allWishes_19 rfl rfl ?_
    refine s_aald (pc := 20) (r := (o0 + 11 + c1.toNatClampNeg)) dX2_allWishes_20 (gk_2_10 hk0) (by decide) (by decide) (fun hi => ga_2_10 hk0 hi) (fun hi1 => ?_)
    refine s_iload_n (pc := 21) 3 dX2_allWishes_21 rfl rfl ?_
    refine s_iald (pc := 22) dX2_allWishes_22 (gb_2_10 hk0 hi1) ?_
    refine s_iadd (pc := 23) dX2_allWishes_23 ?_
    refine s_letI (fun x1 => ?_)
    refine s_istore_n (pc := 24) (lv' := [(2, .int x1), (0, .ref o0), (1, .int c1), (3, .int v3)]) dX2_allWishes_24 rfl (by decide) rfl ?_
    refine s_iincB (pc := 25) (lv' := fun x2 => [(3, .int x2), (2, .int x1), (0, .ref o0), (1, .int c1)]) (c := 1) 3 dX2_allWishes_25 rfl (by decide) (by decide) (fun _ => rfl) (fun x2 => ?_)
    refine s_goto (pc := 28) (tgt := 4) dX2_allWishes_28 (by decide) ?_
    refine s_sub (lv' := [(0, .ref o0), (1, .int c1), (2, .int x1), (3, .int x2)]) [2, 3, 1, 0] rfl ?_
    exact hkb x1 x2 μ
  · refine s_iload_n (pc := 31) 2 dX2_allWishes_31 rfl rfl ?_
    exact s_iret (pc := 32) rfl dX2_allWishes_32 rfl
def f_X2_allWishes_L4 (N : Nat) (o0 : Nat) (c1 : Int32) : Nat → Int32 → Int32 → z_S → Option (Int32 × z_S)
  | 0, _, _, _ => none
  | n + 1, v2, v3, μ => b_X2_allWishes_L4 N o0 c1 (f_X2_allWishes_L4 N o0 c1 n) v2 v3 μ
theorem t_X2_allWishes_L4 (N : Nat) (o0 : Nat) (c1 : Int32) (hk0 : z_kw true o0 = (2, 0)) : ∀ (n : Nat) (v2 : Int32) (v3 : Int32) (μ : z_S), z_sim true rI mX2_allWishes 0 (f_X2_allWishes_L4 N o0 c1 n v2 v3 μ) 4 [(0, .ref o0), (1, .int c1), (2, .int v2), (3, .int v3)] [] μ
  | 0, _, _, _ => s_none
  | n + 1, v2, v3, μ => tb_X2_allWishes_L4 N o0 c1 hk0 (f_X2_allWishes_L4 N o0 c1 n) (t_X2_allWishes_L4 N o0 c1 hk0 n) v2 v3 μ
def f_X2_allWishes (N : Nat) (o0 : Nat) (a1 : Int32) (μ : z_S) : Option (Int32 × z_S) :=
  z_ko true o0 2 <| f_X2_allWishes_L4 N o0 a1 N (0 : Int32) (0 : Int32) μ
theorem t_X2_allWishes (N : Nat) (o0 : Nat) (a1 : Int32) (μ : z_S) : z_met true rI mX2_allWishes 0 [.ref o0, .int a1] μ (f_X2_allWishes N o0 a1 μ) := by
  refine z_met.of (by decide +kernel) (by show _ ≤ _; first | decide | exact Nat.le_of_ble_eq_true rfl) (lv := [(0, .ref o0), (1, .int a1)]) rfl ?_
  unfold f_X2_allWishes
  refine s_ko (fun hk0 => ?_)
  refine s_iconst (pc := 0) (v := (0 : Int32)) dX2_allWishes_0 (by decide) ?_
  refine s_istore_n (pc := 1) (lv' := [(2, .int (0 : Int32)), (0, .ref o0), (1, .int a1)]) dX2_allWishes_1 rfl (by decide) rfl ?_
  refine s_iconst (pc := 2) (v := (0 : Int32)) dX2_allWishes_2 (by decide) ?_
  refine s_istore_n (pc := 3) (lv' := [(3, .int (0 : Int32)), (2, .int (0 : Int32)), (0, .ref o0), (1, .int a1)]) dX2_allWishes_3 rfl (by decide) rfl ?_
  refine s_sub (lv' := [(0, .ref o0), (1, .int a1), (2, .int (0 : Int32)), (3, .int (0 : Int32))]) [2, 3, 1, 0] rfl ?_
  refine t_X2_allWishes_L4 N o0 a1 hk0 N (0 : Int32) (0 : Int32) μ
def f_X2_lossFrom_B48 (N : Nat) (o0 : Nat) (c1 : Int32) (kb : Int32 → Int32 → z_S → Option (Int32 × z_S)) (v3 : Int32) (s0 : Int32) (s1 : Int32) (μ : z_S) : Option (Int32 × z_S) :=
  z_bd (s1 + s0) fun x1 => z_bd (v3 + 1) fun x2 => kb x1 x2 μ
theorem t_X2_lossFrom_B48 (N : Nat) (o0 : Nat) (c1 : Int32) (hk0 : z_kw true o0 = (2, 0)) (kb : Int32 → Int32 → z_S → Option (Int32 × z_S)) (hkb : ∀ (a2 : Int32) (a3 : Int32) (μ : z_S), z_sim true rI mX2_lossFrom 0 (kb a2 a3 μ) 4 [(0, .ref o0), (1, .int c1), (2, .int a2), (3, .int a3)] [] μ) (v3 : Int32) (s0 : Int32) (s1 : Int32)  (μ : z_S) : z_sim true rI mX2_lossFrom 0 (f_X2_lossFrom_B48 N o0 c1 kb v3 s0 s1 μ) 48 [(0, .ref o0), (1, .int c1), (3, .int v3)] [.int s0, .int s1] μ := by
  unfold f_X2_lossFrom_B48
  refine s_iadd (pc := 48) dX2_lossFrom_48 ?_
  refine s_letI (fun x1 => ?_)
  refine s_istore_n (pc := 49) (lv' := [(2, .int x1), (0, .ref o0), (1, .int c1), (3, .int v3)]) dX2_lossFrom_49 rfl (by decide) rfl ?_
  refine s_iincB (pc := 50) (lv' := fun x2 => [(3, .int x2), (2, .int x1), (0, .ref o0), (1, .int c1)]) (c := 1) 3 dX2_lossFrom_50 rfl (by decide) (by decide) (fun _ => rfl) (fun x2 => ?_)
  refine s_goto (pc := 53) (tgt := 4) dX2_lossFrom_53 (by decide) ?_
  refine s_sub (lv' := [(0, .ref o0), (1, .int c1), (2, .int x1), (3, .int x2)]) [2, 3, 1, 0] rfl ?_
  exact hkb x1 x2 μ
def b_X2_lossFrom_L4 (N : Nat) (o0 : Nat) (c1 : Int32) (kb : Int32 → Int32 → z_S → Option (Int32 × z_S)) (v2 : Int32) (v3 : Int32) (μ : z_S) : Option (Int32 × z_S) :=
  if v3 < (μ.1 (o0 + 1) 0) then (z_in v3 8 <| if (μ.1 (o0 + 8) v3.toNatClampNeg) < c1 then (z_in v3 8 <| f_X2_lossFrom_B48 N o0 c1 kb v3 ((μ.1 o0 15) * (μ.1 (o0 + 8) v3.toNatClampNeg)) v2 μ) else z_in v3 8 <| f_X2_lossFrom_B48 N o0 c1 kb v3 ((10 : Int32) - (μ.1 (o0 + 8) v3.toNatClampNeg)) v2 μ) else some (v2, μ)
theorem tb_X2_lossFrom_L4 (N : Nat) (o0 : Nat) (c1 : Int32) (hk0 : z_kw true o0 = (2, 0)) (kb : Int32 → Int32 → z_S → Option (Int32 × z_S)) (hkb : ∀ (a2 : Int32) (a3 : Int32) (μ : z_S), z_sim true rI mX2_lossFrom 0 (kb a2 a3 μ) 4 [(0, .ref o0), (1, .int c1), (2, .int a2), (3, .int a3)] [] μ) (v2 : Int32) (v3 : Int32) (μ : z_S) : z_sim true rI mX2_lossFrom 0 (b_X2_lossFrom_L4 N o0 c1 kb v2 v3 μ) 4 [(0, .ref o0), (1, .int c1), (2, .int v2), (3, .int v3)] [] μ := by
  unfold b_X2_lossFrom_L4
  refine s_iload_n (pc := 4) 3 dX2_lossFrom_4 rfl rfl ?_
  refine s_aload_n (pc := 5) 0 dX2_lossFrom_5 rfl rfl ?_
  refine s_getR (pc := 6) (ci := 2) (k := 0) (r := (o0 + 1)) dX2_lossFrom_6 fl_2_13 hk0 rfl (gr_2_0_0 hk0) ?_
  refine s_iconst (pc := 9) (v := (0 : Int32)) dX2_lossFrom_9 (by decide) ?_
  refine s_ialdK (pc := 10) (k := 0) dX2_lossFrom_10 (gk_2_1 hk0) (by decide) (by decide) (by decide) ?_
  refine s_icmp_ge (pc := 11) (tgt := 56) dX2_lossFrom_11 (by decide) ?_ ?_
  · refine s_iload_n (pc := 14) 2 dX2_lossFrom_14 rfl rfl ?_
    refine s_aload_n (pc := 15) 0 dX2_lossFrom_15 rfl rfl ?_
    refine s_getR (pc := 16) (ci := 2) (k := 4) (r := (o0 + 8)) dX2_lossFrom_16 fl_2_29 hk0 rfl (gr_2_0_4 hk0) ?_
    refine s_iload_n (pc := 19) 3 dX2_lossFrom_19 rfl rfl ?_
    refine s_iald (pc := 20) dX2_lossFrom_20 (gk_2_8 hk0) ?_
    refine s_iload_n (pc := 21) 1 dX2_lossFrom_21 rfl rfl ?_
    refine s_icmp_lt (pc := 22) (tgt := 37) dX2_lossFrom_22 (by decide) ?_ ?_
    · refine s_aload_n (pc := 37) 0 dX2_lossFrom_37 rfl rfl ?_
      refine s_getI (pc := 38) (ci := 2) (k := 15) dX2_lossFrom_38 fl_2_75 hk0 rfl ?_
      refine s_aload_n (pc := 41) 0 dX2_lossFrom_41 rfl rfl ?_
      refine s_getR (pc := 42) (ci := 2) (k := 4) (r := (o0 + 8)) dX2_lossFrom_42 fl_2_29 hk0 rfl (gr_2_0_4 hk0) ?_
      refine s_iload_n (pc := 45) 3 dX2_lossFrom_45 rfl rfl ?_
      refine s_iald (pc := 46) dX2_lossFrom_46 (gk_2_8 hk0) ?_
      refine s_imul (pc := 47) dX2_lossFrom_47 ?_
      refine s_sub (lv' := [(0, .ref o0), (1, .int c1), (3, .int v3)]) [0, 1, 3] rfl ?_
      exact t_X2_lossFrom_B48 N o0 c1 hk0 kb hkb v3 ((μ.1 o0 15) * (μ.1 (o0 + 8) v3.toNatClampNeg)) v2 μ
    · refine s_bipush (pc := 25) (v := (10 : Int32)) dX2_lossFrom_25 (by decide) ?_
      refine s_aload_n (pc := 27) 0 dX2_lossFrom_27 rfl rfl ?_
      refine s_getR (pc := 28) (ci := 2) (k := 4) (r := (o0 + 8)) dX2_lossFrom_28 fl_2_29 hk0 rfl (gr_2_0_4 hk0) ?_
      refine s_iload_n (pc := 31) 3 dX2_lossFrom_31 rfl rfl ?_
      refine s_iald (pc := 32) dX2_lossFrom_32 (gk_2_8 hk0) ?_
      refine s_isub (pc := 33) dX2_lossFrom_33 ?_
      refine s_goto (pc := 34) (tgt := 48) dX2_lossFrom_34 (by decide) ?_
      refine s_sub (lv' := [(0, .ref o0), (1, .int c1), (3, .int v3)]) [0, 1, 3] rfl ?_
      exact t_X2_lossFrom_B48 N o0 c1 hk0 kb hkb v3 ((10 : Int32) - (μ.1 (o0 + 8) v3.toNatClampNeg)) v2 μ
  · refine s_iload_n (pc := 56) 2 dX2_lossFrom_56 rfl rfl ?_
    exact s_iret (pc := 57) rfl dX2_lossFrom_57 rfl
def f_X2_lossFrom_L4 (N : Nat) (o0 : Nat) (c1 : Int32) : Nat → Int32 → Int32 → z_S → Option (Int32 × z_S)
  | 0, _, _, _ => none
  | n + 1, v2, v3, μ => b_X2_lossFrom_L4 N o0 c1 (f_X2_lossFrom_L4 N o0 c1 n) v2 v3 μ
theorem t_X2_lossFrom_L4 (N : Nat) (o0 : Nat) (c1 : Int32) (hk0 : z_kw true o0 = (2, 0)) : ∀ (n : Nat) (v2 : Int32) (v3 : Int32) (μ : z_S), z_sim true rI mX2_lossFrom 0 (f_X2_lossFrom_L4 N o0 c1 n v2 v3 μ) 4 [(0, .ref o0), (1, .int c1), (2, .int v2), (3, .int v3)] [] μ
  | 0, _, _, _ => s_none
  | n + 1, v2, v3, μ => tb_X2_lossFrom_L4 N o0 c1 hk0 (f_X2_lossFrom_L4 N o0 c1 n) (t_X2_lossFrom_L4 N o0 c1 hk0 n) v2 v3 μ
def f_X2_lossFrom (N : Nat) (o0 : Nat) (a1 : Int32) (μ : z_S) : Option (Int32 × z_S) :=
  z_ko true o0 2 <| f_X2_lossFrom_L4 N o0 a1 N (0 : Int32) (0 : Int32) μ
theorem t_X2_lossFrom (N : Nat) (o0 : Nat) (a1 : Int32) (μ : z_S) : z_met true rI mX2_lossFrom 0 [.ref o0, .int a1] μ (f_X2_lossFrom N o0 a1 μ) := by
  refine z_met.of (by decide +kernel) (by show _ ≤ _; first | decide | exact Nat.le_of_ble_eq_true rfl) (lv := [(0, .ref o0), (1, .int a1)]) rfl ?_
  unfold f_X2_lossFrom
  refine s_ko (fun hk0 => ?_)
  refine s_iconst (pc := 0) (v := (0 : Int32)) dX2_lossFrom_0 (by decide) ?_
  refine s_istore_n (pc := 1) (lv' := [(2, .int (0 : Int32)), (0, .ref o0), (1, .int a1)]) dX2_lossFrom_1 rfl (by decide) rfl ?_
  refine s_iconst (pc := 2) (v := (0 : Int32)) dX2_lossFrom_2 (by decide) ?_
  refine s_istore_n (pc := 3) (lv' := [(3, .int (0 : Int32)), (2, .int (0 : Int32)), (0, .ref o0), (1, .int a1)]) dX2_lossFrom_3 rfl (by decide) rfl ?_
  refine s_sub (lv' := [(0, .ref o0), (1, .int a1), (2, .int (0 : Int32)), (3, .int (0 : Int32))]) [2, 3, 1, 0] rfl ?_
  refine t_X2_lossFrom_L4 N o0 a1 hk0 N (0 : Int32) (0 : Int32) μ
