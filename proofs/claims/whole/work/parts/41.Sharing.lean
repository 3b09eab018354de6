def b_X6_isWithin_L2 (N : Nat) (c0 : Int32) (c1 : Int32) (kb : Int32 → z_S → Option (Int32 × z_S)) (v2 : Int32) (μ : z_S) : Option (Int32 × z_S) :=
  if v2 < (8 : Int32) then (if ((c1 >>> (v2 &&& 31)) &&& (3 : Int32)) < ((c0 >>> (v2 &&& 31)) &&& (3 : Int32)) then (some ((0 : Int32), μ)) else z_bd (v2 + 2) fun x1 => kb x1 μ) else some ((1 : Int32), μ)
theorem tb_X6_isWithin_L2 (N : Nat) (c0 : Int32) (c1 : Int32) (kb : Int32 → z_S → Option (Int32 × z_S)) (hkb : ∀ (a2 : Int32) (μ : z_S), z_sim true rI mX6_isWithin 0 (kb a2 μ) 2 [(0, .int c0), (1, .int c1), (2, .int a2)] [] μ) (v2 : Int32) (μ : z_S) : z_sim true rI mX6_isWithin 0 (b_X6_isWithin_L2 N c0 c1 kb v2 μ) 2 [(0, .int c0), (1, .int c1), (2, .int v2)] [] μ := by
  unfold b_X6_isWithin_L2
  refine s_iload_n (pc := 2) 2 dX6_isWithin_2 rfl rfl ?_
  refine s_bipush (pc := 3) (v := (8 : Int32)) dX6_isWithin_3 (by decide) ?_
  refine s_icmp_ge (pc := 5) (tgt := 29) dX6_isWithin_5 (by decide) ?_ ?_
  · refine s_iload_n (pc := 8) 0 dX6_isWithin_8 rfl rfl ?_
    refine s_iload_n (pc := 9) 2 dX6_isWithin_9 rfl rfl ?_
    refine s_ishr (pc := 10) dX6_isWithin_10 ?_
    refine s_iconst (pc := 11) (v := (3 : Int32)) dX6_isWithin_11 (by decide) ?_
    refine s_iand (pc := 12) dX6_isWithin_12 ?_
    refine s_iload_n (pc := 13) 1 dX6_isWithin_13 rfl rfl ?_
    refine s_iload_n (pc := 14) 2 dX6_isWithin_14 rfl rfl ?_
    refine s_ishr (pc := 15) dX6_isWithin_15 ?_
    refine s_iconst (pc := 16) (v := (3 : Int32)) dX6_isWithin_16 (by decide) ?_
    refine s_iand (pc := 17) dX6_isWithin_17 ?_
    refine s_icmp_le (pc := 18) (tgt := 23) dX6_isWithin_18 (by decide) ?_ ?_
    · refine s_iconst (pc := 21) (v := (0 : Int32)) dX6_isWithin_21 (by decide) ?_
      exact s_zret0 (pc := 22) dX6_isWithin_22 rfl rfl
    · refine s_iincB (pc := 23) (lv' := fun x1 => [(2, .int x1), (0, .int c0), (1, .int c1)]) (c := 2) 2 dX6_isWithin_23 rfl (by decide) (by decide) (fun _ => rfl) (fun x1 => ?_)
      refine s_goto (pc := 26) (tgt := 2) dX6_isWithin_26 (by decide) ?_
      refine s_sub (lv' := [(0, .int c0), (1, .int c1), (2, .int x1)]) [1, 2, 0] rfl ?_
      exact hkb x1 μ
  · refine s_iconst (pc := 29) (v := (1 : Int32)) dX6_isWithin_29 (by decide) ?_
    exact s_zret0 (pc := 30) dX6_isWithin_30 rfl rfl
def f_X6_isWithin_L2 (N : Nat) (c0 : Int32) (c1 : Int32) : Nat → Int32 → z_S → Option (Int32 × z_S)
  | 0, _, _ => none
  | n + 1, v2, μ => b_X6_isWithin_L2 N c0 c1 (f_X6_isWithin_L2 N c0 c1 n) v2 μ
theorem t_X6_isWithin_L2 (N : Nat) (c0 : Int32) (c1 : Int32) : ∀ (n : Nat) (v2 : Int32) (μ : z_S), z_sim true rI mX6_isWithin 0 (f_X6_isWithin_L2 N c0 c1 n v2 μ) 2 [(0, .int c0), (1, .int c1), (2, .int v2)] [] μ
  | 0, _, _ => s_none
  | n + 1, v2, μ => tb_X6_isWithin_L2 N c0 c1 (f_X6_isWithin_L2 N c0 c1 n) (t_X6_isWithin_L2 N c0 c1 n) v2 μ
def f_X6_isWithin (N : Nat) (a0 : Int32) (a1 : Int32) (μ : z_S) : Option (Int32 × z_S) :=
  f_X6_isWithin_L2 N a0 a1 N (0 : Int32) μ
theorem t_X6_isWithin (N : Nat) (a0 : Int32) (a1 : Int32) (μ : z_S) : z_met true rI mX6_isWithin 0 [.int a0, .int a1] μ (f_X6_isWithin N a0 a1 μ) := by
  refine z_met.of (by decide +kernel) (by show _ ≤ _; first | decide | exact Nat.le_of_ble_eq_true rfl) (lv := [(0, .int a0), (1, .int a1)]) rfl ?_
  unfold f_X6_isWithin
  refine s_iconst (pc := 0) (v := (0 : Int32)) dX6_isWithin_0 (by decide) ?_
  refine s_istore_n (pc := 1) (lv' := [(2, .int (0 : Int32)), (0, .int a0), (1, .int a1)]) dX6_isWithin_1 rfl (by decide) rfl ?_
  refine s_sub (lv' := [(0, .int a0), (1, .int a1), (2, .int (0 : Int32))]) [1, 2, 0] rfl ?_
  refine t_X6_isWithin_L2 N a0 a1 N (0 : Int32) μ
def f_X6_mostBy (N : Nat) (o1 : Nat) (a2 : Int32) (a3 : Int32) (a4 : Int32) (μ : z_S) : Option (Int32 × z_S) :=
  z_ko true o1 2 <| if ((a3 >>> (((2 : Int32) * a4) &&& 31)) &&& (3 : Int32)) = 0 then (some ((-1 : Int32), μ)) else z_in a2 8 <| z_bd (μ.1 23 a2.toNatClampNeg) fun x1 => z_in x1 8 <| z_in x1 8 <| z_in a4 4 <| z_in (a2 + (1 : Int32)) 9 <| z_in (a3 - ((1 : Int32) <<< (((2 : Int32) * a4) &&& 31))) 256 <| some ((((μ.1 (o1 + 7) x1.toNatClampNeg) * (μ.1 (o1 + 11 + x1.toNatClampNeg) a4.toNatClampNeg)) + (μ.1 (25 + (a2 + (1 : Int32)).toNatClampNeg) (a3 - ((1 : Int32) <<< (((2 : Int32) * a4) &&& 31))).toNatClampNeg)), μ)
theorem t_X6_mostBy (N : Nat) (o1 : Nat) (a2 : Int32) (a3 : Int32) (a4 : Int32) (μ : z_S) : z_met true rI mX6_mostBy 0 [.ref 21, .ref o1, .int a2, .int a3, .int a4] μ (f_X6_mostBy N o1 a2 a3 a4 μ) := by
  refine z_met.of (by decide +kernel) (by show _ ≤ _; first | decide | exact Nat.le_of_ble_eq_true rfl) (lv := [(0, .ref 21), (1, .ref o1), (2, .int a2), (3, .int a3), (4, .int a4)]) rfl ?_
  unfold f_X6_mostBy
  refine s_ko (fun hk1 => ?_)
  refine s_iload_n (pc := 0) 3 dX6_mostBy_0 rfl rfl ?_
  refine s_iconst (pc := 1) (v := (2 : Int32)) dX6_mostBy_1 (by decide) ?_
  refine s_iload (pc := 2) 4 dX6_mostBy_2 rfl ?_
  refine s_imul (pc := 4) dX6_mostBy_4 ?_
  refine s_ishr (pc := 5) dX6_mostBy_5 ?_
  refine s_iconst (pc := 6) (v := (3 : Int32)) dX6_mostBy_6 (by decide) ?_
  refine s_iand (pc := 7) dX6_mostBy_7 ?_
  refine s_if_ne (pc := 8) (tgt := 13) dX6_mostBy_8 (by decide) ?_ ?_
  · refine s_iconst (pc := 11) (v := (-1 : Int32)) dX6_mostBy_11 (by decide) ?_
    exact s_iret (pc := 12) rfl dX6_mostBy_12 rfl
  · refine s_aload_n (pc := 13) 0 dX6_mostBy_13 rfl rfl ?_
    refine s_getR (pc := 14) (ci := 6) (k := 2) (r := 23) dX6_mostBy_14 fl_6_15 kd_21 rfl rs_21_2 ?_
    refine s_iload_n (pc := 17) 2 dX6_mostBy_17 rfl rfl ?_
    refine s_iald (pc := 18) dX6_mostBy_18 kd_23 ?_
    refine s_letI (fun x1 => ?_)
    refine s_istore (pc := 19) (lv' := [(5, .int x1), (0, .ref 21), (1, .ref o1), (2, .int a2), (3, .int a3), (4, .int a4)]) dX6_mostBy_19 (by decide) rfl ?_
    refine s_aload_n (pc := 21) 2 dX6_mostBy_21 rfl rfl ?_
    refine s_getR (pc := 22) (ci := 2) (k := 3) (r := (o1 + 7)) dX6_mostBy_22 fl_6_33 hk1 rfl (gr_2_0_3 hk1) ?_
    refine s_iload (pc := 25) 0 dX6_mostBy_25 rfl ?_
    refine s_iald (pc := 27) dX6_mostBy_27 (gk_2_7 hk1) ?_
    refine s_aload_n (pc := 28) 2 dX6_mostBy_28 rfl rfl ?_
    refine s_getR (pc := 29) (ci := 2) (k := 6) (r := (o1 + 10)) dX6_mostBy_29 fl_6_75 hk1 rfl (gr_2_0_6 hk1) ?_
    refine s_iload (pc := 32) 0 dX6_mostBy_32 rfl ?_
    refine s_aald (pc := 34) (r := (o1 + 11 + x1.toNatClampNeg)) dX6_mostBy_34 (gk_2_10 hk1) (by decide) (by decide) (fun hi => ga_2_10 hk1 hi) (fun hi1 => ?_)
    refine s_iload (pc := 35) 5 dX6_mostBy_35 rfl ?_
    refine s_iald (pc := 37) dX6_mostBy_37 (gb_2_10 hk1 hi1) ?_
    refine s_imul (pc := 38) dX6_mostBy_38 ?_
    refine s_aload_n (pc := 39) 1 dX6_mostBy_39 rfl rfl ?_
    refine s_getR (pc := 40) (ci := 6) (k := 3) (r := 24) dX6_mostBy_40 fl_6_20 kd_21 rfl rs_21_3 ?_
    refine s_iload_n (pc := 43) 3 dX6_mostBy_43 rfl rfl ?_
    refine s_iconst (pc := 44) (v := (1 : Int32)) dX6_mostBy_44 (by decide) ?_
    refine s_iadd (pc := 45) dX6_mostBy_45 ?_
    refine s_aald (pc := 46) (r := (25 + (a2 + (1 : Int32)).toNatClampNeg)) dX6_mostBy_46 kd_24 (by decide) (by decide) (fun hi => ar_24 hi) (fun hi2 => ?_)
    refine s_iload_n (pc := 47) 4 dX6_mostBy_47 rfl rfl ?_
    refine s_iconst (pc := 48) (v := (1 : Int32)) dX6_mostBy_48 (by decide) ?_
    refine s_iconst (pc := 49) (v := (2 : Int32)) dX6_mostBy_49 (by decide) ?_
    refine s_iload (pc := 50) 5 dX6_mostBy_50 rfl ?_
    refine s_imul (pc := 52) dX6_mostBy_52 ?_
    refine s_ishl (pc := 53) dX6_mostBy_53 ?_
    refine s_isub (pc := 54) dX6_mostBy_54 ?_
    refine s_iald (pc := 55) dX6_mostBy_55 (ak_24 hi2) ?_
    refine s_iadd (pc := 56) dX6_mostBy_56 ?_
    exact s_iret (pc := 57) rfl dX6_mostBy_57 rfl
def b_X6_mostFrom_L15 (N : Nat) (o1 : Nat) (c2 : Int32) (c3 : Int32) (kb : Int32 → Int32 → z_S → Option (Int32 × z_S)) (v4 : Int32) (v5 : Int32) (μ : z_S) : Option (Int32 × z_S) :=
  if v5 < (μ.1 (o1 + 1) 1) then (z_bn (f_X6_mostBy N o1 c2 c3 v5 μ) fun x2 μ_1 => z_bn (f_J9_max_7cf53 N v4 x2 μ_1) fun x3 μ_2 => z_bd (v5 + 1) fun x4 => kb x3 x4 μ_2) else some (v4, μ)
theorem tb_X6_mostFrom_L15 (N : Nat) (o1 : Nat) (c2 : Int32) (c3 : Int32) (hk1 : z_kw true o1 = (2, 0)) (kb : Int32 → Int32 → z_S → Option (Int32 × z_S)) (hkb : ∀ (a4 : Int32) (a5 : Int32) (μ : z_S), z_sim true rI mX6_mostFrom 1 (kb a4 a5 μ) 15 [(0, .ref 21), (1, .ref o1), (2, .int c2), (3, .int c3), (4, .int a4), (5, .int a5)] [] μ) (v4 : Int32) (v5 : Int32) (μ : z_S) : z_sim true rI mX6_mostFrom 1 (b_X6_mostFrom_L15 N o1 c2 c3 kb v4 v5 μ) 15 [(0, .ref 21), (1, .ref o1), (2, .int c2), (3, .int c3), (4, .int v4), (5, .int v5)] [] μ := by
  unfold b_X6_mostFrom_L15
  refine s_iload (pc := 15) 5 dX6_mostFrom_15 rfl ?_
  refine s_aload_n (pc := 17) 1 dX6_mostFrom_17 rfl rfl ?_
  refine s_getR (pc := 18) (ci := 2) (k := 0) (r := (o1 + 1)) dX6_mostFrom_18 fl_6_23 hk1 rfl (gr_2_0_0 hk1) ?_
  refine s_iconst (pc := 21) (v := (1 : Int32)) dX6_mostFrom_21 (by decide) ?_
  refine s_ialdK (pc := 22) (k := 1) dX6_mostFrom_22 (gk_2_1 hk1) (by decide) (by decide) (by decide) ?_
  refine s_icmp_ge (pc := 23) (tgt := 48) dX6_mostFrom_23 (by decide) ?_ ?_
  · refine s_iload (pc := 26) 4 dX6_mostFrom_26 rfl ?_
    refine s_aload_n (pc := 28) 0 dX6_mostFrom_28 rfl rfl ?_
    refine s_aload_n (pc := 29) 1 dX6_mostFrom_29 rfl rfl ?_
    refine s_iload_n (pc := 30) 2 dX6_mostFrom_30 rfl rfl ?_
    refine s_iload_n (pc := 31) 3 dX6_mostFrom_31 rfl rfl ?_
    refine s_iload (pc := 32) 5 dX6_mostFrom_32 rfl ?_
    refine s_callVI (pc := 34) (as := [.ref o1, .int c2, .int c3, .int v5]) (st := [.int v4]) dX6_mostFrom_34 lk_6_65 kd_21 (t_X6_mostBy N o1 c2 c3 v5 μ) (by omega) rfl (Nat.le_of_ble_eq_true rfl) rfl (fun x2 μ_1 => ?_)
    refine s_callSI (pc := 37) (as := [.int v4, .int x2]) (st := []) dX6_mostFrom_37 lk_6_69 (t_J9_max_7cf53 N v4 x2 μ_1) (by omega) rfl (by decide) rfl (fun x3 μ_2 => ?_)
    refine s_istore (pc := 40) (lv' := [(4, .int x3), (0, .ref 21), (1, .ref o1), (2, .int c2), (3, .int c3), (5, .int v5)]) dX6_mostFrom_40 (by decide) rfl ?_
    refine s_iincB (pc := 42) (lv' := fun x4 => [(5, .int x4), (4, .int x3), (0, .ref 21), (1, .ref o1), (2, .int c2), (3, .int c3)]) (c := 1) 5 dX6_mostFrom_42 rfl (by decide) (by decide) (fun _ => rfl) (fun x4 => ?_)
    refine s_goto (pc := 45) (tgt := 15) dX6_mostFrom_45 (by decide) ?_
    refine s_sub (lv' := [(0, .ref 21), (1, .ref o1), (2, .int c2), (3, .int c3), (4, .int x3), (5, .int x4)]) [2, 3, 4, 5, 1, 0] rfl ?_
    exact hkb x3 x4 μ_2
  · refine s_iload (pc := 48) 4 dX6_mostFrom_48 rfl ?_
    exact s_iret (pc := 50) rfl dX6_mostFrom_50 rfl
def f_X6_mostFrom_L15 (N : Nat) (o1 : Nat) (c2 : Int32) (c3 : Int32) : Nat → Int32 → Int32 → z_S → Option (Int32 × z_S)
  | 0, _, _, _ => none
  | n + 1, v4, v5, μ => b_X6_mostFrom_L15 N o1 c2 c3 (f_X6_mostFrom_L15 N o1 c2 c3 n) v4 v5 μ
theorem t_X6_mostFrom_L15 (N : Nat) (o1 : Nat) (c2 : Int32) (c3 : Int32) (hk1 : z_kw true o1 = (2, 0)) : ∀ (n : Nat) (v4 : Int32) (v5 : Int32) (μ : z_S), z_sim true rI mX6_mostFrom 1 (f_X6_mostFrom_L15 N o1 c2 c3 n v4 v5 μ) 15 [(0, .ref 21), (1, .ref o1), (2, .int c2), (3, .int c3), (4, .int v4), (5, .int v5)] [] μ
  | 0, _, _, _ => s_none
  | n + 1, v4, v5, μ => tb_X6_mostFrom_L15 N o1 c2 c3 hk1 (f_X6_mostFrom_L15 N o1 c2 c3 n) (t_X6_mostFrom_L15 N o1 c2 c3 hk1 n) v4 v5 μ
def f_X6_mostFrom (N : Nat) (o1 : Nat) (a2 : Int32) (a3 : Int32) (μ : z_S) : Option (Int32 × z_S) :=
  z_ko true o1 2 <| z_in (a2 + (1 : Int32)) 9 <| z_in a3 256 <| z_bd (μ.1 (25 + (a2 + (1 : Int32)).toNatClampNeg) a3.toNatClampNeg) fun x1 => f_X6_mostFrom_L15 N o1 a2 a3 N x1 (0 : Int32) μ
theorem t_X6_mostFrom (N : Nat) (o1 : Nat) (a2 : Int32) (a3 : Int32) (μ : z_S) : z_met true rI mX6_mostFrom 1 [.ref 21, .ref o1, .int a2, .int a3] μ (f_X6_mostFrom N o1 a2 a3 μ) := by
  refine z_met.of (by decide +kernel) (by show _ ≤ _; first | decide | exact Nat.le_of_ble_eq_true rfl) (lv := [(0, .ref 21), (1, .ref o1), (2, .int a2), (3, .int a3)]) rfl ?_
  unfold f_X6_mostFrom
  refine s_ko (fun hk1 => ?_)
  refine s_aload_n (pc := 0) 0 dX6_mostFrom_0 rfl rfl ?_
  refine s_getR (pc := 1) (ci := 6) (k := 3) (r := 24) dX6_mostFrom_1 fl_6_20 kd_21 rfl rs_21_3 ?_
  refine s_iload_n (pc := 4) 2 dX6_mostFrom_4 rfl rfl ?_
  refine s_iconst (pc := 5) (v := (1 : Int32)) dX6_mostFrom_5 (by decide) ?_
  refine s_iadd (pc := 6) dX6_mostFrom_6 ?_
  refine s_aald (pc := 7) (r := (25 + (a2 + (1 : Int32)).toNatClampNeg)) dX6_mostFrom_7 kd_24 (by decide) (by decide) (fun hi => ar_24 hi) (fun hi1 => ?_)
  refine s_iload_n (pc := 8) 3 dX6_mostFrom_8 rfl rfl ?_
  refine s_iald (pc := 9) dX6_mostFrom_9 (ak_24 hi1) ?_
  refine s_letI (fun x1 => ?_)
  refine s_istore (pc := 10) (lv' := [(4, .int x1), (0, .ref 21), (1, .ref o1), (2, .int a2), (3, .int a3)]) dX6_mostFrom_10 (by decide) rfl ?_
  refine s_iconst (pc := 12) (v := (0 : Int32)) dX6_mostFrom_12 (by decide) ?_
  refine s_istore (pc := 13) (lv' := [(5, .int (0 : Int32)), (4, .int x1), (0, .ref 21), (1, .ref o1), (2, .int a2), (3, .int a3)]) dX6_mostFrom_13 (by decide) rfl ?_
  refine s_sub (lv' := [(0, .ref 21), (1, .ref o1), (2, .int a2), (3, .int a3), (4, .int x1), (5, .int (0 : Int32))]) [2, 3, 4, 5, 1, 0] rfl ?_
  refine t_X6_mostFrom_L15 N o1 a2 a3 hk1 N x1 (0 : Int32) μ
def f_X6_choose_B112 (N : Nat) (o1 : Nat) (c2 : Int32) (kb : Int32 → Int32 → z_S → Option (Unit × z_S)) (v4 : Int32) (v5 : Int32) (μ : z_S) : Option (Unit × z_S) :=
  z_bd (v5 + 1) fun x1 => kb v4 x1 μ
theorem t_X6_choose_B112 (N : Nat) (o1 : Nat) (c2 : Int32) (hk1 : z_kw true o1 = (2, 0)) (kb : Int32 → Int32 → z_S → Option (Unit × z_S)) (hkb : ∀ (a4 : Int32) (a5 : Int32) (μ : z_S), z_sim true rV mX6_choose 1 (kb a4 a5 μ) 6 [(0, .ref 21), (1, .ref o1), (2, .int c2), (4, .int a4), (5, .int a5)] [] μ) (v4 : Int32) (v5 : Int32)  (μ : z_S) : z_sim true rV mX6_choose 1 (f_X6_choose_B112 N o1 c2 kb v4 v5 μ) 112 [(0, .ref 21), (1, .ref o1), (2, .int c2), (4, .int v4), (5, .int v5)] [] μ := by
  unfold f_X6_choose_B112
  refine s_iincB (pc := 112) (lv' := fun x1 => [(5, .int x1), (0, .ref 21), (1, .ref o1), (2, .int c2), (4, .int v4)]) (c := 1) 4 dX6_choose_112 rfl (by decide) (by decide) (fun _ => rfl) (fun x1 => ?_)
  refine s_goto (pc := 115) (tgt := 6) dX6_choose_115 (by decide) ?_
  refine s_sub (lv' := [(0, .ref 21), (1, .ref o1), (2, .int c2), (4, .int v4), (5, .int x1)]) [1, 2, 3, 4, 0] rfl ?_
  exact hkb v4 x1 μ
def b_X6_choose_L43 (N : Nat) (o1 : Nat) (c2 : Int32) (c4 : Int32) (c5 : Int32) (kb : Int32 → z_S → Option (Unit × z_S)) (e112 : z_S → Option (Unit × z_S)) (e78 : Int32 → z_S → Option (Unit × z_S)) (v6 : Int32) (μ : z_S) : Option (Unit × z_S) :=
  if v6 < (μ.1 (o1 + 1) 1) then (z_bn (f_X6_mostBy N o1 c5 c4 v6 μ) fun x2 μ_1 => z_in c5 9 <| z_in c4 256 <| if x2 = (μ_1.1 (25 + c5.toNatClampNeg) c4.toNatClampNeg) then (e78 v6 μ_1) else z_bd (v6 + 1) fun x3 => kb x3 μ_1) else e112 μ
theorem tb_X6_choose_L43 (N : Nat) (o1 : Nat) (c2 : Int32) (c4 : Int32) (c5 : Int32) (hk1 : z_kw true o1 = (2, 0)) (kb : Int32 → z_S → Option (Unit × z_S)) (e112 : z_S → Option (Unit × z_S)) (e78 : Int32 → z_S → Option (Unit × z_S)) (hkb : ∀ (a6 : Int32) (μ : z_S), z_sim true rV mX6_choose 1 (kb a6 μ) 43 [(0, .ref 21), (1, .ref o1), (2, .int c2), (4, .int c4), (5, .int c5), (6, .int a6)] [] μ) (he112 : ∀ (μ : z_S), z_sim true rV mX6_choose 1 (e112 μ) 112 [(0, .ref 21), (1, .ref o1), (2, .int c2), (4, .int c4), (5, .int c5)] [] μ) (he78 : ∀ (a6 : Int32) (μ : z_S), z_sim true rV mX6_choose 1 (e78 a6 μ) 78 [(0, .ref 21), (1, .ref o1), (2, .int c2), (4, .int c4), (5, .int c5), (6, .int a6)] [] μ) (v6 : Int32) (μ : z_S) : z_sim true rV mX6_choose 1 (b_X6_choose_L43 N o1 c2 c4 c5 kb e112 e78 v6 μ) 43 [(0, .ref 21), (1, .ref o1), (2, .int c2), (4, .int c4), (5, .int c5), (6, .int v6)] [] μ := by
  unfold b_X6_choose_L43
  refine s_iload (pc := 43) 5 dX6_choose_43 rfl ?_
  refine s_aload_n (pc := 45) 1 dX6_choose_45 rfl rfl ?_
  refine s_getR (pc := 46) (ci := 2) (k := 0) (r := (o1 + 1)) dX6_choose_46 fl_6_23 hk1 rfl (gr_2_0_0 hk1) ?_
  refine s_iconst (pc := 49) (v := (1 : Int32)) dX6_choose_49 (by decide) ?_
  refine s_ialdK (pc := 50) (k := 1) dX6_choose_50 (gk_2_1 hk1) (by decide) (by decide) (by decide) ?_
  refine s_icmp_ge (pc := 51) (tgt := 112) dX6_choose_51 (by decide) ?_ ?_
  · refine s_aload_n (pc := 54) 0 dX6_choose_54 rfl rfl ?_
    refine s_aload_n (pc := 55) 1 dX6_choose_55 rfl rfl ?_
    refine s_iload (pc := 56) 4 dX6_choose_56 rfl ?_
    refine s_iload (pc := 58) 3 dX6_choose_58 rfl ?_
    refine s_iload (pc := 60) 5 dX6_choose_60 rfl ?_
    refine s_callVI (pc := 62) (as := [.ref o1, .int c5, .int c4, .int v6]) (st := []) dX6_choose_62 lk_6_65 kd_21 (t_X6_mostBy N o1 c5 c4 v6 μ) (by omega) rfl (by decide) rfl (fun x2 μ_1 => ?_)
    refine s_aload_n (pc := 65) 0 dX6_choose_65 rfl rfl ?_
    refine s_getR (pc := 66) (ci := 6) (k := 3) (r := 24) dX6_choose_66 fl_6_20 kd_21 rfl rs_21_3 ?_
    refine s_iload (pc := 69) 4 dX6_choose_69 rfl ?_
    refine s_aald (pc := 71) (r := (25 + c5.toNatClampNeg)) dX6_choose_71 kd_24 (by decide) (by decide) (fun hi => ar_24 hi) (fun hi3 => ?_)
    refine s_iload (pc := 72) 3 dX6_choose_72 rfl ?_
    refine s_iald (pc := 74) dX6_choose_74 (ak_24 hi3) ?_
    refine s_icmp_ne (pc := 75) (tgt := 106) dX6_choose_75 (by decide) ?_ ?_
    · exact he78 v6 μ_1
    · refine s_iincB (pc := 106) (lv' := fun x3 => [(6, .int x3), (0, .ref 21), (1, .ref o1), (2, .int c2), (4, .int c4), (5, .int c5)]) (c := 1) 5 dX6_choose_106 rfl (by decide) (by decide) (fun _ => rfl) (fun x3 => ?_)
      refine s_goto (pc := 109) (tgt := 43) dX6_choose_109 (by decide) ?_
      refine s_sub (lv' := [(0, .ref 21), (1, .ref o1), (2, .int c2), (4, .int c4), (5, .int c5), (6, .int x3)]) [1, 2, 3, 4, 5, 0] rfl ?_
      exact hkb x3 μ_1
  · refine s_sub (lv' := [(0, .ref 21), (1, .ref o1), (2, .int c2), (4, .int c4), (5, .int c5)]) [0, 1, 2, 3, 4] rfl ?_
    exact he112 μ
def f_X6_choose_L43 (N : Nat) (o1 : Nat) (c2 : Int32) (c4 : Int32) (c5 : Int32) (e112 : z_S → Option (Unit × z_S)) (e78 : Int32 → z_S → Option (Unit × z_S)) : Nat → Int32 → z_S → Option (Unit × z_S)
  | 0, _, _ => none
  | n + 1, v6, μ => b_X6_choose_L43 N o1 c2 c4 c5 (f_X6_choose_L43 N o1 c2 c4 c5 e112 e78 n) e112 e78 v6 μ
theorem t_X6_choose_L43 (N : Nat) (o1 : Nat) (c2 : Int32) (c4 : Int32) (c5 : Int32) (hk1 : z_kw true o1 = (2, 0)) (e112 : z_S → Option (Unit × z_S)) (e78 : Int32 → z_S → Option (Unit × z_S)) (he112 : ∀ (μ : z_S), z_sim true rV mX6_choose 1 (e112 μ) 112 [(0, .ref 21), (1, .ref o1), (2, .int c2), (4, .int c4), (5, .int c5)] [] μ) (he78 : ∀ (a6 : Int32) (μ : z_S), z_sim true rV mX6_choose 1 (e78 a6 μ) 78 [(0, .ref 21), (1, .ref o1), (2, .int c2), (4, .int c4), (5, .int c5), (6, .int a6)] [] μ) : ∀ (n : Nat) (v6 : Int32) (μ : z_S), z_sim true rV mX6_choose 1 (f_X6_choose_L43 N o1 c2 c4 c5 e112 e78 n v6 μ) 43 [(0, .ref 21), (1, .ref o1), (2, .int c2), (4, .int c4), (5, .int c5), (6, .int v6)] [] μ
  | 0, _, _ => s_none
  | n + 1, v6, μ => tb_X6_choose_L43 N o1 c2 c4 c5 hk1 (f_X6_choose_L43 N o1 c2 c4 c5 e112 e78 n) e112 e78 (t_X6_choose_L43 N o1 c2 c4 c5 hk1 e112 e78 he112 he78 n) he112 he78 v6 μ
def b_X6_choose_L6 (N : Nat) (o1 : Nat) (c2 : Int32) (kb : Int32 → Int32 → z_S → Option (Unit × z_S)) (v4 : Int32) (v5 : Int32) (μ : z_S) : Option (Unit × z_S) :=
  if v5 < c2 then (z_in (v5 + (1 : Int32)) 9 <| z_in v4 256 <| z_in v5 9 <| z_in v4 256 <| if (μ.1 (25 + (v5 + (1 : Int32)).toNatClampNeg) v4.toNatClampNeg) = (μ.1 (25 + v5.toNatClampNeg) v4.toNatClampNeg) then (f_X6_choose_B112 N o1 c2 kb v4 v5 μ) else f_X6_choose_L43 N o1 c2 v4 v5 (fun μ112 => f_X6_choose_B112 N o1 c2 kb v4 v5 μ112) (fun y78_6 μ78 => z_in v5 8 <| z_in (μ78.1 23 v5.toNatClampNeg) 8 <| z_bd (z_setI μ78 22 (μ78.1 23 v5.toNatClampNeg).toNatClampNeg y78_6) fun μ_2 => z_bd (v4 - ((1 : Int32) <<< (((2 : Int32) * y78_6) &&& 31))) fun x4 => f_X6_choose_B112 N o1 c2 kb x4 v5 μ_2) N (0 : Int32) μ) else some ((), μ)
theorem tb_X6_choose_L6 (N : Nat) (o1 : Nat) (c2 : Int32) (hk1 : z_kw true o1 = (2, 0)) (kb : Int32 → Int32 → z_S → Option (Unit × z_S)) (hkb : ∀ (a4 : Int32) (a5 : Int32) (μ : z_S), z_sim true rV mX6_choose 1 (kb a4 a5 μ) 6 [(0, .ref 21), (1, .ref o1), (2, .int c2), (4, .int a4), (5, .int a5)] [] μ) (v4 : Int32) (v5 : Int32) (μ : z_S) : z_sim true rV mX6_choose 1 (b_X6_choose_L6 N o1 c2 kb v4 v5 μ) 6 [(0, .ref 21), (1, .ref o1), (2, .int c2), (4, .int v4), (5, .int v5)] [] μ := by
  unfold b_X6_choose_L6
  refine s_iload (pc := 6) 4 dX6_choose_6 rfl ?_
  refine s_iload_n (pc := 8) 2 dX6_choose_8 rfl rfl ?_
  refine s_icmp_ge (pc := 9) (tgt := 118) dX6_choose_9 (by decide) ?_ ?_
  · refine s_aload_n (pc := 12) 0 dX6_choose_12 rfl rfl ?_
    refine s_getR (pc := 13) (ci := 6) (k := 3) (r := 24) dX6_choose_13 fl_6_20 kd_21 rfl rs_21_3 ?_
    refine s_iload (pc := 16) 4 dX6_choose_16 rfl ?_
    refine s_iconst (pc := 18) (v := (1 : Int32)) dX6_choose_18 (by decide) ?_
    refine s_iadd (pc := 19) dX6_choose_19 ?_
    refine s_aald (pc := 20) (r := (25 + (v5 + (1 : Int32)).toNatClampNeg)) dX6_choose_20 kd_24 (by decide) (by decide) (fun hi => ar_24 hi) (fun hi1 => ?_)
    refine s_iload (pc := 21) 3 dX6_choose_21 rfl ?_
    refine s_iald (pc := 23) dX6_choose_23 (ak_24 hi1) ?_
    refine s_aload_n (pc := 24) 0 dX6_choose_24 rfl rfl ?_
    refine s_getR (pc := 25) (ci := 6) (k := 3) (r := 24) dX6_choose_25 fl_6_20 kd_21 rfl rs_21_3 ?_
    refine s_iload (pc := 28) 4 dX6_choose_28 rfl ?_
    refine s_aald (pc := 30) (r := (25 + v5.toNatClampNeg)) dX6_choose_30 kd_24 (by decide) (by decide) (fun hi => ar_24 hi) (fun hi2 => ?_)
    refine s_iload (pc := 31) 3 dX6_choose_31 rfl ?_
    refine s_iald (pc := 33) dX6_choose_33 (ak_24 hi2) ?_
    refine s_icmp_ne (pc := 34) (tgt := 40) dX6_choose_34 (by decide) ?_ ?_
    · refine s_goto (pc := 37) (tgt := 112) dX6_choose_37 (by decide) ?_
      exact t_X6_choose_B112 N o1 c2 hk1 kb hkb v4 v5 μ
    · refine s_iconst (pc := 40) (v := (0 : Int32)) dX6_choose_40 (by decide) ?_
      refine s_istore (pc := 41) (lv' := [(6, .int (0 : Int32)), (0, .ref 21), (1, .ref o1), (2, .int c2), (4, .int v4), (5, .int v5)]) dX6_choose_41 (by decide) rfl ?_
      refine s_sub (lv' := [(0, .ref 21), (1, .ref o1), (2, .int c2), (4, .int v4), (5, .int v5), (6, .int (0 : Int32))]) [1, 2, 3, 4, 5, 0] rfl ?_
      refine t_X6_choose_L43 N o1 c2 v4 v5 hk1 _ _ ?_ ?_ N (0 : Int32) μ
      · intro μ112
        exact t_X6_choose_B112 N o1 c2 hk1 kb hkb v4 v5 μ112
      · intro y78_6 μ78
        refine s_aload_n (pc := 78) 0 dX6_choose_78 rfl rfl ?_
        refine s_getR (pc := 79) (ci := 6) (k := 0) (r := 22) dX6_choose_79 fl_6_9 kd_21 rfl rs_21_0 ?_
        refine s_aload_n (pc := 82) 0 dX6_choose_82 rfl rfl ?_
        refine s_getR (pc := 83) (ci := 6) (k := 2) (r := 23) dX6_choose_83 fl_6_15 kd_21 rfl rs_21_2 ?_
        refine s_iload (pc := 86) 4 dX6_choose_86 rfl ?_
        refine s_iald (pc := 88) dX6_choose_88 kd_23 ?_
        refine s_iload (pc := 89) 5 dX6_choose_89 rfl ?_
        refine s_iast (pc := 91) dX6_choose_91 kd_22 (fun μ_2 => ?_)
        refine s_iload (pc := 92) 3 dX6_choose_92 rfl ?_
        refine s_iconst (pc := 94) (v := (1 : Int32)) dX6_choose_94 (by decide) ?_
        refine s_iconst (pc := 95) (v := (2 : Int32)) dX6_choose_95 (by decide) ?_
        refine s_iload (pc := 96) 5 dX6_choose_96 rfl ?_
        refine s_imul (pc := 98) dX6_choose_98 ?_
        refine s_ishl (pc := 99) dX6_choose_99 ?_
        refine s_isub (pc := 100) dX6_choose_100 ?_
        refine s_letI (fun x4 => ?_)
        refine s_istore (pc := 101) (lv' := [(4, .int x4), (0, .ref 21), (1, .ref o1), (2, .int c2), (5, .int v5), (6, .int y78_6)]) dX6_choose_101 (by decide) rfl ?_
        refine s_goto (pc := 103) (tgt := 112) dX6_choose_103 (by decide) ?_
        refine s_sub (lv' := [(0, .ref 21), (1, .ref o1), (2, .int c2), (4, .int x4), (5, .int v5)]) [1, 2, 3, 0, 4] rfl ?_
        exact t_X6_choose_B112 N o1 c2 hk1 kb hkb x4 v5 μ_2
  · exact s_vret (pc := 118) dX6_choose_118 rfl
def f_X6_choose_L6 (N : Nat) (o1 : Nat) (c2 : Int32) : Nat → Int32 → Int32 → z_S → Option (Unit × z_S)
  | 0, _, _, _ => none
  | n + 1, v4, v5, μ => b_X6_choose_L6 N o1 c2 (f_X6_choose_L6 N o1 c2 n) v4 v5 μ
theorem t_X6_choose_L6 (N : Nat) (o1 : Nat) (c2 : Int32) (hk1 : z_kw true o1 = (2, 0)) : ∀ (n : Nat) (v4 : Int32) (v5 : Int32) (μ : z_S), z_sim true rV mX6_choose 1 (f_X6_choose_L6 N o1 c2 n v4 v5 μ) 6 [(0, .ref 21), (1, .ref o1), (2, .int c2), (4, .int v4), (5, .int v5)] [] μ
  | 0, _, _, _ => s_none
  | n + 1, v4, v5, μ => tb_X6_choose_L6 N o1 c2 hk1 (f_X6_choose_L6 N o1 c2 n) (t_X6_choose_L6 N o1 c2 hk1 n) v4 v5 μ
def f_X6_choose (N : Nat) (o1 : Nat) (a2 : Int32) (a3 : Int32) (μ : z_S) : Option (Unit × z_S) :=
  z_ko true o1 2 <| f_X6_choose_L6 N o1 a2 N a3 (0 : Int32) μ
theorem t_X6_choose (N : Nat) (o1 : Nat) (a2 : Int32) (a3 : Int32) (μ : z_S) : z_met true rV mX6_choose 1 [.ref 21, .ref o1, .int a2, .int a3] μ (f_X6_choose N o1 a2 a3 μ) := by
  refine z_met.of (by decide +kernel) (by show _ ≤ _; first | decide | exact Nat.le_of_ble_eq_true rfl) (lv := [(0, .ref 21), (1, .ref o1), (2, .int a2), (3, .int a3)]) rfl ?_
  unfold f_X6_choose
  refine s_ko (fun hk1 => ?_)
  refine s_iload_n (pc := 0) 3 dX6_choose_0 rfl rfl ?_
  refine s_istore (pc := 1) (lv' := [(4, .int a3), (0, .ref 21), (1, .ref o1), (2, .int a2), (3, .int a3)]) dX6_choose_1 (by decide) rfl ?_
  refine s_iconst (pc := 3) (v := (0 : Int32)) dX6_choose_3 (by decide) ?_
  refine s_istore (pc := 4) (lv' := [(5, .int (0 : Int32)), (4, .int a3), (0, .ref 21), (1, .ref o1), (2, .int a2), (3, .int a3)]) dX6_choose_4 (by decide) rfl ?_
  refine s_sub (lv' := [(0, .ref 21), (1, .ref o1), (2, .int a2), (4, .int a3), (5, .int (0 : Int32))]) [2, 3, 4, 1, 0] rfl ?_
  refine t_X6_choose_L6 N o1 a2 hk1 N a3 (0 : Int32) μ
def f_X6_plan_B65 (N : Nat) (o1 : Nat) (o2 : Nat) (kb : Int32 → Int32 → z_S → Option (Unit × z_S)) (e71 : Int32 → z_S → Option (Unit × z_S)) (v3 : Int32) (v4 : Int32) (μ : z_S) : Option (Unit × z_S) :=
  z_bd (v4 + 1) fun x3 => kb v3 x3 μ
theorem t_X6_plan_B65 (N : Nat) (o1 : Nat) (o2 : Nat) (hk1 : z_kw true o1 = (2, 0)) (hk2 : z_kw true o2 = (8, 0)) (kb : Int32 → Int32 → z_S → Option (Unit × z_S)) (e71 : Int32 → z_S → Option (Unit × z_S)) (hkb : ∀ (a3 : Int32) (a4 : Int32) (μ : z_S), z_sim true rV mX6_plan 2 (kb a3 a4 μ) 5 [(0, .ref 21), (1, .ref o1), (2, .ref o2), (3, .int a3), (4, .int a4)] [] μ) (he71 : ∀ (a3 : Int32) (μ : z_S), z_sim true rV mX6_plan 2 (e71 a3 μ) 71 [(0, .ref 21), (1, .ref o1), (2, .ref o2), (3, .int a3)] [] μ) (v3 : Int32) (v4 : Int32)  (μ : z_S) : z_sim true rV mX6_plan 2 (f_X6_plan_B65 N o1 o2 kb e71 v3 v4 μ) 65 [(0, .ref 21), (1, .ref o1), (2, .ref o2), (3, .int v3), (4, .int v4)] [] μ := by
  unfold f_X6_plan_B65
  refine s_iincB (pc := 65) (lv' := fun x3 => [(4, .int x3), (0, .ref 21), (1, .ref o1), (2, .ref o2), (3, .int v3)]) (c := 1) 4 dX6_plan_65 rfl (by decide) (by decide) (fun _ => rfl) (fun x3 => ?_)
  refine s_goto (pc := 68) (tgt := 5) dX6_plan_68 (by decide) ?_
  refine s_sub (lv' := [(0, .ref 21), (1, .ref o1), (2, .ref o2), (3, .int v3), (4, .int x3)]) [1, 2, 3, 4, 0] rfl ?_
  exact hkb v3 x3 μ
def b_X6_plan_L5 (N : Nat) (o1 : Nat) (o2 : Nat) (kb : Int32 → Int32 → z_S → Option (Unit × z_S)) (e71 : Int32 → z_S → Option (Unit × z_S)) (v3 : Int32) (v4 : Int32) (μ : z_S) : Option (Unit × z_S) :=
  if v4 < (μ.1 (o1 + 1) 0) then (z_in v4 8 <| z_bd (z_setI μ 22 v4.toNatClampNeg (-1 : Int32)) fun μ_1 => z_in v4 8 <| if (μ_1.1 (o2 + 5) v4.toNatClampNeg) = (-1 : Int32) then (z_in v4 8 <| if 0 < (μ_1.1 (o1 + 7) v4.toNatClampNeg) then (z_bn (f_X2_allWishes N o1 v4 μ_1) fun x1 μ_2 => if 0 < x1 then (z_bd (v3 + 1) fun x2 => z_in v3 8 <| z_bd (z_setI μ_2 23 v3.toNatClampNeg v4) fun μ_3 => f_X6_plan_B65 N o1 o2 kb e71 x2 v4 μ_3) else f_X6_plan_B65 N o1 o2 kb e71 v3 v4 μ_2) else f_X6_plan_B65 N o1 o2 kb e71 v3 v4 μ_1) else f_X6_plan_B65 N o1 o2 kb e71 v3 v4 μ_1) else e71 v3 μ
theorem tb_X6_plan_L5 (N : Nat) (o1 : Nat) (o2 : Nat) (hk1 : z_kw true o1 = (2, 0)) (hk2 : z_kw true o2 = (8, 0)) (kb : Int32 → Int32 → z_S → Option (Unit × z_S)) (e71 : Int32 → z_S → Option (Unit × z_S)) (hkb : ∀ (a3 : Int32) (a4 : Int32) (μ : z_S), z_sim true rV mX6_plan 2 (kb a3 a4 μ) 5 [(0, .ref 21), (1, .ref o1), (2, .ref o2), (3, .int a3), (4, .int a4)] [] μ) (he71 : ∀ (a3 : Int32) (μ : z_S), z_sim true rV mX6_plan 2 (e71 a3 μ) 71 [(0, .ref 21), (1, .ref o1), (2, .ref o2), (3, .int a3)] [] μ) (v3 : Int32) (v4 : Int32) (μ : z_S) : z_sim true rV mX6_plan 2 (b_X6_plan_L5 N o1 o2 kb e71 v3 v4 μ) 5 [(0, .ref 21), (1, .ref o1), (2, .ref o2), (3, .int v3), (4, .int v4)] [] μ := by
  unfold b_X6_plan_L5
  refine s_iload (pc := 5) 4 dX6_plan_5 rfl ?_
  refine s_aload_n (pc := 7) 1 dX6_plan_7 rfl rfl ?_
  refine s_getR (pc := 8) (ci := 2) (k := 0) (r := (o1 + 1)) dX6_plan_8 fl_6_23 hk1 rfl (gr_2_0_0 hk1) ?_
  refine s_iconst (pc := 11) (v := (0 : Int32)) dX6_plan_11 (by decide) ?_
  refine s_ialdK (pc := 12) (k := 0) dX6_plan_12 (gk_2_1 hk1) (by decide) (by decide) (by decide) ?_
  refine s_icmp_ge (pc := 13) (tgt := 71) dX6_plan_13 (by decide) ?_ ?_
  · refine s_aload_n (pc := 16) 0 dX6_plan_16 rfl rfl ?_
    refine s_getR (pc := 17) (ci := 6) (k := 0) (r := 22) dX6_plan_17 fl_6_9 kd_21 rfl rs_21_0 ?_
    refine s_iload (pc := 20) 4 dX6_plan_20 rfl ?_
    refine s_iconst (pc := 22) (v := (-1 : Int32)) dX6_plan_22 (by decide) ?_
    refine s_iast (pc := 23) dX6_plan_23 kd_22 (fun μ_1 => ?_)
    refine s_aload_n (pc := 24) 2 dX6_plan_24 rfl rfl ?_
    refine s_getR (pc := 25) (ci := 8) (k := 5) (r := (o2 + 5)) dX6_plan_25 fl_6_28 hk2 rfl (gr_8_0_5 hk2) ?_
    refine s_iload (pc := 28) 4 dX6_plan_28 rfl ?_
    refine s_iald (pc := 30) dX6_plan_30 (gk_8_5 hk2) ?_
    refine s_iconst (pc := 31) (v := (-1 : Int32)) dX6_plan_31 (by decide) ?_
    refine s_icmp_ne (pc := 32) (tgt := 65) dX6_plan_32 (by decide) ?_ ?_
    · refine s_aload_n (pc := 35) 1 dX6_plan_35 rfl rfl ?_
      refine s_getR (pc := 36) (ci := 2) (k := 3) (r := (o1 + 7)) dX6_plan_36 fl_6_33 hk1 rfl (gr_2_0_3 hk1) ?_
      refine s_iload (pc := 39) 4 dX6_plan_39 rfl ?_
      refine s_iald (pc := 41) dX6_plan_41 (gk_2_7 hk1) ?_
      refine s_if_le (pc := 42) (tgt := 65) dX6_plan_42 (by decide) ?_ ?_
      · refine s_aload_n (pc := 45) 1 dX6_plan_45 rfl rfl ?_
        refine s_iload (pc := 46) 4 dX6_plan_46 rfl ?_
        refine s_callVI (pc := 48) (as := [.int v4]) (st := []) dX6_plan_48 lk_6_36 hk1 (t_X2_allWishes N o1 v4 μ_1) (by omega) rfl (by decide) rfl (fun x1 μ_2 => ?_)
        refine s_if_le (pc := 51) (tgt := 65) dX6_plan_51 (by decide) ?_ ?_
        · refine s_aload_n (pc := 54) 0 dX6_plan_54 rfl rfl ?_
          refine s_getR (pc := 55) (ci := 6) (k := 2) (r := 23) dX6_plan_55 fl_6_15 kd_21 rfl rs_21_2 ?_
          refine s_iload_n (pc := 58) 3 dX6_plan_58 rfl rfl ?_
          refine s_iincB (pc := 59) (lv' := fun x2 => [(3, .int x2), (0, .ref 21), (1, .ref o1), (2, .ref o2), (4, .int v4)]) (c := 1) 3 dX6_plan_59 rfl (by decide) (by decide) (fun _ => rfl) (fun x2 => ?_)
          refine s_iload (pc := 62) 4 dX6_plan_62 rfl ?_
          refine s_iast (pc := 64) dX6_plan_64 kd_23 (fun μ_3 => ?_)
          refine s_sub (lv' := [(0, .ref 21), (1, .ref o1), (2, .ref o2), (3, .int x2), (4, .int v4)]) [1, 2, 3, 0, 4] rfl ?_
          exact t_X6_plan_B65 N o1 o2 hk1 hk2 kb e71 hkb he71 x2 v4 μ_3
        · exact t_X6_plan_B65 N o1 o2 hk1 hk2 kb e71 hkb he71 v3 v4 μ_2
      · exact t_X6_plan_B65 N o1 o2 hk1 hk2 kb e71 hkb he71 v3 v4 μ_1
    · exact t_X6_plan_B65 N o1 o2 hk1 hk2 kb e71 hkb he71 v3 v4 μ_1
  · refine s_sub (lv' := [(0, .ref 21), (1, .ref o1), (2, .ref o2), (3, .int v3)]) [0, 1, 2, 3] rfl ?_
    exact he71 v3 μ
def f_X6_plan_L5 (N : Nat) (o1 : Nat) (o2 : Nat) (e71 : Int32 → z_S → Option (Unit × z_S)) : Nat → Int32 → Int32 → z_S → Option (Unit × z_S)
  | 0, _, _, _ => none
  | n + 1, v3, v4, μ => b_X6_plan_L5 N o1 o2 (f_X6_plan_L5 N o1 o2 e71 n) e71 v3 v4 μ
theorem t_X6_plan_L5 (N : Nat) (o1 : Nat) (o2 : Nat) (hk1 : z_kw true o1 = (2, 0)) (hk2 : z_kw true o2 = (8, 0)) (e71 : Int32 → z_S → Option (Unit × z_S)) (he71 : ∀ (a3 : Int32) (μ : z_S), z_sim true rV mX6_plan 2 (e71 a3 μ) 71 [(0, .ref 21), (1, .ref o1), (2, .ref o2), (3, .int a3)] [] μ) : ∀ (n : Nat) (v3 : Int32) (v4 : Int32) (μ : z_S), z_sim true rV mX6_plan 2 (f_X6_plan_L5 N o1 o2 e71 n v3 v4 μ) 5 [(0, .ref 21), (1, .ref o1), (2, .ref o2), (3, .int v3), (4, .int v4)] [] μ
  | 0, _, _, _ => s_none
  | n + 1, v3, v4, μ => tb_X6_plan_L5 N o1 o2 hk1 hk2 (f_X6_plan_L5 N o1 o2 e71 n) e71 (t_X6_plan_L5 N o1 o2 hk1 hk2 e71 he71 n) he71 v3 v4 μ
def b_X6_plan_L77 (N : Nat) (o1 : Nat) (o2 : Nat) (c3 : Int32) (kb : Int32 → Int32 → z_S → Option (Unit × z_S)) (e113 : Int32 → z_S → Option (Unit × z_S)) (v4 : Int32) (v5 : Int32) (μ : z_S) : Option (Unit × z_S) :=
  if v5 < (μ.1 (o1 + 1) 1) then (z_in v5 4 <| z_bd (v4 ||| (((μ.1 (o2 + 2) v5.toNatClampNeg) &&& (3 : Int32)) <<< (((2 : Int32) * v5) &&& 31))) fun x4 => z_bd (v5 + 1) fun x5 => kb x4 x5 μ) else e113 v4 μ
theorem tb_X6_plan_L77 (N : Nat) (o1 : Nat) (o2 : Nat) (c3 : Int32) (hk1 : z_kw true o1 = (2, 0)) (hk2 : z_kw true o2 = (8, 0)) (kb : Int32 → Int32 → z_S → Option (Unit × z_S)) (e113 : Int32 → z_S → Option (Unit × z_S)) (hkb : ∀ (a4 : Int32) (a5 : Int32) (μ : z_S), z_sim true rV mX6_plan 2 (kb a4 a5 μ) 77 [(0, .ref 21), (1, .ref o1), (2, .ref o2), (3, .int c3), (4, .int a4), (5, .int a5)] [] μ) (he113 : ∀ (a4 : Int32) (μ : z_S), z_sim true rV mX6_plan 2 (e113 a4 μ) 113 [(0, .ref 21), (1, .ref o1), (3, .int c3), (4, .int a4)] [] μ) (v4 : Int32) (v5 : Int32) (μ : z_S) : z_sim true rV mX6_plan 2 (b_X6_plan_L77 N o1 o2 c3 kb e113 v4 v5 μ) 77 [(0, .ref 21), (1, .ref o1), (2, .ref o2), (3, .int c3), (4, .int v4), (5, .int v5)] [] μ := by
  unfold b_X6_plan_L77
  refine s_iload (pc := 77) 5 dX6_plan_77 rfl ?_
  refine s_aload_n (pc := 79) 1 dX6_plan_79 rfl rfl ?_
  refine s_getR (pc := 80) (ci := 2) (k := 0) (r := (o1 + 1)) dX6_plan_80 fl_6_23 hk1 rfl (gr_2_0_0 hk1) ?_
  refine s_iconst (pc := 83) (v := (1 : Int32)) dX6_plan_83 (by decide) ?_
  refine s_ialdK (pc := 84) (k := 1) dX6_plan_84 (gk_2_1 hk1) (by decide) (by decide) (by decide) ?_
  refine s_icmp_ge (pc := 85) (tgt := 113) dX6_plan_85 (by decide) ?_ ?_
  · refine s_iload (pc := 88) 4 dX6_plan_88 rfl ?_
    refine s_aload_n (pc := 90) 2 dX6_plan_90 rfl rfl ?_
    refine s_getR (pc := 91) (ci := 8) (k := 2) (r := (o2 + 2)) dX6_plan_91 fl_6_40 hk2 rfl (gr_8_0_2 hk2) ?_
    refine s_iload (pc := 94) 5 dX6_plan_94 rfl ?_
    refine s_iald (pc := 96) dX6_plan_96 (gk_8_2 hk2) ?_
    refine s_iconst (pc := 97) (v := (3 : Int32)) dX6_plan_97 (by decide) ?_
    refine s_iand (pc := 98) dX6_plan_98 ?_
    refine s_iconst (pc := 99) (v := (2 : Int32)) dX6_plan_99 (by decide) ?_
    refine s_iload (pc := 100) 5 dX6_plan_100 rfl ?_
    refine s_imul (pc := 102) dX6_plan_102 ?_
    refine s_ishl (pc := 103) dX6_plan_103 ?_
    refine s_ior (pc := 104) dX6_plan_104 ?_
    refine s_letI (fun x4 => ?_)
    refine s_istore (pc := 105) (lv' := [(4, .int x4), (0, .ref 21), (1, .ref o1), (2, .ref o2), (3, .int c3), (5, .int v5)]) dX6_plan_105 (by decide) rfl ?_
    refine s_iincB (pc := 107) (lv' := fun x5 => [(5, .int x5), (4, .int x4), (0, .ref 21), (1, .ref o1), (2, .ref o2), (3, .int c3)]) (c := 1) 5 dX6_plan_107 rfl (by decide) (by decide) (fun _ => rfl) (fun x5 => ?_)
    refine s_goto (pc := 110) (tgt := 77) dX6_plan_110 (by decide) ?_
    refine s_sub (lv' := [(0, .ref 21), (1, .ref o1), (2, .ref o2), (3, .int c3), (4, .int x4), (5, .int x5)]) [2, 3, 4, 5, 1, 0] rfl ?_
    exact hkb x4 x5 μ
  · refine s_sub (lv' := [(0, .ref 21), (1, .ref o1), (3, .int c3), (4, .int v4)]) [0, 1, 3, 4] rfl ?_
    exact he113 v4 μ
def f_X6_plan_L77 (N : Nat) (o1 : Nat) (o2 : Nat) (c3 : Int32) (e113 : Int32 → z_S → Option (Unit × z_S)) : Nat → Int32 → Int32 → z_S → Option (Unit × z_S)
  | 0, _, _, _ => none
  | n + 1, v4, v5, μ => b_X6_plan_L77 N o1 o2 c3 (f_X6_plan_L77 N o1 o2 c3 e113 n) e113 v4 v5 μ
theorem t_X6_plan_L77 (N : Nat) (o1 : Nat) (o2 : Nat) (c3 : Int32) (hk1 : z_kw true o1 = (2, 0)) (hk2 : z_kw true o2 = (8, 0)) (e113 : Int32 → z_S → Option (Unit × z_S)) (he113 : ∀ (a4 : Int32) (μ : z_S), z_sim true rV mX6_plan 2 (e113 a4 μ) 113 [(0, .ref 21), (1, .ref o1), (3, .int c3), (4, .int a4)] [] μ) : ∀ (n : Nat) (v4 : Int32) (v5 : Int32) (μ : z_S), z_sim true rV mX6_plan 2 (f_X6_plan_L77 N o1 o2 c3 e113 n v4 v5 μ) 77 [(0, .ref 21), (1, .ref o1), (2, .ref o2), (3, .int c3), (4, .int v4), (5, .int v5)] [] μ
  | 0, _, _, _ => s_none
  | n + 1, v4, v5, μ => tb_X6_plan_L77 N o1 o2 c3 hk1 hk2 (f_X6_plan_L77 N o1 o2 c3 e113 n) e113 (t_X6_plan_L77 N o1 o2 c3 hk1 hk2 e113 he113 n) he113 v4 v5 μ
def f_X6_plan_B180 (N : Nat) (o1 : Nat) (o2 : Nat) (c3 : Int32) (c4 : Int32) (c5 : Int32) (kb : Int32 → z_S → Option (Unit × z_S)) (e187 : z_S → Option (Unit × z_S)) (v6 : Int32) (s0 : Int32) (s1 : Int32) (q2 : Int32) (μ : z_S) : Option (Unit × z_S) :=
  z_in s1 256 <| z_bd (z_setI μ (25 + q2.toNatClampNeg) s1.toNatClampNeg s0) fun μ_6 => z_bd (v6 + 1) fun x8 => kb x8 μ_6
theorem t_X6_plan_B180 (N : Nat) (o1 : Nat) (o2 : Nat) (c3 : Int32) (c4 : Int32) (c5 : Int32) (hk1 : z_kw true o1 = (2, 0)) (hk2 : z_kw true o2 = (8, 0)) (kb : Int32 → z_S → Option (Unit × z_S)) (e187 : z_S → Option (Unit × z_S)) (hkb : ∀ (a6 : Int32) (μ : z_S), z_sim true rV mX6_plan 2 (kb a6 μ) 141 [(0, .ref 21), (1, .ref o1), (3, .int c3), (4, .int c4), (5, .int c5), (6, .int a6)] [] μ) (he187 : ∀  (μ : z_S), z_sim true rV mX6_plan 2 (e187 μ) 187 [(0, .ref 21), (1, .ref o1), (3, .int c3), (4, .int c4), (5, .int c5)] [] μ) (v6 : Int32) (s0 : Int32) (s1 : Int32) (q2 : Int32) (hq2 : vp_in q2 9) (μ : z_S) : z_sim true rV mX6_plan 2 (f_X6_plan_B180 N o1 o2 c3 c4 c5 kb e187 v6 s0 s1 q2 μ) 180 [(0, .ref 21), (1, .ref o1), (3, .int c3), (4, .int c4), (5, .int c5), (6, .int v6)] [.int s0, .int s1, .ref (25 + q2.toNatClampNeg)] μ := by
  unfold f_X6_plan_B180
  refine s_iast (pc := 180) dX6_plan_180 (ak_24 hq2) (fun μ_6 => ?_)
  refine s_iincB (pc := 181) (lv' := fun x8 => [(6, .int x8), (0, .ref 21), (1, .ref o1), (3, .int c3), (4, .int c4), (5, .int c5)]) (c := 1) 5 dX6_plan_181 rfl (by decide) (by decide) (fun _ => rfl) (fun x8 => ?_)
  refine s_goto (pc := 184) (tgt := 141) dX6_plan_184 (by decide) ?_
  refine s_sub (lv' := [(0, .ref 21), (1, .ref o1), (3, .int c3), (4, .int c4), (5, .int c5), (6, .int x8)]) [1, 2, 3, 4, 5, 0] rfl ?_
  exact hkb x8 μ_6
def b_X6_plan_L141 (N : Nat) (o1 : Nat) (o2 : Nat) (c3 : Int32) (c4 : Int32) (c5 : Int32) (kb : Int32 → z_S → Option (Unit × z_S)) (e187 : z_S → Option (Unit × z_S)) (v6 : Int32) (μ : z_S) : Option (Unit × z_S) :=
  if c4 < v6 then (e187 μ) else z_in c5 9 <| z_bn (f_X6_isWithin N v6 c4 μ) fun x7 μ_5 => if x7 = 0 then (f_X6_plan_B180 N o1 o2 c3 c4 c5 kb e187 v6 (0 : Int32) v6 c5 μ_5) else z_bn (f_X6_mostFrom N o1 c5 v6 μ_5) fun x9 μ_7 => f_X6_plan_B180 N o1 o2 c3 c4 c5 kb e187 v6 x9 v6 c5 μ_7
theorem tb_X6_plan_L141 (N : Nat) (o1 : Nat) (o2 : Nat) (c3 : Int32) (c4 : Int32) (c5 : Int32) (hk1 : z_kw true o1 = (2, 0)) (hk2 : z_kw true o2 = (8, 0)) (kb : Int32 → z_S → Option (Unit × z_S)) (e187 : z_S → Option (Unit × z_S)) (hkb : ∀ (a6 : Int32) (μ : z_S), z_sim true rV mX6_plan 2 (kb a6 μ) 141 [(0, .ref 21), (1, .ref o1), (3, .int c3), (4, .int c4), (5, .int c5), (6, .int a6)] [] μ) (he187 : ∀ (μ : z_S), z_sim true rV mX6_plan 2 (e187 μ) 187 [(0, .ref 21), (1, .ref o1), (3, .int c3), (4, .int c4), (5, .int c5)] [] μ) (v6 : Int32) (μ : z_S) : z_sim true rV mX6_plan 2 (b_X6_plan_L141 N o1 o2 c3 c4 c5 kb e187 v6 μ) 141 [(0, .ref 21), (1, .ref o1), (3, .int c3), (4, .int c4), (5, .int c5), (6, .int v6)] [] μ := by
  unfold b_X6_plan_L141
  refine s_iload (pc := 141) 5 dX6_plan_141 rfl ?_
  refine s_iload (pc := 143) 3 dX6_plan_143 rfl ?_
  refine s_icmp_gt (pc := 145) (tgt := 187) dX6_plan_145 (by decide) ?_ ?_
  · refine s_sub (lv' := [(0, .ref 21), (1, .ref o1), (3, .int c3), (4, .int c4), (5, .int c5)]) [0, 1, 2, 3, 4] rfl ?_
    exact he187 μ
  · refine s_aload_n (pc := 148) 0 dX6_plan_148 rfl rfl ?_
    refine s_getR (pc := 149) (ci := 6) (k := 3) (r := 24) dX6_plan_149 fl_6_20 kd_21 rfl rs_21_3 ?_
    refine s_iload (pc := 152) 4 dX6_plan_152 rfl ?_
    refine s_aald (pc := 154) (r := (25 + c5.toNatClampNeg)) dX6_plan_154 kd_24 (by decide) (by decide) (fun hi => ar_24 hi) (fun hi2 => ?_)
    refine s_iload (pc := 155) 5 dX6_plan_155 rfl ?_
    refine s_iload (pc := 157) 5 dX6_plan_157 rfl ?_
    refine s_iload (pc := 159) 3 dX6_plan_159 rfl ?_
    refine s_callSI (pc := 161) (as := [.int v6, .int c4]) (st := [.int v6, .ref (25 + c5.toNatClampNeg)]) dX6_plan_161 lk_6_49 (t_X6_isWithin N v6 c4 μ) (by omega) rfl (Nat.le_of_ble_eq_true rfl) rfl (fun x7 μ_5 => ?_)
    refine s_if_eq (pc := 164) (tgt := 179) dX6_plan_164 (by decide) ?_ ?_
    · refine s_iconst (pc := 179) (v := (0 : Int32)) dX6_plan_179 (by decide) ?_
      exact t_X6_plan_B180 N o1 o2 c3 c4 c5 hk1 hk2 kb e187 hkb he187 v6 (0 : Int32) v6 c5 hi2 μ_5
    · refine s_aload_n (pc := 167) 0 dX6_plan_167 rfl rfl ?_
      refine s_aload_n (pc := 168) 1 dX6_plan_168 rfl rfl ?_
      refine s_iload (pc := 169) 4 dX6_plan_169 rfl ?_
      refine s_iload (pc := 171) 5 dX6_plan_171 rfl ?_
      refine s_callVI (pc := 173) (as := [.ref o1, .int c5, .int v6]) (st := [.int v6, .ref (25 + c5.toNatClampNeg)]) dX6_plan_173 lk_6_53 kd_21 (t_X6_mostFrom N o1 c5 v6 μ_5) (by omega) rfl (Nat.le_of_ble_eq_true rfl) rfl (fun x9 μ_7 => ?_)
      refine s_goto (pc := 176) (tgt := 180) dX6_plan_176 (by decide) ?_
      exact t_X6_plan_B180 N o1 o2 c3 c4 c5 hk1 hk2 kb e187 hkb he187 v6 x9 v6 c5 hi2 μ_7
def f_X6_plan_L141 (N : Nat) (o1 : Nat) (o2 : Nat) (c3 : Int32) (c4 : Int32) (c5 : Int32) (e187 : z_S → Option (Unit × z_S)) : Nat → Int32 → z_S → Option (Unit × z_S)
  | 0, _, _ => none
  | n + 1, v6, μ => b_X6_plan_L141 N o1 o2 c3 c4 c5 (f_X6_plan_L141 N o1 o2 c3 c4 c5 e187 n) e187 v6 μ
theorem t_X6_plan_L141 (N : Nat) (o1 : Nat) (o2 : Nat) (c3 : Int32) (c4 : Int32) (c5 : Int32) (hk1 : z_kw true o1 = (2, 0)) (hk2 : z_kw true o2 = (8, 0)) (e187 : z_S → Option (Unit × z_S)) (he187 : ∀ (μ : z_S), z_sim true rV mX6_plan 2 (e187 μ) 187 [(0, .ref 21), (1, .ref o1), (3, .int c3), (4, .int c4), (5, .int c5)] [] μ) : ∀ (n : Nat) (v6 : Int32) (μ : z_S), z_sim true rV mX6_plan 2 (f_X6_plan_L141 N o1 o2 c3 c4 c5 e187 n v6 μ) 141 [(0, .ref 21), (1, .ref o1), (3, .int c3), (4, .int c4), (5, .int c5), (6, .int v6)] [] μ
  | 0, _, _ => s_none
  | n + 1, v6, μ => tb_X6_plan_L141 N o1 o2 c3 c4 c5 hk1 hk2 (f_X6_plan_L141 N o1 o2 c3 c4 c5 e187 n) e187 (t_X6_plan_L141 N o1 o2 c3 c4 c5 hk1 hk2 e187 he187 n) he187 v6 μ
def b_X6_plan_L133 (N : Nat) (o1 : Nat) (o2 : Nat) (c3 : Int32) (c4 : Int32) (kb : Int32 → z_S → Option (Unit × z_S)) (e193 : z_S → Option (Unit × z_S)) (v5 : Int32) (μ : z_S) : Option (Unit × z_S) :=
  if v5 < 0 then (e193 μ) else f_X6_plan_L141 N o1 o2 c3 c4 v5 (fun μ187 => z_bd (v5 + (-1)) fun x10 => kb x10 μ187) N (0 : Int32) μ
theorem tb_X6_plan_L133 (N : Nat) (o1 : Nat) (o2 : Nat) (c3 : Int32) (c4 : Int32) (hk1 : z_kw true o1 = (2, 0)) (hk2 : z_kw true o2 = (8, 0)) (kb : Int32 → z_S → Option (Unit × z_S)) (e193 : z_S → Option (Unit × z_S)) (hkb : ∀ (a5 : Int32) (μ : z_S), z_sim true rV mX6_plan 2 (kb a5 μ) 133 [(0, .ref 21), (1, .ref o1), (3, .int c3), (4, .int c4), (5, .int a5)] [] μ) (he193 : ∀ (μ : z_S), z_sim true rV mX6_plan 2 (e193 μ) 193 [(0, .ref 21), (1, .ref o1), (3, .int c3), (4, .int c4)] [] μ) (v5 : Int32) (μ : z_S) : z_sim true rV mX6_plan 2 (b_X6_plan_L133 N o1 o2 c3 c4 kb e193 v5 μ) 133 [(0, .ref 21), (1, .ref o1), (3, .int c3), (4, .int c4), (5, .int v5)] [] μ := by
  unfold b_X6_plan_L133
  refine s_iload (pc := 133) 4 dX6_plan_133 rfl ?_
  refine s_if_lt (pc := 135) (tgt := 193) dX6_plan_135 (by decide) ?_ ?_
  · refine s_sub (lv' := [(0, .ref 21), (1, .ref o1), (3, .int c3), (4, .int c4)]) [0, 1, 2, 3] rfl ?_
    exact he193 μ
  · refine s_iconst (pc := 138) (v := (0 : Int32)) dX6_plan_138 (by decide) ?_
    refine s_istore (pc := 139) (lv' := [(6, .int (0 : Int32)), (0, .ref 21), (1, .ref o1), (3, .int c3), (4, .int c4), (5, .int v5)]) dX6_plan_139 (by decide) rfl ?_
    refine s_sub (lv' := [(0, .ref 21), (1, .ref o1), (3, .int c3), (4, .int c4), (5, .int v5), (6, .int (0 : Int32))]) [1, 2, 3, 4, 5, 0] rfl ?_
    refine t_X6_plan_L141 N o1 o2 c3 c4 v5 hk1 hk2 _ ?_ N (0 : Int32) μ
    · intro μ187
      refine s_iincB (pc := 187) (lv' := fun x10 => [(5, .int x10), (0, .ref 21), (1, .ref o1), (3, .int c3), (4, .int c4)]) (c := -1) 4 dX6_plan_187 rfl (by decide) (by decide) (fun _ => rfl) (fun x10 => ?_)
      refine s_goto (pc := 190) (tgt := 133) dX6_plan_190 (by decide) ?_
      refine s_sub (lv' := [(0, .ref 21), (1, .ref o1), (3, .int c3), (4, .int c4), (5, .int x10)]) [1, 2, 3, 4, 0] rfl ?_
      exact hkb x10 μ187
def f_X6_plan_L133 (N : Nat) (o1 : Nat) (o2 : Nat) (c3 : Int32) (c4 : Int32) (e193 : z_S → Option (Unit × z_S)) : Nat → Int32 → z_S → Option (Unit × z_S)
  | 0, _, _ => none
  | n + 1, v5, μ => b_X6_plan_L133 N o1 o2 c3 c4 (f_X6_plan_L133 N o1 o2 c3 c4 e193 n) e193 v5 μ
theorem t_X6_plan_L133 (N : Nat) (o1 : Nat) (o2 : Nat) (c3 : Int32) (c4 : Int32) (hk1 : z_kw true o1 = (2, 0)) (hk2 : z_kw true o2 = (8, 0)) (e193 : z_S → Option (Unit × z_S)) (he193 : ∀ (μ : z_S), z_sim true rV mX6_plan 2 (e193 μ) 193 [(0, .ref 21), (1, .ref o1), (3, .int c3), (4, .int c4)] [] μ) : ∀ (n : Nat) (v5 : Int32) (μ : z_S), z_sim true rV mX6_plan 2 (f_X6_plan_L133 N o1 o2 c3 c4 e193 n v5 μ) 133 [(0, .ref 21), (1, .ref o1), (3, .int c3), (4, .int c4), (5, .int v5)] [] μ
  | 0, _, _ => s_none
  | n + 1, v5, μ => tb_X6_plan_L133 N o1 o2 c3 c4 hk1 hk2 (f_X6_plan_L133 N o1 o2 c3 c4 e193 n) e193 (t_X6_plan_L133 N o1 o2 c3 c4 hk1 hk2 e193 he193 n) he193 v5 μ
def f_X6_plan (N : Nat) (o1 : Nat) (o2 : Nat) (μ : z_S) : Option (Unit × z_S) :=
  z_ko true o1 2 <| z_ko true o2 8 <| f_X6_plan_L5 N o1 o2 (fun y71_3 μ71 => f_X6_plan_L77 N o1 o2 y71_3 (fun y113_4 μ113 => z_in y71_3 9 <| z_bn (f_J7_fill_fda19 N (25 + y71_3.toNatClampNeg) (0 : Int32) (y113_4 + (1 : Int32)) (0 : Int32) μ113) fun _ μ_4 => z_bd (y71_3 - (1 : Int32)) fun x6 => f_X6_plan_L133 N o1 o2 y71_3 y113_4 (fun μ193 => z_in (0 : Int32) 9 <| z_in y113_4 256 <| z_bd (z_setI μ193 21 1 (μ193.1 (25 + (0 : Int32).toNatClampNeg) y113_4.toNatClampNeg)) fun μ_8 => z_bn (f_X6_choose N o1 y71_3 y113_4 μ_8) fun _ μ_9 => some ((), μ_9)) N x6 μ_4) N (0 : Int32) (0 : Int32) μ71) N (0 : Int32) (0 : Int32) μ
theorem t_X6_plan (N : Nat) (o1 : Nat) (o2 : Nat) (μ : z_S) : z_met true rV mX6_plan 2 [.ref 21, .ref o1, .ref o2] μ (f_X6_plan N o1 o2 μ) := by
  refine z_met.of (by decide +kernel) (by show _ ≤ _; first | decide | exact Nat.le_of_ble_eq_true rfl) (lv := [(0, .ref 21), (1, .ref o1), (2, .ref o2)]) rfl ?_
  unfold f_X6_plan
  refine s_ko (fun hk1 => ?_)
  refine s_ko (fun hk2 => ?_)
  refine s_iconst (pc := 0) (v := (0 : Int32)) dX6_plan_0 (by decide) ?_
  refine s_istore_n (pc := 1) (lv' := [(3, .int (0 : Int32)), (0, .ref 21), (1, .ref o1), (2, .ref o2)]) dX6_plan_1 rfl (by decide) rfl ?_
  refine s_iconst (pc := 2) (v := (0 : Int32)) dX6_plan_2 (by decide) ?_
  refine s_istore (pc := 3) (lv' := [(4, .int (0 : Int32)), (3, .int (0 : Int32)), (0, .ref 21), (1, .ref o1), (2, .ref o2)]) dX6_plan_3 (by decide) rfl ?_
  refine s_sub (lv' := [(0, .ref 21), (1, .ref o1), (2, .ref o2), (3, .int (0 : Int32)), (4, .int (0 : Int32))]) [2, 3, 4, 1, 0] rfl ?_
  refine t_X6_plan_L5 N o1 o2 hk1 hk2 _ ?_ N (0 : Int32) (0 : Int32) μ
  · intro y71_3 μ71
    refine s_iconst (pc := 71) (v := (0 : Int32)) dX6_plan_71 (by decide) ?_
    refine s_istore (pc := 72) (lv' := [(4, .int (0 : Int32)), (0, .ref 21), (1, .ref o1), (2, .ref o2), (3, .int y71_3)]) dX6_plan_72 (by decide) rfl ?_
    refine s_iconst (pc := 74) (v := (0 : Int32)) dX6_plan_74 (by decide) ?_
    refine s_istore (pc := 75) (lv' := [(5, .int (0 : Int32)), (4, .int (0 : Int32)), (0, .ref 21), (1, .ref o1), (2, .ref o2), (3, .int y71_3)]) dX6_plan_75 (by decide) rfl ?_
    refine s_sub (lv' := [(0, .ref 21), (1, .ref o1), (2, .ref o2), (3, .int y71_3), (4, .int (0 : Int32)), (5, .int (0 : Int32))]) [2, 3, 4, 5, 1, 0] rfl ?_
    refine t_X6_plan_L77 N o1 o2 y71_3 hk1 hk2 _ ?_ N (0 : Int32) (0 : Int32) μ71
    · intro y113_4 μ113
      refine s_aload_n (pc := 113) 0 dX6_plan_113 rfl rfl ?_
      refine s_getR (pc := 114) (ci := 6) (k := 3) (r := 24) dX6_plan_114 fl_6_20 kd_21 rfl rs_21_3 ?_
      refine s_iload_n (pc := 117) 2 dX6_plan_117 rfl rfl ?_
      refine s_aald (pc := 118) (r := (25 + y71_3.toNatClampNeg)) dX6_plan_118 kd_24 (by decide) (by decide) (fun hi => ar_24 hi) (fun hi1 => ?_)
      refine s_iconst (pc := 119) (v := (0 : Int32)) dX6_plan_119 (by decide) ?_
      refine s_iload (pc := 120) 3 dX6_plan_120 rfl ?_
      refine s_iconst (pc := 122) (v := (1 : Int32)) dX6_plan_122 (by decide) ?_
      refine s_iadd (pc := 123) dX6_plan_123 ?_
      refine s_iconst (pc := 124) (v := (0 : Int32)) dX6_plan_124 (by decide) ?_
      refine s_callSV (pc := 125) (as := [.ref (25 + y71_3.toNatClampNeg), .int (0 : Int32), .int (y113_4 + (1 : Int32)), .int (0 : Int32)]) (st := []) dX6_plan_125 lk_6_43 (t_J7_fill_fda19 N (25 + y71_3.toNatClampNeg) (0 : Int32) (y113_4 + (1 : Int32)) (0 : Int32) μ113) (by omega) rfl (by decide) rfl (fun _ μ_4 => ?_)
      refine s_iload_n (pc := 128) 2 dX6_plan_128 rfl rfl ?_
      refine s_iconst (pc := 129) (v := (1 : Int32)) dX6_plan_129 (by decide) ?_
      refine s_isub (pc := 130) dX6_plan_130 ?_
      refine s_letI (fun x6 => ?_)
      refine s_istore (pc := 131) (lv' := [(5, .int x6), (0, .ref 21), (1, .ref o1), (3, .int y71_3), (4, .int y113_4)]) dX6_plan_131 (by decide) rfl ?_
      refine s_sub (lv' := [(0, .ref 21), (1, .ref o1), (3, .int y71_3), (4, .int y113_4), (5, .int x6)]) [1, 2, 3, 4, 0] rfl ?_
      refine t_X6_plan_L133 N o1 o2 y71_3 y113_4 hk1 hk2 _ ?_ N x6 μ_4
      · intro μ193
        refine s_aload_n (pc := 193) 0 dX6_plan_193 rfl rfl ?_
        refine s_aload_n (pc := 194) 0 dX6_plan_194 rfl rfl ?_
        refine s_getR (pc := 195) (ci := 6) (k := 3) (r := 24) dX6_plan_195 fl_6_20 kd_21 rfl rs_21_3 ?_
        refine s_iconst (pc := 198) (v := (0 : Int32)) dX6_plan_198 (by decide) ?_
        refine s_aald (pc := 199) (r := (25 + (0 : Int32).toNatClampNeg)) dX6_plan_199 kd_24 (by decide) (by decide) (fun hi => ar_24 hi) (fun hi3 => ?_)
        refine s_iload (pc := 200) 3 dX6_plan_200 rfl ?_
        refine s_iald (pc := 202) dX6_plan_202 (ak_24 hi3) ?_
        refine s_putI (pc := 203) (ci := 6) (k := 1) dX6_plan_203 fl_6_57 kd_21 rfl rfl (fun μ_8 => ?_)
        refine s_aload_n (pc := 206) 0 dX6_plan_206 rfl rfl ?_
        refine s_aload_n (pc := 207) 1 dX6_plan_207 rfl rfl ?_
        refine s_iload_n (pc := 208) 2 dX6_plan_208 rfl rfl ?_
        refine s_iload (pc := 209) 3 dX6_plan_209 rfl ?_
        refine s_callVV (pc := 211) (as := [.ref o1, .int y71_3, .int y113_4]) (st := []) dX6_plan_211 lk_6_61 kd_21 (t_X6_choose N o1 y71_3 y113_4 μ_8) (by omega) rfl (by decide) rfl (fun _ μ_9 => ?_)
        exact s_vret (pc := 214) dX6_plan_214 rfl
