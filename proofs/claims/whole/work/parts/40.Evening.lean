def f_X1_rowShift (N : Nat) (a0 : Int32) (μ : z_S) : Option (Int32 × z_S) :=
  some (((14 : Int32) - ((2 : Int32) * a0)), μ)
theorem t_X1_rowShift (N : Nat) (a0 : Int32) (μ : z_S) : z_met true rI mX1_rowShift 0 [.int a0] μ (f_X1_rowShift N a0 μ) := by
  refine z_met.of (by decide +kernel) (by show _ ≤ _; first | decide | exact Nat.le_of_ble_eq_true rfl) (lv := [(0, .int a0)]) rfl ?_
  unfold f_X1_rowShift
  refine s_bipush (pc := 0) (v := (14 : Int32)) dX1_rowShift_0 (by decide) ?_
  refine s_iconst (pc := 2) (v := (2 : Int32)) dX1_rowShift_2 (by decide) ?_
  refine s_iload_n (pc := 3) 0 dX1_rowShift_3 rfl rfl ?_
  refine s_imul (pc := 4) dX1_rowShift_4 ?_
  refine s_isub (pc := 5) dX1_rowShift_5 ?_
  exact s_iret (pc := 6) rfl dX1_rowShift_6 rfl
def f_X1_weigh_B101 (N : Nat) (o1 : Nat) (o2 : Nat) (c3 : Int32) (c4 : Int32) (kb : Int32 → Int32 → z_S → Option (Int32 × z_S)) (v5 : Int32) (v6 : Int32) (μ : z_S) : Option (Int32 × z_S) :=
  z_bd (v6 + 1) fun x2 => kb v5 x2 μ
theorem t_X1_weigh_B101 (N : Nat) (o1 : Nat) (o2 : Nat) (c3 : Int32) (c4 : Int32) (hk1 : z_kw true o1 = (2, 0)) (hk2 : z_kw true o2 = (8, 0)) (kb : Int32 → Int32 → z_S → Option (Int32 × z_S)) (hkb : ∀ (a5 : Int32) (a6 : Int32) (μ : z_S), z_sim true rI mX1_weigh 5 (kb a5 a6 μ) 6 [(0, .ref 8), (1, .ref o1), (2, .ref o2), (3, .int c3), (4, .int c4), (5, .int a5), (6, .int a6)] [] μ) (v5 : Int32) (v6 : Int32)  (μ : z_S) : z_sim true rI mX1_weigh 5 (f_X1_weigh_B101 N o1 o2 c3 c4 kb v5 v6 μ) 101 [(0, .ref 8), (1, .ref o1), (2, .ref o2), (3, .int c3), (4, .int c4), (5, .int v5), (6, .int v6)] [] μ := by
  unfold f_X1_weigh_B101
  refine s_iincB (pc := 101) (lv' := fun x2 => [(6, .int x2), (0, .ref 8), (1, .ref o1), (2, .ref o2), (3, .int c3), (4, .int c4), (5, .int v5)]) (c := 1) 6 dX1_weigh_101 rfl (by decide) (by decide) (fun _ => rfl) (fun x2 => ?_)
  refine s_goto (pc := 104) (tgt := 6) dX1_weigh_104 (by decide) ?_
  refine s_sub (lv' := [(0, .ref 8), (1, .ref o1), (2, .ref o2), (3, .int c3), (4, .int c4), (5, .int v5), (6, .int x2)]) [1, 2, 3, 4, 5, 6, 0] rfl ?_
  exact hkb v5 x2 μ
def b_X1_weigh_L6 (N : Nat) (o1 : Nat) (o2 : Nat) (c3 : Int32) (c4 : Int32) (kb : Int32 → Int32 → z_S → Option (Int32 × z_S)) (v5 : Int32) (v6 : Int32) (μ : z_S) : Option (Int32 × z_S) :=
  if v6 < (μ.1 (o1 + 1) 2) then (z_bn (f_X4_timeIfAble N o1 o2 c3 v6 μ) fun x1 μ_1 => z_in v6 3 <| z_in c4 8 <| z_bd (z_setI μ_1 (11 + v6.toNatClampNeg) c4.toNatClampNeg x1) fun μ_2 => if x1 = (-1 : Int32) then (f_X1_weigh_B101 N o1 o2 c3 c4 kb v5 v6 μ_2) else z_bn (f_X4_warmthOf N o1 o2 c3 v6 μ_2) fun x3 μ_3 => z_bd x3.toInt64 fun x4 => z_bn (f_X1_rowShift N c3 μ_3) fun x5 μ_4 => z_bd ((v6 + (1 : Int32)).toInt64 <<< (x5.toInt64 &&& 63)) fun x6 => z_in v6 3 <| z_in c4 8 <| z_bd (z_setJ μ_4 (15 + v6.toNatClampNeg) c4.toNatClampNeg ((((268435456 : Int64) + x4) <<< ((16 : Int32).toInt64 &&& 63)) - x6)) fun μ_5 => f_X1_weigh_B101 N o1 o2 c3 c4 kb (1 : Int32) v6 μ_5) else z_zb v5 (some (v5, μ))
theorem tb_X1_weigh_L6 (N : Nat) (o1 : Nat) (o2 : Nat) (c3 : Int32) (c4 : Int32) (hk1 : z_kw true o1 = (2, 0)) (hk2 : z_kw true o2 = (8, 0)) (kb : Int32 → Int32 → z_S → Option (Int32 × z_S)) (hkb : ∀ (a5 : Int32) (a6 : Int32) (μ : z_S), z_sim true rI mX1_weigh 5 (kb a5 a6 μ) 6 [(0, .ref 8), (1, .ref o1), (2, .ref o2), (3, .int c3), (4, .int c4), (5, .int a5), (6, .int a6)] [] μ) (v5 : Int32) (v6 : Int32) (μ : z_S) : z_sim true rI mX1_weigh 5 (b_X1_weigh_L6 N o1 o2 c3 c4 kb v5 v6 μ) 6 [(0, .ref 8), (1, .ref o1), (2, .ref o2), (3, .int c3), (4, .int c4), (5, .int v5), (6, .int v6)] [] μ := by
  unfold b_X1_weigh_L6
  refine s_iload (pc := 6) 6 dX1_weigh_6 rfl ?_
  refine s_aload_n (pc := 8) 1 dX1_weigh_8 rfl rfl ?_
  refine s_getR (pc := 9) (ci := 2) (k := 0) (r := (o1 + 1)) dX1_weigh_9 fl_1_39 hk1 rfl (gr_2_0_0 hk1) ?_
  refine s_iconst (pc := 12) (v := (2 : Int32)) dX1_weigh_12 (by decide) ?_
  refine s_ialdK (pc := 13) (k := 2) dX1_weigh_13 (gk_2_1 hk1) (by decide) (by decide) (by decide) ?_
  refine s_icmp_ge (pc := 14) (tgt := 107) dX1_weigh_14 (by decide) ?_ ?_
  · refine s_aload_n (pc := 17) 0 dX1_weigh_17 rfl rfl ?_
    refine s_getR (pc := 18) (ci := 1) (k := 0) (r := 4) dX1_weigh_18 fl_1_35 kd_8 rfl rs_8_0 ?_
    refine s_aload_n (pc := 21) 1 dX1_weigh_21 rfl rfl ?_
    refine s_aload_n (pc := 22) 2 dX1_weigh_22 rfl rfl ?_
    refine s_iload_n (pc := 23) 3 dX1_weigh_23 rfl rfl ?_
    refine s_iload (pc := 24) 6 dX1_weigh_24 rfl ?_
    refine s_callVI (pc := 26) (as := [.ref o1, .ref o2, .int c3, .int v6]) (st := []) dX1_weigh_26 lk_1_90 kd_4 (t_X4_timeIfAble N o1 o2 c3 v6 μ) (by omega) rfl (by decide) rfl (fun x1 μ_1 => ?_)
    refine s_istore (pc := 29) (lv' := [(7, .int x1), (0, .ref 8), (1, .ref o1), (2, .ref o2), (3, .int c3), (4, .int c4), (5, .int v5), (6, .int v6)]) dX1_weigh_29 (by decide) rfl ?_
    refine s_aload_n (pc := 31) 1 dX1_weigh_31 rfl rfl ?_
    refine s_getR (pc := 32) (ci := 1) (k := 4) (r := 10) dX1_weigh_32 fl_1_17 kd_8 rfl rs_8_4 ?_
    refine s_iload (pc := 35) 7 dX1_weigh_35 rfl ?_
    refine s_aald (pc := 37) (r := (11 + v6.toNatClampNeg)) dX1_weigh_37 kd_10 (by decide) (by decide) (fun hi => ar_10 hi) (fun hi1 => ?_)
    refine s_iload (pc := 38) 5 dX1_weigh_38 rfl ?_
    refine s_iload (pc := 40) 0 dX1_weigh_40 rfl ?_
    refine s_iast (pc := 42) dX1_weigh_42 (ak_10 hi1) (fun μ_2 => ?_)
    refine s_iload (pc := 43) 0 dX1_weigh_43 rfl ?_
    refine s_iconst (pc := 45) (v := (-1 : Int32)) dX1_weigh_45 (by decide) ?_
    refine s_icmp_eq (pc := 46) (tgt := 101) dX1_weigh_46 (by decide) ?_ ?_
    · refine s_sub (lv' := [(0, .ref 8), (1, .ref o1), (2, .ref o2), (3, .int c3), (4, .int c4), (5, .int v5), (6, .int v6)]) [1, 2, 3, 4, 5, 6, 7] rfl ?_
      exact t_X1_weigh_B101 N o1 o2 c3 c4 hk1 hk2 kb hkb v5 v6 μ_2
    · refine s_iconst (pc := 49) (v := (1 : Int32)) dX1_weigh_49 (by decide) ?_
      refine s_istore (pc := 50) (lv' := [(5, .int (1 : Int32)), (7, .int x1), (0, .ref 8), (1, .ref o1), (2, .ref o2), (3, .int c3), (4, .int c4), (6, .int v6)]) dX1_weigh_50 (by decide) rfl ?_
      refine s_aload_n (pc := 52) 2 dX1_weigh_52 rfl rfl ?_
      refine s_getR (pc := 53) (ci := 1) (k := 0) (r := 4) dX1_weigh_53 fl_1_35 kd_8 rfl rs_8_0 ?_
      refine s_aload_n (pc := 56) 3 dX1_weigh_56 rfl rfl ?_
      refine s_aload_n (pc := 57) 4 dX1_weigh_57 rfl rfl ?_
      refine s_iload_n (pc := 58) 5 dX1_weigh_58 rfl rfl ?_
      refine s_iload (pc := 59) 7 dX1_weigh_59 rfl ?_
      refine s_callVI (pc := 61) (as := [.ref o1, .ref o2, .int c3, .int v6]) (st := []) dX1_weigh_61 lk_1_96 kd_4 (t_X4_warmthOf N o1 o2 c3 v6 μ_2) (by omega) rfl (by decide) rfl (fun x3 μ_3 => ?_)
      refine s_i2l (pc := 64) dX1_weigh_64 ?_
      refine s_letJ (fun x4 => ?_)
      refine s_lstore (pc := 65) (lv' := [(8, .long x4), (5, .int (1 : Int32)), (7, .int x1), (0, .ref 8), (1, .ref o1), (2, .ref o2), (3, .int c3), (4, .int c4), (6, .int v6)]) dX1_weigh_65 (by decide) rfl ?_
      refine s_iload (pc := 67) 8 dX1_weigh_67 rfl ?_
      refine s_iconst (pc := 69) (v := (1 : Int32)) dX1_weigh_69 (by decide) ?_
      refine s_iadd (pc := 70) dX1_weigh_70 ?_
      refine s_i2l (pc := 71) dX1_weigh_71 ?_
      refine s_iload_n (pc := 72) 6 dX1_weigh_72 rfl rfl ?_
      refine s_callSI (pc := 73) (as := [.int c3]) (st := [.long (v6 + (1 : Int32)).toInt64]) dX1_weigh_73 lk_1_99 (t_X1_rowShift N c3 μ_3) (by omega) rfl (Nat.le_of_ble_eq_true rfl) rfl (fun x5 μ_4 => ?_)
      refine s_lshl (pc := 76) dX1_weigh_76 ?_
      refine s_letJ (fun x6 => ?_)
      refine s_lstore (pc := 77) (lv' := [(10, .long x6), (8, .long x4), (5, .int (1 : Int32)), (7, .int x1), (0, .ref 8), (1, .ref o1), (2, .ref o2), (3, .int c3), (4, .int c4), (6, .int v6)]) dX1_weigh_77 (by decide) rfl ?_
      refine s_aload_n (pc := 79) 4 dX1_weigh_79 rfl rfl ?_
      refine s_getR (pc := 80) (ci := 1) (k := 5) (r := 14) dX1_weigh_80 fl_1_22 kd_8 rfl rs_8_5 ?_
      refine s_iload (pc := 83) 9 dX1_weigh_83 rfl ?_
      refine s_aald (pc := 85) (r := (15 + v6.toNatClampNeg)) dX1_weigh_85 kd_14 (by decide) (by decide) (fun hi => ar_14 hi) (fun hi2 => ?_)
      refine s_iload (pc := 86) 8 dX1_weigh_86 rfl ?_
      refine s_ldc2 (pc := 88) (v := (268435456 : Int64)) dX1_weigh_88 w_1026 ?_
      refine s_lload (pc := 91) 1 dX1_weigh_91 rfl ?_
      refine s_ladd (pc := 93) dX1_weigh_93 ?_
      refine s_bipush (pc := 94) (v := (16 : Int32)) dX1_weigh_94 (by decide) ?_
      refine s_lshl (pc := 96) dX1_weigh_96 ?_
      refine s_lload (pc := 97) 0 dX1_weigh_97 rfl ?_
      refine s_lsub (pc := 99) dX1_weigh_99 ?_
      refine s_last (pc := 100) dX1_weigh_100 (ak_14 hi2) (fun μ_5 => ?_)
      refine s_sub (lv' := [(0, .ref 8), (1, .ref o1), (2, .ref o2), (3, .int c3), (4, .int c4), (5, .int (1 : Int32)), (6, .int v6)]) [4, 5, 6, 7, 8, 2, 9] rfl ?_
      exact t_X1_weigh_B101 N o1 o2 c3 c4 hk1 hk2 kb hkb (1 : Int32) v6 μ_5
  · refine s_iload (pc := 107) 5 dX1_weigh_107 rfl ?_
    exact s_zret (pc := 109) dX1_weigh_109 rfl
def f_X1_weigh_L6 (N : Nat) (o1 : Nat) (o2 : Nat) (c3 : Int32) (c4 : Int32) : Nat → Int32 → Int32 → z_S → Option (Int32 × z_S)
  | 0, _, _, _ => none
  | n + 1, v5, v6, μ => b_X1_weigh_L6 N o1 o2 c3 c4 (f_X1_weigh_L6 N o1 o2 c3 c4 n) v5 v6 μ
theorem t_X1_weigh_L6 (N : Nat) (o1 : Nat) (o2 : Nat) (c3 : Int32) (c4 : Int32) (hk1 : z_kw true o1 = (2, 0)) (hk2 : z_kw true o2 = (8, 0)) : ∀ (n : Nat) (v5 : Int32) (v6 : Int32) (μ : z_S), z_sim true rI mX1_weigh 5 (f_X1_weigh_L6 N o1 o2 c3 c4 n v5 v6 μ) 6 [(0, .ref 8), (1, .ref o1), (2, .ref o2), (3, .int c3), (4, .int c4), (5, .int v5), (6, .int v6)] [] μ
  | 0, _, _, _ => s_none
  | n + 1, v5, v6, μ => tb_X1_weigh_L6 N o1 o2 c3 c4 hk1 hk2 (f_X1_weigh_L6 N o1 o2 c3 c4 n) (t_X1_weigh_L6 N o1 o2 c3 c4 hk1 hk2 n) v5 v6 μ
def f_X1_weigh (N : Nat) (o1 : Nat) (o2 : Nat) (a3 : Int32) (a4 : Int32) (μ : z_S) : Option (Int32 × z_S) :=
  z_ko true o1 2 <| z_ko true o2 8 <| f_X1_weigh_L6 N o1 o2 a3 a4 N (0 : Int32) (0 : Int32) μ
theorem t_X1_weigh (N : Nat) (o1 : Nat) (o2 : Nat) (a3 : Int32) (a4 : Int32) (μ : z_S) : z_met true rI mX1_weigh 5 [.ref 8, .ref o1, .ref o2, .int a3, .int a4] μ (f_X1_weigh N o1 o2 a3 a4 μ) := by
  refine z_met.of (by decide +kernel) (by show _ ≤ _; first | decide | exact Nat.le_of_ble_eq_true rfl) (lv := [(0, .ref 8), (1, .ref o1), (2, .ref o2), (3, .int a3), (4, .int a4)]) rfl ?_
  unfold f_X1_weigh
  refine s_ko (fun hk1 => ?_)
  refine s_ko (fun hk2 => ?_)
  refine s_iconst (pc := 0) (v := (0 : Int32)) dX1_weigh_0 (by decide) ?_
  refine s_istore (pc := 1) (lv' := [(5, .int (0 : Int32)), (0, .ref 8), (1, .ref o1), (2, .ref o2), (3, .int a3), (4, .int a4)]) dX1_weigh_1 (by decide) rfl ?_
  refine s_iconst (pc := 3) (v := (0 : Int32)) dX1_weigh_3 (by decide) ?_
  refine s_istore (pc := 4) (lv' := [(6, .int (0 : Int32)), (5, .int (0 : Int32)), (0, .ref 8), (1, .ref o1), (2, .ref o2), (3, .int a3), (4, .int a4)]) dX1_weigh_4 (by decide) rfl ?_
  refine s_sub (lv' := [(0, .ref 8), (1, .ref o1), (2, .ref o2), (3, .int a3), (4, .int a4), (5, .int (0 : Int32)), (6, .int (0 : Int32))]) [2, 3, 4, 5, 6, 1, 0] rfl ?_
  refine t_X1_weigh_L6 N o1 o2 a3 a4 hk1 hk2 N (0 : Int32) (0 : Int32) μ
def f_X1_price_B147 (N : Nat) (c1 : Int32) (c2 : Int32) (c3 : Int32) (kb : Int32 → Int32 → z_S → Option (Unit × z_S)) (v4 : Int32) (v5 : Int32) (s0 : Int64) (s1 : Int32) (μ : z_S) : Option (Unit × z_S) :=
  z_in s1 256 <| z_bd (z_setJ μ 19 s1.toNatClampNeg s0) fun μ_4 => z_bd (v5 + 1) fun x4 => kb v4 x4 μ_4
theorem t_X1_price_B147 (N : Nat) (c1 : Int32) (c2 : Int32) (c3 : Int32)  (kb : Int32 → Int32 → z_S → Option (Unit × z_S)) (hkb : ∀ (a4 : Int32) (a5 : Int32) (μ : z_S), z_sim true rV mX1_price 0 (kb a4 a5 μ) 20 [(0, .ref 8), (1, .int c1), (2, .int c2), (3, .int c3), (4, .int a4), (5, .int a5)] [] μ) (v4 : Int32) (v5 : Int32) (s0 : Int64) (s1 : Int32)  (μ : z_S) : z_sim true rV mX1_price 0 (f_X1_price_B147 N c1 c2 c3 kb v4 v5 s0 s1 μ) 147 [(0, .ref 8), (1, .int c1), (2, .int c2), (3, .int c3), (4, .int v4), (5, .int v5)] [.long s0, .int s1, .ref 19] μ := by
  unfold f_X1_price_B147
  refine s_last (pc := 147) dX1_price_147 kd_19 (fun μ_4 => ?_)
  refine s_iincB (pc := 148) (lv' := fun x4 => [(5, .int x4), (0, .ref 8), (1, .int c1), (2, .int c2), (3, .int c3), (4, .int v4)]) (c := 1) 5 dX1_price_148 rfl (by decide) (by decide) (fun _ => rfl) (fun x4 => ?_)
  refine s_goto (pc := 151) (tgt := 20) dX1_price_151 (by decide) ?_
  refine s_sub (lv' := [(0, .ref 8), (1, .int c1), (2, .int c2), (3, .int c3), (4, .int v4), (5, .int x4)]) [1, 2, 3, 4, 5, 0] rfl ?_
  exact hkb v4 x4 μ_4
def f_X1_price_B111 (N : Nat) (c1 : Int32) (c2 : Int32) (c3 : Int32) (kb : Int32 → Int32 → z_S → Option (Unit × z_S)) (v4 : Int32) (v5 : Int32) (v6 : Int32) (s0 : Int32) (μ : z_S) : Option (Unit × z_S) :=
  if s0 = 0 then (f_X1_price_B147 N c1 c2 c3 kb v4 v5 (-1 : Int64) v5 μ) else z_in v6 256 <| z_in c1 3 <| z_in v4 8 <| f_X1_price_B147 N c1 c2 c3 kb v4 v5 ((μ.2.1 19 v6.toNatClampNeg) + (μ.2.1 (15 + c1.toNatClampNeg) v4.toNatClampNeg)) v5 μ
theorem t_X1_price_B111 (N : Nat) (c1 : Int32) (c2 : Int32) (c3 : Int32)  (kb : Int32 → Int32 → z_S → Option (Unit × z_S)) (hkb : ∀ (a4 : Int32) (a5 : Int32) (μ : z_S), z_sim true rV mX1_price 0 (kb a4 a5 μ) 20 [(0, .ref 8), (1, .int c1), (2, .int c2), (3, .int c3), (4, .int a4), (5, .int a5)] [] μ) (v4 : Int32) (v5 : Int32) (v6 : Int32) (s0 : Int32)  (μ : z_S) : z_sim true rV mX1_price 0 (f_X1_price_B111 N c1 c2 c3 kb v4 v5 v6 s0 μ) 111 [(0, .ref 8), (1, .int c1), (2, .int c2), (3, .int c3), (4, .int v4), (5, .int v5), (6, .int v6)] [.int s0] μ := by
  unfold f_X1_price_B111
  refine s_istore (pc := 111) (lv' := [(8, .int s0), (0, .ref 8), (1, .int c1), (2, .int c2), (3, .int c3), (4, .int v4), (5, .int v5), (6, .int v6)]) dX1_price_111 (by decide) rfl ?_
  refine s_aload_n (pc := 113) 1 dX1_price_113 rfl rfl ?_
  refine s_getR (pc := 114) (ci := 1) (k := 7) (r := 19) dX1_price_114 fl_1_28 kd_8 rfl rs_8_7 ?_
  refine s_iload (pc := 117) 6 dX1_price_117 rfl ?_
  refine s_iload (pc := 119) 0 dX1_price_119 rfl ?_
  refine s_if_eq (pc := 121) (tgt := 144) dX1_price_121 (by decide) ?_ ?_
  · refine s_ldc2 (pc := 144) (v := (-1 : Int64)) dX1_price_144 w_1027 ?_
    refine s_sub (lv' := [(0, .ref 8), (1, .int c1), (2, .int c2), (3, .int c3), (4, .int v4), (5, .int v5)]) [1, 2, 3, 4, 5, 6] rfl ?_
    exact t_X1_price_B147 N c1 c2 c3 kb hkb v4 v5 (-1 : Int64) v5 μ
  · refine s_aload_n (pc := 124) 1 dX1_price_124 rfl rfl ?_
    refine s_getR (pc := 125) (ci := 1) (k := 7) (r := 19) dX1_price_125 fl_1_28 kd_8 rfl rs_8_7 ?_
    refine s_iload (pc := 128) 7 dX1_price_128 rfl ?_
    refine s_lald (pc := 130) dX1_price_130 kd_19 ?_
    refine s_aload_n (pc := 131) 1 dX1_price_131 rfl rfl ?_
    refine s_getR (pc := 132) (ci := 1) (k := 5) (r := 14) dX1_price_132 fl_1_22 kd_8 rfl rs_8_5 ?_
    refine s_iload_n (pc := 135) 2 dX1_price_135 rfl rfl ?_
    refine s_aald (pc := 136) (r := (15 + c1.toNatClampNeg)) dX1_price_136 kd_14 (by decide) (by decide) (fun hi => ar_14 hi) (fun hi2 => ?_)
    refine s_iload (pc := 137) 5 dX1_price_137 rfl ?_
    refine s_lald (pc := 139) dX1_price_139 (ak_14 hi2) ?_
    refine s_ladd (pc := 140) dX1_price_140 ?_
    refine s_goto (pc := 141) (tgt := 147) dX1_price_141 (by decide) ?_
    refine s_sub (lv' := [(0, .ref 8), (1, .int c1), (2, .int c2), (3, .int c3), (4, .int v4), (5, .int v5)]) [1, 2, 3, 4, 5, 6] rfl ?_
    exact t_X1_price_B147 N c1 c2 c3 kb hkb v4 v5 ((μ.2.1 19 v6.toNatClampNeg) + (μ.2.1 (15 + c1.toNatClampNeg) v4.toNatClampNeg)) v5 μ
def f_X1_price_B110 (N : Nat) (c1 : Int32) (c2 : Int32) (c3 : Int32) (kb : Int32 → Int32 → z_S → Option (Unit × z_S)) (v4 : Int32) (v5 : Int32) (v6 : Int32) (μ : z_S) : Option (Unit × z_S) :=
  f_X1_price_B111 N c1 c2 c3 kb v4 v5 v6 (0 : Int32) μ
theorem t_X1_price_B110 (N : Nat) (c1 : Int32) (c2 : Int32) (c3 : Int32)  (kb : Int32 → Int32 → z_S → Option (Unit × z_S)) (hkb : ∀ (a4 : Int32) (a5 : Int32) (μ : z_S), z_sim true rV mX1_price 0 (kb a4 a5 μ) 20 [(0, .ref 8), (1, .int c1), (2, .int c2), (3, .int c3), (4, .int a4), (5, .int a5)] [] μ) (v4 : Int32) (v5 : Int32) (v6 : Int32)  (μ : z_S) : z_sim true rV mX1_price 0 (f_X1_price_B110 N c1 c2 c3 kb v4 v5 v6 μ) 110 [(0, .ref 8), (1, .int c1), (2, .int c2), (3, .int c3), (4, .int v4), (5, .int v5), (6, .int v6)] [] μ := by
  unfold f_X1_price_B110
  refine s_iconst (pc := 110) (v := (0 : Int32)) dX1_price_110 (by decide) ?_
  exact t_X1_price_B111 N c1 c2 c3 kb hkb v4 v5 v6 (0 : Int32) μ
def f_X1_price_B38 (N : Nat) (c1 : Int32) (c2 : Int32) (c3 : Int32) (kb : Int32 → Int32 → z_S → Option (Unit × z_S)) (v4 : Int32) (v5 : Int32) (μ : z_S) : Option (Unit × z_S) :=
  z_bd (v5 ^^^ ((1 : Int32) <<< (v4 &&& 31))) fun x2 => z_in c1 3 <| z_in v4 8 <| z_bd (μ.1 (11 + c1.toNatClampNeg) v4.toNatClampNeg) fun x3 => z_in x2 256 <| z_in v5 256 <| z_bd (z_setI μ 18 v5.toNatClampNeg ((μ.1 18 x2.toNatClampNeg) + x3)) fun μ_3 => z_in x2 256 <| if (μ_3.2.1 19 x2.toNatClampNeg) = (-1 : Int64) then (f_X1_price_B110 N c1 c2 c3 kb v4 v5 x2 μ_3) else if x3 = (-1 : Int32) then (f_X1_price_B110 N c1 c2 c3 kb v4 v5 x2 μ_3) else z_in v5 256 <| if c3 < (μ_3.1 18 v5.toNatClampNeg) then (f_X1_price_B110 N c1 c2 c3 kb v4 v5 x2 μ_3) else f_X1_price_B111 N c1 c2 c3 kb v4 v5 x2 (1 : Int32) μ_3
theorem t_X1_price_B38 (N : Nat) (c1 : Int32) (c2 : Int32) (c3 : Int32)  (kb : Int32 → Int32 → z_S → Option (Unit × z_S)) (hkb : ∀ (a4 : Int32) (a5 : Int32) (μ : z_S), z_sim true rV mX1_price 0 (kb a4 a5 μ) 20 [(0, .ref 8), (1, .int c1), (2, .int c2), (3, .int c3), (4, .int a4), (5, .int a5)] [] μ) (v4 : Int32) (v5 : Int32)  (μ : z_S) : z_sim true rV mX1_price 0 (f_X1_price_B38 N c1 c2 c3 kb v4 v5 μ) 38 [(0, .ref 8), (1, .int c1), (2, .int c2), (3, .int c3), (4, .int v4), (5, .int v5)] [] μ := by
  unfold f_X1_price_B38
  refine s_iload (pc := 38) 5 dX1_price_38 rfl ?_
  refine s_iconst (pc := 40) (v := (1 : Int32)) dX1_price_40 (by decide) ?_
  refine s_iload (pc := 41) 4 dX1_price_41 rfl ?_
  refine s_ishl (pc := 43) dX1_price_43 ?_
  refine s_ixor (pc := 44) dX1_price_44 ?_
  refine s_letI (fun x2 => ?_)
  refine s_istore (pc := 45) (lv' := [(6, .int x2), (0, .ref 8), (1, .int c1), (2, .int c2), (3, .int c3), (4, .int v4), (5, .int v5)]) dX1_price_45 (by decide) rfl ?_
  refine s_aload_n (pc := 47) 1 dX1_price_47 rfl rfl ?_
  refine s_getR (pc := 48) (ci := 1) (k := 4) (r := 10) dX1_price_48 fl_1_17 kd_8 rfl rs_8_4 ?_
  refine s_iload_n (pc := 51) 2 dX1_price_51 rfl rfl ?_
  refine s_aald (pc := 52) (r := (11 + c1.toNatClampNeg)) dX1_price_52 kd_10 (by decide) (by decide) (fun hi => ar_10 hi) (fun hi1 => ?_)
  refine s_iload (pc := 53) 5 dX1_price_53 rfl ?_
  refine s_iald (pc := 55) dX1_price_55 (ak_10 hi1) ?_
  refine s_letI (fun x3 => ?_)
  refine s_istore (pc := 56) (lv' := [(7, .int x3), (6, .int x2), (0, .ref 8), (1, .int c1), (2, .int c2), (3, .int c3), (4, .int v4), (5, .int v5)]) dX1_price_56 (by decide) rfl ?_
  refine s_aload_n (pc := 58) 2 dX1_price_58 rfl rfl ?_
  refine s_getR (pc := 59) (ci := 1) (k := 6) (r := 18) dX1_price_59 fl_1_25 kd_8 rfl rs_8_6 ?_
  refine s_iload (pc := 62) 7 dX1_price_62 rfl ?_
  refine s_aload_n (pc := 64) 2 dX1_price_64 rfl rfl ?_
  refine s_getR (pc := 65) (ci := 1) (k := 6) (r := 18) dX1_price_65 fl_1_25 kd_8 rfl rs_8_6 ?_
  refine s_iload (pc := 68) 1 dX1_price_68 rfl ?_
  refine s_iald (pc := 70) dX1_price_70 kd_18 ?_
  refine s_iload (pc := 71) 0 dX1_price_71 rfl ?_
  refine s_iadd (pc := 73) dX1_price_73 ?_
  refine s_iast (pc := 74) dX1_price_74 kd_18 (fun μ_3 => ?_)
  refine s_aload_n (pc := 75) 2 dX1_price_75 rfl rfl ?_
  refine s_getR (pc := 76) (ci := 1) (k := 7) (r := 19) dX1_price_76 fl_1_28 kd_8 rfl rs_8_7 ?_
  refine s_iload (pc := 79) 1 dX1_price_79 rfl ?_
  refine s_lald (pc := 81) dX1_price_81 kd_19 ?_
  refine s_ldc2 (pc := 82) (v := (-1 : Int64)) dX1_price_82 w_1027 ?_
  refine s_lcmp_eq (pc := 85) (tgt := 110) dX1_price_85 dX1_price_86 (by decide) ?_ ?_
  · refine s_sub (lv' := [(0, .ref 8), (1, .int c1), (2, .int c2), (3, .int c3), (4, .int v4), (5, .int v5), (6, .int x2)]) [2, 3, 4, 5, 6, 7, 1] rfl ?_
    exact t_X1_price_B110 N c1 c2 c3 kb hkb v4 v5 x2 μ_3
  · refine s_iload (pc := 89) 0 dX1_price_89 rfl ?_
    refine s_iconst (pc := 91) (v := (-1 : Int32)) dX1_price_91 (by decide) ?_
    refine s_icmp_eq (pc := 92) (tgt := 110) dX1_price_92 (by decide) ?_ ?_
    · refine s_sub (lv' := [(0, .ref 8), (1, .int c1), (2, .int c2), (3, .int c3), (4, .int v4), (5, .int v5), (6, .int x2)]) [2, 3, 4, 5, 6, 7, 1] rfl ?_
      exact t_X1_price_B110 N c1 c2 c3 kb hkb v4 v5 x2 μ_3
    · refine s_aload_n (pc := 95) 2 dX1_price_95 rfl rfl ?_
      refine s_getR (pc := 96) (ci := 1) (k := 6) (r := 18) dX1_price_96 fl_1_25 kd_8 rfl rs_8_6 ?_
      refine s_iload (pc := 99) 7 dX1_price_99 rfl ?_
      refine s_iald (pc := 101) dX1_price_101 kd_18 ?_
      refine s_iload_n (pc := 102) 5 dX1_price_102 rfl rfl ?_
      refine s_icmp_gt (pc := 103) (tgt := 110) dX1_price_103 (by decide) ?_ ?_
      · refine s_sub (lv' := [(0, .ref 8), (1, .int c1), (2, .int c2), (3, .int c3), (4, .int v4), (5, .int v5), (6, .int x2)]) [2, 3, 4, 5, 6, 7, 1] rfl ?_
        exact t_X1_price_B110 N c1 c2 c3 kb hkb v4 v5 x2 μ_3
      · refine s_iconst (pc := 106) (v := (1 : Int32)) dX1_price_106 (by decide) ?_
        refine s_goto (pc := 107) (tgt := 111) dX1_price_107 (by decide) ?_
        refine s_sub (lv' := [(0, .ref 8), (1, .int c1), (2, .int c2), (3, .int c3), (4, .int v4), (5, .int v5), (6, .int x2)]) [2, 3, 4, 5, 6, 7, 1] rfl ?_
        exact t_X1_price_B111 N c1 c2 c3 kb hkb v4 v5 x2 (1 : Int32) μ_3
def b_X1_price_L20 (N : Nat) (c1 : Int32) (c2 : Int32) (c3 : Int32) (kb : Int32 → Int32 → z_S → Option (Unit × z_S)) (v4 : Int32) (v5 : Int32) (μ : z_S) : Option (Unit × z_S) :=
  if c2 < v5 then (some ((), μ)) else if v5 = ((2 : Int32) <<< (v4 &&& 31)) then (z_bd (v4 + 1) fun x1 => f_X1_price_B38 N c1 c2 c3 kb x1 v5 μ) else f_X1_price_B38 N c1 c2 c3 kb v4 v5 μ
theorem tb_X1_price_L20 (N : Nat) (c1 : Int32) (c2 : Int32) (c3 : Int32) (kb : Int32 → Int32 → z_S → Option (Unit × z_S)) (hkb : ∀ (a4 : Int32) (a5 : Int32) (μ : z_S), z_sim true rV mX1_price 0 (kb a4 a5 μ) 20 [(0, .ref 8), (1, .int c1), (2, .int c2), (3, .int c3), (4, .int a4), (5, .int a5)] [] μ) (v4 : Int32) (v5 : Int32) (μ : z_S) : z_sim true rV mX1_price 0 (b_X1_price_L20 N c1 c2 c3 kb v4 v5 μ) 20 [(0, .ref 8), (1, .int c1), (2, .int c2), (3, .int c3), (4, .int v4), (5, .int v5)] [] μ := by
  unfold b_X1_price_L20
  refine s_iload (pc := 20) 5 dX1_price_20 rfl ?_
  refine s_iload_n (pc := 22) 2 dX1_price_22 rfl rfl ?_
  refine s_icmp_gt (pc := 23) (tgt := 154) dX1_price_23 (by decide) ?_ ?_
  · exact s_vret (pc := 154) dX1_price_154 rfl
  · refine s_iload (pc := 26) 5 dX1_price_26 rfl ?_
    refine s_iconst (pc := 28) (v := (2 : Int32)) dX1_price_28 (by decide) ?_
    refine s_iload (pc := 29) 4 dX1_price_29 rfl ?_
    refine s_ishl (pc := 31) dX1_price_31 ?_
    refine s_icmp_ne (pc := 32) (tgt := 38) dX1_price_32 (by decide) ?_ ?_
    · refine s_iincB (pc := 35) (lv' := fun x1 => [(4, .int x1), (0, .ref 8), (1, .int c1), (2, .int c2), (3, .int c3), (5, .int v5)]) (c := 1) 4 dX1_price_35 rfl (by decide) (by decide) (fun _ => rfl) (fun x1 => ?_)
      refine s_sub (lv' := [(0, .ref 8), (1, .int c1), (2, .int c2), (3, .int c3), (4, .int x1), (5, .int v5)]) [1, 2, 3, 4, 0, 5] rfl ?_
      exact t_X1_price_B38 N c1 c2 c3 kb hkb x1 v5 μ
    · exact t_X1_price_B38 N c1 c2 c3 kb hkb v4 v5 μ
def f_X1_price_L20 (N : Nat) (c1 : Int32) (c2 : Int32) (c3 : Int32) : Nat → Int32 → Int32 → z_S → Option (Unit × z_S)
  | 0, _, _, _ => none
  | n + 1, v4, v5, μ => b_X1_price_L20 N c1 c2 c3 (f_X1_price_L20 N c1 c2 c3 n) v4 v5 μ
theorem t_X1_price_L20 (N : Nat) (c1 : Int32) (c2 : Int32) (c3 : Int32) : ∀ (n : Nat) (v4 : Int32) (v5 : Int32) (μ : z_S), z_sim true rV mX1_price 0 (f_X1_price_L20 N c1 c2 c3 n v4 v5 μ) 20 [(0, .ref 8), (1, .int c1), (2, .int c2), (3, .int c3), (4, .int v4), (5, .int v5)] [] μ
  | 0, _, _, _ => s_none
  | n + 1, v4, v5, μ => tb_X1_price_L20 N c1 c2 c3 (f_X1_price_L20 N c1 c2 c3 n) (t_X1_price_L20 N c1 c2 c3 n) v4 v5 μ
def f_X1_price (N : Nat) (a1 : Int32) (a2 : Int32) (a3 : Int32) (μ : z_S) : Option (Unit × z_S) :=
  z_bd (z_setJ μ 19 0 (0 : Int64)) fun μ_1 => z_bd (z_setI μ_1 18 0 (0 : Int32)) fun μ_2 => f_X1_price_L20 N a1 a2 a3 N (0 : Int32) (1 : Int32) μ_2
theorem t_X1_price (N : Nat) (a1 : Int32) (a2 : Int32) (a3 : Int32) (μ : z_S) : z_met true rV mX1_price 0 [.ref 8, .int a1, .int a2, .int a3] μ (f_X1_price N a1 a2 a3 μ) := by
  refine z_met.of (by decide +kernel) (by show _ ≤ _; first | decide | exact Nat.le_of_ble_eq_true rfl) (lv := [(0, .ref 8), (1, .int a1), (2, .int a2), (3, .int a3)]) rfl ?_
  unfold f_X1_price
  refine s_aload_n (pc := 0) 0 dX1_price_0 rfl rfl ?_
  refine s_getR (pc := 1) (ci := 1) (k := 7) (r := 19) dX1_price_1 fl_1_28 kd_8 rfl rs_8_7 ?_
  refine s_iconst (pc := 4) (v := (0 : Int32)) dX1_price_4 (by decide) ?_
  refine s_lconst (pc := 5) (v := (0 : Int64)) dX1_price_5 (by decide) ?_
  refine s_lastK (pc := 6) (k := 0) dX1_price_6 kd_19 (by decide) (by decide) (by decide) (fun μ_1 => ?_)
  refine s_aload_n (pc := 7) 0 dX1_price_7 rfl rfl ?_
  refine s_getR (pc := 8) (ci := 1) (k := 6) (r := 18) dX1_price_8 fl_1_25 kd_8 rfl rs_8_6 ?_
  refine s_iconst (pc := 11) (v := (0 : Int32)) dX1_price_11 (by decide) ?_
  refine s_iconst (pc := 12) (v := (0 : Int32)) dX1_price_12 (by decide) ?_
  refine s_iastK (pc := 13) (k := 0) dX1_price_13 kd_18 (by decide) (by decide) (by decide) (fun μ_2 => ?_)
  refine s_iconst (pc := 14) (v := (0 : Int32)) dX1_price_14 (by decide) ?_
  refine s_istore (pc := 15) (lv' := [(4, .int (0 : Int32)), (0, .ref 8), (1, .int a1), (2, .int a2), (3, .int a3)]) dX1_price_15 (by decide) rfl ?_
  refine s_iconst (pc := 17) (v := (1 : Int32)) dX1_price_17 (by decide) ?_
  refine s_istore (pc := 18) (lv' := [(5, .int (1 : Int32)), (4, .int (0 : Int32)), (0, .ref 8), (1, .int a1), (2, .int a2), (3, .int a3)]) dX1_price_18 (by decide) rfl ?_
  refine s_sub (lv' := [(0, .ref 8), (1, .int a1), (2, .int a2), (3, .int a3), (4, .int (0 : Int32)), (5, .int (1 : Int32))]) [2, 3, 4, 5, 1, 0] rfl ?_
  refine t_X1_price_L20 N a1 a2 a3 N (0 : Int32) (1 : Int32) μ_2
def f_X1_spread_B94 (N : Nat) (c1 : Int32) (kb : Int32 → z_S → Option (Unit × z_S)) (v2 : Int32) (μ : z_S) : Option (Unit × z_S) :=
  z_bd (v2 + (-1)) fun x1 => kb x1 μ
theorem t_X1_spread_B94 (N : Nat) (c1 : Int32)  (kb : Int32 → z_S → Option (Unit × z_S)) (hkb : ∀ (a2 : Int32) (μ : z_S), z_sim true rV mX1_spread 1 (kb a2 μ) 2 [(0, .ref 8), (1, .int c1), (2, .int a2)] [] μ) (v2 : Int32)  (μ : z_S) : z_sim true rV mX1_spread 1 (f_X1_spread_B94 N c1 kb v2 μ) 94 [(0, .ref 8), (1, .int c1), (2, .int v2)] [] μ := by
  unfold f_X1_spread_B94
  refine s_iincB (pc := 94) (lv' := fun x1 => [(2, .int x1), (0, .ref 8), (1, .int c1)]) (c := -1) 2 dX1_spread_94 rfl (by decide) (by decide) (fun _ => rfl) (fun x1 => ?_)
  refine s_goto (pc := 97) (tgt := 2) dX1_spread_97 (by decide) ?_
  refine s_sub (lv' := [(0, .ref 8), (1, .int c1), (2, .int x1)]) [1, 2, 0] rfl ?_
  exact hkb x1 μ
def f_X1_spread_B83 (N : Nat) (c1 : Int32) (c2 : Int32) (c3 : Int32) (kb : Int32 → z_S → Option (Unit × z_S)) (e94 : z_S → Option (Unit × z_S)) (v4 : Int32) (μ : z_S) : Option (Unit × z_S) :=
  z_bd ((v4 - (1 : Int32)) &&& c3) fun x3 => kb x3 μ
theorem t_X1_spread_B83 (N : Nat) (c1 : Int32) (c2 : Int32) (c3 : Int32)  (kb : Int32 → z_S → Option (Unit × z_S)) (e94 : z_S → Option (Unit × z_S)) (hkb : ∀ (a4 : Int32) (μ : z_S), z_sim true rV mX1_spread 1 (kb a4 μ) 29 [(0, .ref 8), (1, .int c1), (2, .int c2), (3, .int c3), (4, .int a4)] [] μ) (he94 : ∀  (μ : z_S), z_sim true rV mX1_spread 1 (e94 μ) 94 [(0, .ref 8), (1, .int c1), (2, .int c2)] [] μ) (v4 : Int32)  (μ : z_S) : z_sim true rV mX1_spread 1 (f_X1_spread_B83 N c1 c2 c3 kb e94 v4 μ) 83 [(0, .ref 8), (1, .int c1), (2, .int c2), (3, .int c3), (4, .int v4)] [] μ := by
  unfold f_X1_spread_B83
  refine s_iload (pc := 83) 4 dX1_spread_83 rfl ?_
  refine s_iconst (pc := 85) (v := (1 : Int32)) dX1_spread_85 (by decide) ?_
  refine s_isub (pc := 86) dX1_spread_86 ?_
  refine s_iload_n (pc := 87) 3 dX1_spread_87 rfl rfl ?_
  refine s_iand (pc := 88) dX1_spread_88 ?_
  refine s_letI (fun x3 => ?_)
  refine s_istore (pc := 89) (lv' := [(4, .int x3), (0, .ref 8), (1, .int c1), (2, .int c2), (3, .int c3)]) dX1_spread_89 (by decide) rfl ?_
  refine s_goto (pc := 91) (tgt := 29) dX1_spread_91 (by decide) ?_
  refine s_sub (lv' := [(0, .ref 8), (1, .int c1), (2, .int c2), (3, .int c3), (4, .int x3)]) [1, 2, 3, 4, 0] rfl ?_
  exact hkb x3 μ
def b_X1_spread_L29 (N : Nat) (c1 : Int32) (c2 : Int32) (c3 : Int32) (kb : Int32 → z_S → Option (Unit × z_S)) (e94 : z_S → Option (Unit × z_S)) (v4 : Int32) (μ : z_S) : Option (Unit × z_S) :=
  if 0 < v4 then (z_in v4 256 <| if (μ.2.1 19 v4.toNatClampNeg) = (-1 : Int64) then (f_X1_spread_B83 N c1 c2 c3 kb e94 v4 μ) else z_in (c2 ||| v4) 256 <| z_in c2 256 <| z_in v4 256 <| z_bn (f_J9_max_f86c9 N (μ.2.1 20 (c2 ||| v4).toNatClampNeg) ((μ.2.1 20 c2.toNatClampNeg) + (μ.2.1 19 v4.toNatClampNeg)) μ) fun x4 μ_1 => z_in (c2 ||| v4) 256 <| z_bd (z_setJ μ_1 20 (c2 ||| v4).toNatClampNeg x4) fun μ_2 => f_X1_spread_B83 N c1 c2 c3 kb e94 v4 μ_2) else e94 μ
theorem tb_X1_spread_L29 (N : Nat) (c1 : Int32) (c2 : Int32) (c3 : Int32) (kb : Int32 → z_S → Option (Unit × z_S)) (e94 : z_S → Option (Unit × z_S)) (hkb : ∀ (a4 : Int32) (μ : z_S), z_sim true rV mX1_spread 1 (kb a4 μ) 29 [(0, .ref 8), (1, .int c1), (2, .int c2), (3, .int c3), (4, .int a4)] [] μ) (he94 : ∀ (μ : z_S), z_sim true rV mX1_spread 1 (e94 μ) 94 [(0, .ref 8), (1, .int c1), (2, .int c2)] [] μ) (v4 : Int32) (μ : z_S) : z_sim true rV mX1_spread 1 (b_X1_spread_L29 N c1 c2 c3 kb e94 v4 μ) 29 [(0, .ref 8), (1, .int c1), (2, .int c2), (3, .int c3), (4, .int v4)] [] μ := by
  unfold b_X1_spread_L29
  refine s_iload (pc := 29) 4 dX1_spread_29 rfl ?_
  refine s_if_le (pc := 31) (tgt := 94) dX1_spread_31 (by decide) ?_ ?_
  · refine s_aload_n (pc := 34) 0 dX1_spread_34 rfl rfl ?_
    refine s_getR (pc := 35) (ci := 1) (k := 7) (r := 19) dX1_spread_35 fl_1_28 kd_8 rfl rs_8_7 ?_
    refine s_iload (pc := 38) 4 dX1_spread_38 rfl ?_
    refine s_lald (pc := 40) dX1_spread_40 kd_19 ?_
    refine s_ldc2 (pc := 41) (v := (-1 : Int64)) dX1_spread_41 w_1027 ?_
    refine s_lcmp_eq (pc := 44) (tgt := 83) dX1_spread_44 dX1_spread_45 (by decide) ?_ ?_
    · exact t_X1_spread_B83 N c1 c2 c3 kb e94 hkb he94 v4 μ
    · refine s_aload_n (pc := 48) 0 dX1_spread_48 rfl rfl ?_
      refine s_getR (pc := 49) (ci := 1) (k := 8) (r := 20) dX1_spread_49 fl_1_32 kd_8 rfl rs_8_8 ?_
      refine s_iload_n (pc := 52) 2 dX1_spread_52 rfl rfl ?_
      refine s_iload (pc := 53) 4 dX1_spread_53 rfl ?_
      refine s_ior (pc := 55) dX1_spread_55 ?_
      refine s_aload_n (pc := 56) 0 dX1_spread_56 rfl rfl ?_
      refine s_getR (pc := 57) (ci := 1) (k := 8) (r := 20) dX1_spread_57 fl_1_32 kd_8 rfl rs_8_8 ?_
      refine s_iload_n (pc := 60) 2 dX1_spread_60 rfl rfl ?_
      refine s_iload (pc := 61) 4 dX1_spread_61 rfl ?_
      refine s_ior (pc := 63) dX1_spread_63 ?_
      refine s_lald (pc := 64) dX1_spread_64 kd_20 ?_
      refine s_aload_n (pc := 65) 0 dX1_spread_65 rfl rfl ?_
      refine s_getR (pc := 66) (ci := 1) (k := 8) (r := 20) dX1_spread_66 fl_1_32 kd_8 rfl rs_8_8 ?_
      refine s_iload_n (pc := 69) 2 dX1_spread_69 rfl rfl ?_
      refine s_lald (pc := 70) dX1_spread_70 kd_20 ?_
      refine s_aload_n (pc := 71) 0 dX1_spread_71 rfl rfl ?_
      refine s_getR (pc := 72) (ci := 1) (k := 7) (r := 19) dX1_spread_72 fl_1_28 kd_8 rfl rs_8_7 ?_
      refine s_iload (pc := 75) 4 dX1_spread_75 rfl ?_
      refine s_lald (pc := 77) dX1_spread_77 kd_19 ?_
      refine s_ladd (pc := 78) dX1_spread_78 ?_
      refine s_callSJ (pc := 79) (as := [.long (μ.2.1 20 (c2 ||| v4).toNatClampNeg), .long ((μ.2.1 20 c2.toNatClampNeg) + (μ.2.1 19 v4.toNatClampNeg))]) (st := [.int (c2 ||| v4), .ref 20]) dX1_spread_79 lk_1_69 (t_J9_max_f86c9 N (μ.2.1 20 (c2 ||| v4).toNatClampNeg) ((μ.2.1 20 c2.toNatClampNeg) + (μ.2.1 19 v4.toNatClampNeg)) μ) (by omega) rfl (Nat.le_of_ble_eq_true rfl) rfl (fun x4 μ_1 => ?_)
      refine s_last (pc := 82) dX1_spread_82 kd_20 (fun μ_2 => ?_)
      exact t_X1_spread_B83 N c1 c2 c3 kb e94 hkb he94 v4 μ_2
  · refine s_sub (lv' := [(0, .ref 8), (1, .int c1), (2, .int c2)]) [0, 1, 2] rfl ?_
    exact he94 μ
def f_X1_spread_L29 (N : Nat) (c1 : Int32) (c2 : Int32) (c3 : Int32) (e94 : z_S → Option (Unit × z_S)) : Nat → Int32 → z_S → Option (Unit × z_S)
  | 0, _, _ => none
  | n + 1, v4, μ => b_X1_spread_L29 N c1 c2 c3 (f_X1_spread_L29 N c1 c2 c3 e94 n) e94 v4 μ
theorem t_X1_spread_L29 (N : Nat) (c1 : Int32) (c2 : Int32) (c3 : Int32) (e94 : z_S → Option (Unit × z_S)) (he94 : ∀ (μ : z_S), z_sim true rV mX1_spread 1 (e94 μ) 94 [(0, .ref 8), (1, .int c1), (2, .int c2)] [] μ) : ∀ (n : Nat) (v4 : Int32) (μ : z_S), z_sim true rV mX1_spread 1 (f_X1_spread_L29 N c1 c2 c3 e94 n v4 μ) 29 [(0, .ref 8), (1, .int c1), (2, .int c2), (3, .int c3), (4, .int v4)] [] μ
  | 0, _, _ => s_none
  | n + 1, v4, μ => tb_X1_spread_L29 N c1 c2 c3 (f_X1_spread_L29 N c1 c2 c3 e94 n) e94 (t_X1_spread_L29 N c1 c2 c3 e94 he94 n) he94 v4 μ
def b_X1_spread_L2 (N : Nat) (c1 : Int32) (kb : Int32 → z_S → Option (Unit × z_S)) (v2 : Int32) (μ : z_S) : Option (Unit × z_S) :=
  if v2 < 0 then (some ((), μ)) else z_in v2 256 <| if (μ.2.1 20 v2.toNatClampNeg) = (-1 : Int64) then (f_X1_spread_B94 N c1 kb v2 μ) else z_bd (c1 ^^^ v2) fun x2 => f_X1_spread_L29 N c1 v2 x2 (fun μ94 => f_X1_spread_B94 N c1 kb v2 μ94) N x2 μ
theorem tb_X1_spread_L2 (N : Nat) (c1 : Int32) (kb : Int32 → z_S → Option (Unit × z_S)) (hkb : ∀ (a2 : Int32) (μ : z_S), z_sim true rV mX1_spread 1 (kb a2 μ) 2 [(0, .ref 8), (1, .int c1), (2, .int a2)] [] μ) (v2 : Int32) (μ : z_S) : z_sim true rV mX1_spread 1 (b_X1_spread_L2 N c1 kb v2 μ) 2 [(0, .ref 8), (1, .int c1), (2, .int v2)] [] μ := by
  unfold b_X1_spread_L2
  refine s_iload_n (pc := 2) 2 dX1_spread_2 rfl rfl ?_
  refine s_if_lt (pc := 3) (tgt := 100) dX1_spread_3 (by decide) ?_ ?_
  · exact s_vret (pc := 100) dX1_spread_100 rfl
  · refine s_aload_n (pc := 6) 0 dX1_spread_6 rfl rfl ?_
    refine s_getR (pc := 7) (ci := 1) (k := 8) (r := 20) dX1_spread_7 fl_1_32 kd_8 rfl rs_8_8 ?_
    refine s_iload_n (pc := 10) 2 dX1_spread_10 rfl rfl ?_
    refine s_lald (pc := 11) dX1_spread_11 kd_20 ?_
    refine s_ldc2 (pc := 12) (v := (-1 : Int64)) dX1_spread_12 w_1027 ?_
    refine s_lcmp_ne (pc := 15) (tgt := 22) dX1_spread_15 dX1_spread_16 (by decide) ?_ ?_
    · refine s_goto (pc := 19) (tgt := 94) dX1_spread_19 (by decide) ?_
      exact t_X1_spread_B94 N c1 kb hkb v2 μ
    · refine s_iload_n (pc := 22) 1 dX1_spread_22 rfl rfl ?_
      refine s_iload_n (pc := 23) 2 dX1_spread_23 rfl rfl ?_
      refine s_ixor (pc := 24) dX1_spread_24 ?_
      refine s_letI (fun x2 => ?_)
      refine s_istore_n (pc := 25) (lv' := [(3, .int x2), (0, .ref 8), (1, .int c1), (2, .int v2)]) dX1_spread_25 rfl (by decide) rfl ?_
      refine s_iload_n (pc := 26) 0 dX1_spread_26 rfl rfl ?_
      refine s_istore (pc := 27) (lv' := [(4, .int x2), (3, .int x2), (0, .ref 8), (1, .int c1), (2, .int v2)]) dX1_spread_27 (by decide) rfl ?_
      refine s_sub (lv' := [(0, .ref 8), (1, .int c1), (2, .int v2), (3, .int x2), (4, .int x2)]) [2, 3, 4, 1, 0] rfl ?_
      refine t_X1_spread_L29 N c1 v2 x2 _ ?_ N x2 μ
      · intro μ94
        exact t_X1_spread_B94 N c1 kb hkb v2 μ94
def f_X1_spread_L2 (N : Nat) (c1 : Int32) : Nat → Int32 → z_S → Option (Unit × z_S)
  | 0, _, _ => none
  | n + 1, v2, μ => b_X1_spread_L2 N c1 (f_X1_spread_L2 N c1 n) v2 μ
theorem t_X1_spread_L2 (N : Nat) (c1 : Int32) : ∀ (n : Nat) (v2 : Int32) (μ : z_S), z_sim true rV mX1_spread 1 (f_X1_spread_L2 N c1 n v2 μ) 2 [(0, .ref 8), (1, .int c1), (2, .int v2)] [] μ
  | 0, _, _ => s_none
  | n + 1, v2, μ => tb_X1_spread_L2 N c1 (f_X1_spread_L2 N c1 n) (t_X1_spread_L2 N c1 n) v2 μ
def f_X1_spread (N : Nat) (a1 : Int32) (μ : z_S) : Option (Unit × z_S) :=
  f_X1_spread_L2 N a1 N a1 μ
theorem t_X1_spread (N : Nat) (a1 : Int32) (μ : z_S) : z_met true rV mX1_spread 1 [.ref 8, .int a1] μ (f_X1_spread N a1 μ) := by
  refine z_met.of (by decide +kernel) (by show _ ≤ _; first | decide | exact Nat.le_of_ble_eq_true rfl) (lv := [(0, .ref 8), (1, .int a1)]) rfl ?_
  unfold f_X1_spread
  refine s_iload_n (pc := 0) 1 dX1_spread_0 rfl rfl ?_
  refine s_istore_n (pc := 1) (lv' := [(2, .int a1), (0, .ref 8), (1, .int a1)]) dX1_spread_1 rfl (by decide) rfl ?_
  refine s_sub (lv' := [(0, .ref 8), (1, .int a1), (2, .int a1)]) [1, 2, 0] rfl ?_
  refine t_X1_spread_L2 N a1 N a1 μ
def f_X1_readOff_B62 (N : Nat) (c1 : Int64) (c3 : Int32) (kb : Int32 → z_S → Option (Unit × z_S)) (e72 : z_S → Option (Unit × z_S)) (v4 : Int32) (s0 : Int32) (s1 : Int32) (μ : z_S) : Option (Unit × z_S) :=
  z_bd (z_setI μ 8 2 (s1 + s0)) fun μ_4 => z_bd (v4 + 1) fun x3 => kb x3 μ_4
theorem t_X1_readOff_B62 (N : Nat) (c1 : Int64) (c3 : Int32)  (kb : Int32 → z_S → Option (Unit × z_S)) (e72 : z_S → Option (Unit × z_S)) (hkb : ∀ (a4 : Int32) (μ : z_S), z_sim true rV mX1_readOff 1 (kb a4 μ) 16 [(0, .ref 8), (1, .long c1), (3, .int c3), (4, .int a4)] [] μ) (he72 : ∀  (μ : z_S), z_sim true rV mX1_readOff 1 (e72 μ) 72 [(0, .ref 8), (1, .long c1), (3, .int c3)] [] μ) (v4 : Int32) (s0 : Int32) (s1 : Int32)  (μ : z_S) : z_sim true rV mX1_readOff 1 (f_X1_readOff_B62 N c1 c3 kb e72 v4 s0 s1 μ) 62 [(0, .ref 8), (1, .long c1), (3, .int c3), (4, .int v4)] [.int s0, .int s1, .ref 8] μ := by
  unfold f_X1_readOff_B62
  refine s_iadd (pc := 62) dX1_readOff_62 ?_
  refine s_putI (pc := 63) (ci := 1) (k := 2) dX1_readOff_63 fl_1_107 kd_8 rfl rfl (fun μ_4 => ?_)
  refine s_iincB (pc := 66) (lv' := fun x3 => [(4, .int x3), (0, .ref 8), (1, .long c1), (3, .int c3)]) (c := 1) 3 dX1_readOff_66 rfl (by decide) (by decide) (fun _ => rfl) (fun x3 => ?_)
  refine s_goto (pc := 69) (tgt := 16) dX1_readOff_69 (by decide) ?_
  refine s_sub (lv' := [(0, .ref 8), (1, .long c1), (3, .int c3), (4, .int x3)]) [1, 2, 3, 0] rfl ?_
  exact hkb x3 μ_4
def b_X1_readOff_L16 (N : Nat) (c1 : Int64) (c3 : Int32) (kb : Int32 → z_S → Option (Unit × z_S)) (e72 : z_S → Option (Unit × z_S)) (v4 : Int32) (μ : z_S) : Option (Unit × z_S) :=
  if v4 < (8 : Int32) then (z_bn (f_X1_rowShift N v4 μ) fun x2 μ_2 => z_in v4 8 <| z_bd (z_setI μ_2 9 v4.toNatClampNeg (((c3 >>> (x2 &&& 31)) &&& (3 : Int32)) - (1 : Int32))) fun μ_3 => z_in v4 8 <| if (μ_3.1 9 v4.toNatClampNeg) = (-1 : Int32) then (f_X1_readOff_B62 N c1 c3 kb e72 v4 (0 : Int32) (μ_3.1 8 2) μ_3) else f_X1_readOff_B62 N c1 c3 kb e72 v4 (1 : Int32) (μ_3.1 8 2) μ_3) else e72 μ
theorem tb_X1_readOff_L16 (N : Nat) (c1 : Int64) (c3 : Int32) (kb : Int32 → z_S → Option (Unit × z_S)) (e72 : z_S → Option (Unit × z_S)) (hkb : ∀ (a4 : Int32) (μ : z_S), z_sim true rV mX1_readOff 1 (kb a4 μ) 16 [(0, .ref 8), (1, .long c1), (3, .int c3), (4, .int a4)] [] μ) (he72 : ∀ (μ : z_S), z_sim true rV mX1_readOff 1 (e72 μ) 72 [(0, .ref 8), (1, .long c1), (3, .int c3)] [] μ) (v4 : Int32) (μ : z_S) : z_sim true rV mX1_readOff 1 (b_X1_readOff_L16 N c1 c3 kb e72 v4 μ) 16 [(0, .ref 8), (1, .long c1), (3, .int c3), (4, .int v4)] [] μ := by
  unfold b_X1_readOff_L16
  refine s_iload (pc := 16) 3 dX1_readOff_16 rfl ?_
  refine s_bipush (pc := 18) (v := (8 : Int32)) dX1_readOff_18 (by decide) ?_
  refine s_icmp_ge (pc := 20) (tgt := 72) dX1_readOff_20 (by decide) ?_ ?_
  · refine s_aload_n (pc := 23) 0 dX1_readOff_23 rfl rfl ?_
    refine s_getR (pc := 24) (ci := 1) (k := 1) (r := 9) dX1_readOff_24 fl_1_9 kd_8 rfl rs_8_1 ?_
    refine s_iload (pc := 27) 3 dX1_readOff_27 rfl ?_
    refine s_iload_n (pc := 29) 2 dX1_readOff_29 rfl rfl ?_
    refine s_iload (pc := 30) 3 dX1_readOff_30 rfl ?_
    refine s_callSI (pc := 32) (as := [.int v4]) (st := [.int c3, .int v4, .ref 9]) dX1_readOff_32 lk_1_99 (t_X1_rowShift N v4 μ) (by omega) rfl (Nat.le_of_ble_eq_true rfl) rfl (fun x2 μ_2 => ?_)
    refine s_ishr (pc := 35) dX1_readOff_35 ?_
    refine s_iconst (pc := 36) (v := (3 : Int32)) dX1_readOff_36 (by decide) ?_
    refine s_iand (pc := 37) dX1_readOff_37 ?_
    refine s_iconst (pc := 38) (v := (1 : Int32)) dX1_readOff_38 (by decide) ?_
    refine s_isub (pc := 39) dX1_readOff_39 ?_
    refine s_iast (pc := 40) dX1_readOff_40 kd_9 (fun μ_3 => ?_)
    refine s_aload_n (pc := 41) 0 dX1_readOff_41 rfl rfl ?_
    refine s_dup (pc := 42) dX1_readOff_42 rfl ?_
    refine s_getI (pc := 43) (ci := 1) (k := 2) dX1_readOff_43 fl_1_107 kd_8 rfl ?_
    refine s_aload_n (pc := 46) 0 dX1_readOff_46 rfl rfl ?_
    refine s_getR (pc := 47) (ci := 1) (k := 1) (r := 9) dX1_readOff_47 fl_1_9 kd_8 rfl rs_8_1 ?_
    refine s_iload (pc := 50) 3 dX1_readOff_50 rfl ?_
    refine s_iald (pc := 52) dX1_readOff_52 kd_9 ?_
    refine s_iconst (pc := 53) (v := (-1 : Int32)) dX1_readOff_53 (by decide) ?_
    refine s_icmp_ne (pc := 54) (tgt := 61) dX1_readOff_54 (by decide) ?_ ?_
    · refine s_iconst (pc := 57) (v := (0 : Int32)) dX1_readOff_57 (by decide) ?_
      refine s_goto (pc := 58) (tgt := 62) dX1_readOff_58 (by decide) ?_
      exact t_X1_readOff_B62 N c1 c3 kb e72 hkb he72 v4 (0 : Int32) (μ_3.1 8 2) μ_3
    · refine s_iconst (pc := 61) (v := (1 : Int32)) dX1_readOff_61 (by decide) ?_
      exact t_X1_readOff_B62 N c1 c3 kb e72 hkb he72 v4 (1 : Int32) (μ_3.1 8 2) μ_3
  · refine s_sub (lv' := [(0, .ref 8), (1, .long c1), (3, .int c3)]) [0, 1, 2] rfl ?_
    exact he72 μ
def f_X1_readOff_L16 (N : Nat) (c1 : Int64) (c3 : Int32) (e72 : z_S → Option (Unit × z_S)) : Nat → Int32 → z_S → Option (Unit × z_S)
  | 0, _, _ => none
  | n + 1, v4, μ => b_X1_readOff_L16 N c1 c3 (f_X1_readOff_L16 N c1 c3 e72 n) e72 v4 μ
theorem t_X1_readOff_L16 (N : Nat) (c1 : Int64) (c3 : Int32) (e72 : z_S → Option (Unit × z_S)) (he72 : ∀ (μ : z_S), z_sim true rV mX1_readOff 1 (e72 μ) 72 [(0, .ref 8), (1, .long c1), (3, .int c3)] [] μ) : ∀ (n : Nat) (v4 : Int32) (μ : z_S), z_sim true rV mX1_readOff 1 (f_X1_readOff_L16 N c1 c3 e72 n v4 μ) 16 [(0, .ref 8), (1, .long c1), (3, .int c3), (4, .int v4)] [] μ
  | 0, _, _ => s_none
  | n + 1, v4, μ => tb_X1_readOff_L16 N c1 c3 (f_X1_readOff_L16 N c1 c3 e72 n) e72 (t_X1_readOff_L16 N c1 c3 e72 he72 n) he72 v4 μ
def f_X1_readOff (N : Nat) (a1 : Int64) (μ : z_S) : Option (Unit × z_S) :=
  z_bd (((-a1) &&& (65535 : Int64)).toInt32) fun x1 => z_bd (z_setI μ 8 2 (0 : Int32)) fun μ_1 => f_X1_readOff_L16 N a1 x1 (fun μ72 => z_bd (z_setJ μ72 8 3 (((a1 + x1.toInt64) >>> ((16 : Int32).toInt64 &&& 63)) - ((μ72.1 8 2).toInt64 <<< ((28 : Int32).toInt64 &&& 63)))) fun μ_5 => some ((), μ_5)) N (0 : Int32) μ_1
theorem t_X1_readOff (N : Nat) (a1 : Int64) (μ : z_S) : z_met true rV mX1_readOff 1 [.ref 8, .long a1] μ (f_X1_readOff N a1 μ) := by
  refine z_met.of (by decide +kernel) (by show _ ≤ _; first | decide | exact Nat.le_of_ble_eq_true rfl) (lv := [(0, .ref 8), (1, .long a1)]) rfl ?_
  unfold f_X1_readOff
  refine s_lload_n (pc := 0) 1 dX1_readOff_0 rfl rfl ?_
  refine s_lneg (pc := 1) dX1_readOff_1 ?_
  refine s_ldc2 (pc := 2) (v := (65535 : Int64)) dX1_readOff_2 w_1049 ?_
  refine s_land (pc := 5) dX1_readOff_5 ?_
  refine s_l2i (pc := 6) dX1_readOff_6 ?_
  refine s_letI (fun x1 => ?_)
  refine s_istore_n (pc := 7) (lv' := [(3, .int x1), (0, .ref 8), (1, .long a1)]) dX1_readOff_7 rfl (by decide) rfl ?_
  refine s_aload_n (pc := 8) 1 dX1_readOff_8 rfl rfl ?_
  refine s_iconst (pc := 9) (v := (0 : Int32)) dX1_readOff_9 (by decide) ?_
  refine s_putI (pc := 10) (ci := 1) (k := 2) dX1_readOff_10 fl_1_107 kd_8 rfl rfl (fun μ_1 => ?_)
  refine s_iconst (pc := 13) (v := (0 : Int32)) dX1_readOff_13 (by decide) ?_
  refine s_istore (pc := 14) (lv' := [(4, .int (0 : Int32)), (3, .int x1), (0, .ref 8), (1, .long a1)]) dX1_readOff_14 (by decide) rfl ?_
  refine s_sub (lv' := [(0, .ref 8), (1, .long a1), (3, .int x1), (4, .int (0 : Int32))]) [2, 3, 1, 0] rfl ?_
  refine t_X1_readOff_L16 N a1 x1 _ ?_ N (0 : Int32) μ_1
  · intro μ72
    refine s_aload_n (pc := 72) 0 dX1_readOff_72 rfl rfl ?_
    refine s_lload_n (pc := 73) 1 dX1_readOff_73 rfl rfl ?_
    refine s_iload_n (pc := 74) 2 dX1_readOff_74 rfl rfl ?_
    refine s_i2l (pc := 75) dX1_readOff_75 ?_
    refine s_ladd (pc := 76) dX1_readOff_76 ?_
    refine s_bipush (pc := 77) (v := (16 : Int32)) dX1_readOff_77 (by decide) ?_
    refine s_lshr (pc := 79) dX1_readOff_79 ?_
    refine s_aload_n (pc := 80) 0 dX1_readOff_80 rfl rfl ?_
    refine s_getI (pc := 81) (ci := 1) (k := 2) dX1_readOff_81 fl_1_107 kd_8 rfl ?_
    refine s_i2l (pc := 84) dX1_readOff_84 ?_
    refine s_bipush (pc := 85) (v := (28 : Int32)) dX1_readOff_85 (by decide) ?_
    refine s_lshl (pc := 87) dX1_readOff_87 ?_
    refine s_lsub (pc := 88) dX1_readOff_88 ?_
    refine s_putJ (pc := 89) (ci := 1) (k := 3) dX1_readOff_89 fl_1_110 kd_8 rfl rfl (fun μ_5 => ?_)
    exact s_vret (pc := 92) dX1_readOff_92 rfl
def f_X1_plan_B31 (N : Nat) (o1 : Nat) (o2 : Nat) (kb : Int32 → Int32 → z_S → Option (Unit × z_S)) (e37 : Int32 → z_S → Option (Unit × z_S)) (v3 : Int32) (v4 : Int32) (μ : z_S) : Option (Unit × z_S) :=
  z_bd (v4 + 1) fun x2 => kb v3 x2 μ
theorem t_X1_plan_B31 (N : Nat) (o1 : Nat) (o2 : Nat) (hk1 : z_kw true o1 = (2, 0)) (hk2 : z_kw true o2 = (8, 0)) (kb : Int32 → Int32 → z_S → Option (Unit × z_S)) (e37 : Int32 → z_S → Option (Unit × z_S)) (hkb : ∀ (a3 : Int32) (a4 : Int32) (μ : z_S), z_sim true rV mX1_plan 6 (kb a3 a4 μ) 5 [(0, .ref 8), (1, .ref o1), (2, .ref o2), (3, .int a3), (4, .int a4)] [] μ) (he37 : ∀ (a3 : Int32) (μ : z_S), z_sim true rV mX1_plan 6 (e37 a3 μ) 37 [(0, .ref 8), (1, .ref o1), (2, .ref o2), (3, .int a3)] [] μ) (v3 : Int32) (v4 : Int32)  (μ : z_S) : z_sim true rV mX1_plan 6 (f_X1_plan_B31 N o1 o2 kb e37 v3 v4 μ) 31 [(0, .ref 8), (1, .ref o1), (2, .ref o2), (3, .int v3), (4, .int v4)] [] μ := by
  unfold f_X1_plan_B31
  refine s_iincB (pc := 31) (lv' := fun x2 => [(4, .int x2), (0, .ref 8), (1, .ref o1), (2, .ref o2), (3, .int v3)]) (c := 1) 4 dX1_plan_31 rfl (by decide) (by decide) (fun _ => rfl) (fun x2 => ?_)
  refine s_goto (pc := 34) (tgt := 5) dX1_plan_34 (by decide) ?_
  refine s_sub (lv' := [(0, .ref 8), (1, .ref o1), (2, .ref o2), (3, .int v3), (4, .int x2)]) [1, 2, 3, 4, 0] rfl ?_
  exact hkb v3 x2 μ
def b_X1_plan_L5 (N : Nat) (o1 : Nat) (o2 : Nat) (kb : Int32 → Int32 → z_S → Option (Unit × z_S)) (e37 : Int32 → z_S → Option (Unit × z_S)) (v3 : Int32) (v4 : Int32) (μ : z_S) : Option (Unit × z_S) :=
  if v4 < (μ.1 (o1 + 1) 0) then (z_bn (f_X1_weigh N o1 o2 v4 v3 μ) fun x1 μ_1 => if x1 = 0 then (f_X1_plan_B31 N o1 o2 kb e37 v3 v4 μ_1) else z_bd (v3 + 1) fun x3 => f_X1_plan_B31 N o1 o2 kb e37 x3 v4 μ_1) else e37 v3 μ
theorem tb_X1_plan_L5 (N : Nat) (o1 : Nat) (o2 : Nat) (hk1 : z_kw true o1 = (2, 0)) (hk2 : z_kw true o2 = (8, 0)) (kb : Int32 → Int32 → z_S → Option (Unit × z_S)) (e37 : Int32 → z_S → Option (Unit × z_S)) (hkb : ∀ (a3 : Int32) (a4 : Int32) (μ : z_S), z_sim true rV mX1_plan 6 (kb a3 a4 μ) 5 [(0, .ref 8), (1, .ref o1), (2, .ref o2), (3, .int a3), (4, .int a4)] [] μ) (he37 : ∀ (a3 : Int32) (μ : z_S), z_sim true rV mX1_plan 6 (e37 a3 μ) 37 [(0, .ref 8), (1, .ref o1), (2, .ref o2), (3, .int a3)] [] μ) (v3 : Int32) (v4 : Int32) (μ : z_S) : z_sim true rV mX1_plan 6 (b_X1_plan_L5 N o1 o2 kb e37 v3 v4 μ) 5 [(0, .ref 8), (1, .ref o1), (2, .ref o2), (3, .int v3), (4, .int v4)] [] μ := by
  unfold b_X1_plan_L5
  refine s_iload (pc := 5) 4 dX1_plan_5 rfl ?_
  refine s_aload_n (pc := 7) 1 dX1_plan_7 rfl rfl ?_
  refine s_getR (pc := 8) (ci := 2) (k := 0) (r := (o1 + 1)) dX1_plan_8 fl_1_39 hk1 rfl (gr_2_0_0 hk1) ?_
  refine s_iconst (pc := 11) (v := (0 : Int32)) dX1_plan_11 (by decide) ?_
  refine s_ialdK (pc := 12) (k := 0) dX1_plan_12 (gk_2_1 hk1) (by decide) (by decide) (by decide) ?_
  refine s_icmp_ge (pc := 13) (tgt := 37) dX1_plan_13 (by decide) ?_ ?_
  · refine s_aload_n (pc := 16) 0 dX1_plan_16 rfl rfl ?_
    refine s_aload_n (pc := 17) 1 dX1_plan_17 rfl rfl ?_
    refine s_aload_n (pc := 18) 2 dX1_plan_18 rfl rfl ?_
    refine s_iload (pc := 19) 4 dX1_plan_19 rfl ?_
    refine s_iload_n (pc := 21) 3 dX1_plan_21 rfl rfl ?_
    refine s_callVI (pc := 22) (as := [.ref o1, .ref o2, .int v4, .int v3]) (st := []) dX1_plan_22 lk_1_44 kd_8 (t_X1_weigh N o1 o2 v4 v3 μ) (by omega) rfl (by decide) rfl (fun x1 μ_1 => ?_)
    refine s_if_eq (pc := 25) (tgt := 31) dX1_plan_25 (by decide) ?_ ?_
    · exact t_X1_plan_B31 N o1 o2 hk1 hk2 kb e37 hkb he37 v3 v4 μ_1
    · refine s_iincB (pc := 28) (lv' := fun x3 => [(3, .int x3), (0, .ref 8), (1, .ref o1), (2, .ref o2), (4, .int v4)]) (c := 1) 3 dX1_plan_28 rfl (by decide) (by decide) (fun _ => rfl) (fun x3 => ?_)
      refine s_sub (lv' := [(0, .ref 8), (1, .ref o1), (2, .ref o2), (3, .int x3), (4, .int v4)]) [1, 2, 3, 0, 4] rfl ?_
      exact t_X1_plan_B31 N o1 o2 hk1 hk2 kb e37 hkb he37 x3 v4 μ_1
  · refine s_sub (lv' := [(0, .ref 8), (1, .ref o1), (2, .ref o2), (3, .int v3)]) [0, 1, 2, 3] rfl ?_
    exact he37 v3 μ
def f_X1_plan_L5 (N : Nat) (o1 : Nat) (o2 : Nat) (e37 : Int32 → z_S → Option (Unit × z_S)) : Nat → Int32 → Int32 → z_S → Option (Unit × z_S)
  | 0, _, _, _ => none
  | n + 1, v3, v4, μ => b_X1_plan_L5 N o1 o2 (f_X1_plan_L5 N o1 o2 e37 n) e37 v3 v4 μ
theorem t_X1_plan_L5 (N : Nat) (o1 : Nat) (o2 : Nat) (hk1 : z_kw true o1 = (2, 0)) (hk2 : z_kw true o2 = (8, 0)) (e37 : Int32 → z_S → Option (Unit × z_S)) (he37 : ∀ (a3 : Int32) (μ : z_S), z_sim true rV mX1_plan 6 (e37 a3 μ) 37 [(0, .ref 8), (1, .ref o1), (2, .ref o2), (3, .int a3)] [] μ) : ∀ (n : Nat) (v3 : Int32) (v4 : Int32) (μ : z_S), z_sim true rV mX1_plan 6 (f_X1_plan_L5 N o1 o2 e37 n v3 v4 μ) 5 [(0, .ref 8), (1, .ref o1), (2, .ref o2), (3, .int v3), (4, .int v4)] [] μ
  | 0, _, _, _ => s_none
  | n + 1, v3, v4, μ => tb_X1_plan_L5 N o1 o2 hk1 hk2 (f_X1_plan_L5 N o1 o2 e37 n) e37 (t_X1_plan_L5 N o1 o2 hk1 hk2 e37 he37 n) he37 v3 v4 μ
def b_X1_plan_L69 (N : Nat) (o1 : Nat) (o2 : Nat) (c3 : Int32) (c4 : Int32) (kb : Int32 → z_S → Option (Unit × z_S)) (e111 : z_S → Option (Unit × z_S)) (v5 : Int32) (μ : z_S) : Option (Unit × z_S) :=
  if v5 < (μ.1 (o1 + 1) 2) then (if 0 < c3 then (z_in v5 3 <| z_bn (f_X1_price N v5 c4 (μ.1 (o2 + 1) v5.toNatClampNeg) μ) fun _ μ_4 => z_bn (f_X1_spread N c4 μ_4) fun _ μ_5 => z_bd (v5 + 1) fun x5 => kb x5 μ_5) else e111 μ) else e111 μ
theorem tb_X1_plan_L69 (N : Nat) (o1 : Nat) (o2 : Nat) (c3 : Int32) (c4 : Int32) (hk1 : z_kw true o1 = (2, 0)) (hk2 : z_kw true o2 = (8, 0)) (kb : Int32 → z_S → Option (Unit × z_S)) (e111 : z_S → Option (Unit × z_S)) (hkb : ∀ (a5 : Int32) (μ : z_S), z_sim true rV mX1_plan 6 (kb a5 μ) 69 [(0, .ref 8), (1, .ref o1), (2, .ref o2), (3, .int c3), (4, .int c4), (5, .int a5)] [] μ) (he111 : ∀ (μ : z_S), z_sim true rV mX1_plan 6 (e111 μ) 111 [(0, .ref 8), (4, .int c4)] [] μ) (v5 : Int32) (μ : z_S) : z_sim true rV mX1_plan 6 (b_X1_plan_L69 N o1 o2 c3 c4 kb e111 v5 μ) 69 [(0, .ref 8), (1, .ref o1), (2, .ref o2), (3, .int c3), (4, .int c4), (5, .int v5)] [] μ := by
  unfold b_X1_plan_L69
  refine s_iload (pc := 69) 5 dX1_plan_69 rfl ?_
  refine s_aload_n (pc := 71) 1 dX1_plan_71 rfl rfl ?_
  refine s_getR (pc := 72) (ci := 2) (k := 0) (r := (o1 + 1)) dX1_plan_72 fl_1_39 hk1 rfl (gr_2_0_0 hk1) ?_
  refine s_iconst (pc := 75) (v := (2 : Int32)) dX1_plan_75 (by decide) ?_
  refine s_ialdK (pc := 76) (k := 2) dX1_plan_76 (gk_2_1 hk1) (by decide) (by decide) (by decide) ?_
  refine s_icmp_ge (pc := 77) (tgt := 111) dX1_plan_77 (by decide) ?_ ?_
  · refine s_iload_n (pc := 80) 3 dX1_plan_80 rfl rfl ?_
    refine s_if_le (pc := 81) (tgt := 111) dX1_plan_81 (by decide) ?_ ?_
    · refine s_aload_n (pc := 84) 0 dX1_plan_84 rfl rfl ?_
      refine s_iload (pc := 85) 5 dX1_plan_85 rfl ?_
      refine s_iload (pc := 87) 4 dX1_plan_87 rfl ?_
      refine s_aload_n (pc := 89) 2 dX1_plan_89 rfl rfl ?_
      refine s_getR (pc := 90) (ci := 8) (k := 1) (r := (o2 + 1)) dX1_plan_90 fl_1_56 hk2 rfl (gr_8_0_1 hk2) ?_
      refine s_iload (pc := 93) 5 dX1_plan_93 rfl ?_
      refine s_iald (pc := 95) dX1_plan_95 (gk_8_1 hk2) ?_
      refine s_callVV (pc := 96) (as := [.int v5, .int c4, .int (μ.1 (o2 + 1) v5.toNatClampNeg)]) (st := []) dX1_plan_96 lk_1_61 kd_8 (t_X1_price N v5 c4 (μ.1 (o2 + 1) v5.toNatClampNeg) μ) (by omega) rfl (by decide) rfl (fun _ μ_4 => ?_)
      refine s_aload_n (pc := 99) 0 dX1_plan_99 rfl rfl ?_
      refine s_iload (pc := 100) 4 dX1_plan_100 rfl ?_
      refine s_callVV (pc := 102) (as := [.int c4]) (st := []) dX1_plan_102 lk_1_65 kd_8 (t_X1_spread N c4 μ_4) (by omega) rfl (by decide) rfl (fun _ μ_5 => ?_)
      refine s_iincB (pc := 105) (lv' := fun x5 => [(5, .int x5), (0, .ref 8), (1, .ref o1), (2, .ref o2), (3, .int c3), (4, .int c4)]) (c := 1) 5 dX1_plan_105 rfl (by decide) (by decide) (fun _ => rfl) (fun x5 => ?_)
      refine s_goto (pc := 108) (tgt := 69) dX1_plan_108 (by decide) ?_
      refine s_sub (lv' := [(0, .ref 8), (1, .ref o1), (2, .ref o2), (3, .int c3), (4, .int c4), (5, .int x5)]) [1, 2, 3, 4, 5, 0] rfl ?_
      exact hkb x5 μ_5
    · refine s_sub (lv' := [(0, .ref 8), (4, .int c4)]) [0, 4] rfl ?_
      exact he111 μ
  · refine s_sub (lv' := [(0, .ref 8), (4, .int c4)]) [0, 4] rfl ?_
    exact he111 μ
def f_X1_plan_L69 (N : Nat) (o1 : Nat) (o2 : Nat) (c3 : Int32) (c4 : Int32) (e111 : z_S → Option (Unit × z_S)) : Nat → Int32 → z_S → Option (Unit × z_S)
  | 0, _, _ => none
  | n + 1, v5, μ => b_X1_plan_L69 N o1 o2 c3 c4 (f_X1_plan_L69 N o1 o2 c3 c4 e111 n) e111 v5 μ
theorem t_X1_plan_L69 (N : Nat) (o1 : Nat) (o2 : Nat) (c3 : Int32) (c4 : Int32) (hk1 : z_kw true o1 = (2, 0)) (hk2 : z_kw true o2 = (8, 0)) (e111 : z_S → Option (Unit × z_S)) (he111 : ∀ (μ : z_S), z_sim true rV mX1_plan 6 (e111 μ) 111 [(0, .ref 8), (4, .int c4)] [] μ) : ∀ (n : Nat) (v5 : Int32) (μ : z_S), z_sim true rV mX1_plan 6 (f_X1_plan_L69 N o1 o2 c3 c4 e111 n v5 μ) 69 [(0, .ref 8), (1, .ref o1), (2, .ref o2), (3, .int c3), (4, .int c4), (5, .int v5)] [] μ
  | 0, _, _ => s_none
  | n + 1, v5, μ => tb_X1_plan_L69 N o1 o2 c3 c4 hk1 hk2 (f_X1_plan_L69 N o1 o2 c3 c4 e111 n) e111 (t_X1_plan_L69 N o1 o2 c3 c4 hk1 hk2 e111 he111 n) he111 v5 μ
def b_X1_plan_L117 (N : Nat) (o1 : Nat) (o2 : Nat) (c4 : Int32) (kb : Int64 → Int32 → z_S → Option (Unit × z_S)) (e144 : Int64 → z_S → Option (Unit × z_S)) (v5 : Int64) (v7 : Int32) (μ : z_S) : Option (Unit × z_S) :=
  if c4 < v7 then (e144 v5 μ) else z_in v7 256 <| z_bn (f_J9_max_f86c9 N v5 (μ.2.1 20 v7.toNatClampNeg) μ) fun x6 μ_6 => z_bd (v7 + 1) fun x7 => kb x6 x7 μ_6
theorem tb_X1_plan_L117 (N : Nat) (o1 : Nat) (o2 : Nat) (c4 : Int32) (hk1 : z_kw true o1 = (2, 0)) (hk2 : z_kw true o2 = (8, 0)) (kb : Int64 → Int32 → z_S → Option (Unit × z_S)) (e144 : Int64 → z_S → Option (Unit × z_S)) (hkb : ∀ (a5 : Int64) (a7 : Int32) (μ : z_S), z_sim true rV mX1_plan 6 (kb a5 a7 μ) 117 [(0, .ref 8), (4, .int c4), (5, .long a5), (7, .int a7)] [] μ) (he144 : ∀ (a5 : Int64) (μ : z_S), z_sim true rV mX1_plan 6 (e144 a5 μ) 144 [(0, .ref 8), (5, .long a5)] [] μ) (v5 : Int64) (v7 : Int32) (μ : z_S) : z_sim true rV mX1_plan 6 (b_X1_plan_L117 N o1 o2 c4 kb e144 v5 v7 μ) 117 [(0, .ref 8), (4, .int c4), (5, .long v5), (7, .int v7)] [] μ := by
  unfold b_X1_plan_L117
  refine s_iload (pc := 117) 3 dX1_plan_117 rfl ?_
  refine s_iload (pc := 119) 1 dX1_plan_119 rfl ?_
  refine s_icmp_gt (pc := 121) (tgt := 144) dX1_plan_121 (by decide) ?_ ?_
  · refine s_sub (lv' := [(0, .ref 8), (5, .long v5)]) [0, 2] rfl ?_
    exact he144 v5 μ
  · refine s_lload (pc := 124) 2 dX1_plan_124 rfl ?_
    refine s_aload_n (pc := 126) 0 dX1_plan_126 rfl rfl ?_
    refine s_getR (pc := 127) (ci := 1) (k := 8) (r := 20) dX1_plan_127 fl_1_32 kd_8 rfl rs_8_8 ?_
    refine s_iload (pc := 130) 3 dX1_plan_130 rfl ?_
    refine s_lald (pc := 132) dX1_plan_132 kd_20 ?_
    refine s_callSJ (pc := 133) (as := [.long v5, .long (μ.2.1 20 v7.toNatClampNeg)]) (st := []) dX1_plan_133 lk_1_69 (t_J9_max_f86c9 N v5 (μ.2.1 20 v7.toNatClampNeg) μ) (by omega) rfl (by decide) rfl (fun x6 μ_6 => ?_)
    refine s_lstore (pc := 136) (lv' := [(5, .long x6), (0, .ref 8), (4, .int c4), (7, .int v7)]) dX1_plan_136 (by decide) rfl ?_
    refine s_iincB (pc := 138) (lv' := fun x7 => [(7, .int x7), (5, .long x6), (0, .ref 8), (4, .int c4)]) (c := 1) 3 dX1_plan_138 rfl (by decide) (by decide) (fun _ => rfl) (fun x7 => ?_)
    refine s_goto (pc := 141) (tgt := 117) dX1_plan_141 (by decide) ?_
    refine s_sub (lv' := [(0, .ref 8), (4, .int c4), (5, .long x6), (7, .int x7)]) [2, 3, 1, 0] rfl ?_
    exact hkb x6 x7 μ_6
def f_X1_plan_L117 (N : Nat) (o1 : Nat) (o2 : Nat) (c4 : Int32) (e144 : Int64 → z_S → Option (Unit × z_S)) : Nat → Int64 → Int32 → z_S → Option (Unit × z_S)
  | 0, _, _, _ => none
  | n + 1, v5, v7, μ => b_X1_plan_L117 N o1 o2 c4 (f_X1_plan_L117 N o1 o2 c4 e144 n) e144 v5 v7 μ
theorem t_X1_plan_L117 (N : Nat) (o1 : Nat) (o2 : Nat) (c4 : Int32) (hk1 : z_kw true o1 = (2, 0)) (hk2 : z_kw true o2 = (8, 0)) (e144 : Int64 → z_S → Option (Unit × z_S)) (he144 : ∀ (a5 : Int64) (μ : z_S), z_sim true rV mX1_plan 6 (e144 a5 μ) 144 [(0, .ref 8), (5, .long a5)] [] μ) : ∀ (n : Nat) (v5 : Int64) (v7 : Int32) (μ : z_S), z_sim true rV mX1_plan 6 (f_X1_plan_L117 N o1 o2 c4 e144 n v5 v7 μ) 117 [(0, .ref 8), (4, .int c4), (5, .long v5), (7, .int v7)] [] μ
  | 0, _, _, _ => s_none
  | n + 1, v5, v7, μ => tb_X1_plan_L117 N o1 o2 c4 hk1 hk2 (f_X1_plan_L117 N o1 o2 c4 e144 n) e144 (t_X1_plan_L117 N o1 o2 c4 hk1 hk2 e144 he144 n) he144 v5 v7 μ
def f_X1_plan_B111 (N : Nat) (o1 : Nat) (o2 : Nat) (v4 : Int32) (μ : z_S) : Option (Unit × z_S) :=
  f_X1_plan_L117 N o1 o2 v4 (fun y144_5 μ144 => z_bn (f_X1_readOff N y144_5 μ144) fun _ μ_7 => some ((), μ_7)) N (0 : Int64) (1 : Int32) μ
theorem t_X1_plan_B111 (N : Nat) (o1 : Nat) (o2 : Nat) (hk1 : z_kw true o1 = (2, 0)) (hk2 : z_kw true o2 = (8, 0))   (v4 : Int32)  (μ : z_S) : z_sim true rV mX1_plan 6 (f_X1_plan_B111 N o1 o2  v4 μ) 111 [(0, .ref 8), (4, .int v4)] [] μ := by
  unfold f_X1_plan_B111
  refine s_lconst (pc := 111) (v := (0 : Int64)) dX1_plan_111 (by decide) ?_
  refine s_lstore (pc := 112) (lv' := [(5, .long (0 : Int64)), (0, .ref 8), (4, .int v4)]) dX1_plan_112 (by decide) rfl ?_
  refine s_iconst (pc := 114) (v := (1 : Int32)) dX1_plan_114 (by decide) ?_
  refine s_istore (pc := 115) (lv' := [(7, .int (1 : Int32)), (5, .long (0 : Int64)), (0, .ref 8), (4, .int v4)]) dX1_plan_115 (by decide) rfl ?_
  refine s_sub (lv' := [(0, .ref 8), (4, .int v4), (5, .long (0 : Int64)), (7, .int (1 : Int32))]) [2, 3, 1, 0] rfl ?_
  refine t_X1_plan_L117 N o1 o2 v4 hk1 hk2 _ ?_ N (0 : Int64) (1 : Int32) μ
  · intro y144_5 μ144
    refine s_aload_n (pc := 144) 0 dX1_plan_144 rfl rfl ?_
    refine s_lload (pc := 145) 1 dX1_plan_145 rfl ?_
    refine s_callVV (pc := 147) (as := [.long y144_5]) (st := []) dX1_plan_147 lk_1_75 kd_8 (t_X1_readOff N y144_5 μ144) (by omega) rfl (by decide) rfl (fun _ μ_7 => ?_)
    exact s_vret (pc := 150) dX1_plan_150 rfl
def f_X1_plan (N : Nat) (o1 : Nat) (o2 : Nat) (μ : z_S) : Option (Unit × z_S) :=
  z_ko true o1 2 <| z_ko true o2 8 <| f_X1_plan_L5 N o1 o2 (fun y37_3 μ37 => z_bd (((1 : Int32) <<< (y37_3 &&& 31)) - (1 : Int32)) fun x4 => z_bn (f_J7_fill_bad5a N 20 (0 : Int32) (x4 + (1 : Int32)) (-1 : Int64) μ37) fun _ μ_2 => z_bd (z_setJ μ_2 20 0 (0 : Int64)) fun μ_3 => f_X1_plan_L69 N o1 o2 y37_3 x4 (fun μ111 => f_X1_plan_B111 N o1 o2 x4 μ111) N (0 : Int32) μ_3) N (0 : Int32) (0 : Int32) μ
theorem t_X1_plan (N : Nat) (o1 : Nat) (o2 : Nat) (μ : z_S) : z_met true rV mX1_plan 6 [.ref 8, .ref o1, .ref o2] μ (f_X1_plan N o1 o2 μ) := by
  refine z_met.of (by decide +kernel) (by show _ ≤ _; first | decide | exact Nat.le_of_ble_eq_true rfl) (lv := [(0, .ref 8), (1, .ref o1), (2, .ref o2)]) rfl ?_
  unfold f_X1_plan
  refine s_ko (fun hk1 => ?_)
  refine s_ko (fun hk2 => ?_)
  refine s_iconst (pc := 0) (v := (0 : Int32)) dX1_plan_0 (by decide) ?_
  refine s_istore_n (pc := 1) (lv' := [(3, .int (0 : Int32)), (0, .ref 8), (1, .ref o1), (2, .ref o2)]) dX1_plan_1 rfl (by decide) rfl ?_
  refine s_iconst (pc := 2) (v := (0 : Int32)) dX1_plan_2 (by decide) ?_
  refine s_istore (pc := 3) (lv' := [(4, .int (0 : Int32)), (3, .int (0 : Int32)), (0, .ref 8), (1, .ref o1), (2, .ref o2)]) dX1_plan_3 (by decide) rfl ?_
  refine s_sub (lv' := [(0, .ref 8), (1, .ref o1), (2, .ref o2), (3, .int (0 : Int32)), (4, .int (0 : Int32))]) [2, 3, 4, 1, 0] rfl ?_
  refine t_X1_plan_L5 N o1 o2 hk1 hk2 _ ?_ N (0 : Int32) (0 : Int32) μ
  · intro y37_3 μ37
    refine s_iconst (pc := 37) (v := (1 : Int32)) dX1_plan_37 (by decide) ?_
    refine s_iload_n (pc := 38) 3 dX1_plan_38 rfl rfl ?_
    refine s_ishl (pc := 39) dX1_plan_39 ?_
    refine s_iconst (pc := 40) (v := (1 : Int32)) dX1_plan_40 (by decide) ?_
    refine s_isub (pc := 41) dX1_plan_41 ?_
    refine s_letI (fun x4 => ?_)
    refine s_istore (pc := 42) (lv' := [(4, .int x4), (0, .ref 8), (1, .ref o1), (2, .ref o2), (3, .int y37_3)]) dX1_plan_42 (by decide) rfl ?_
    refine s_aload_n (pc := 44) 1 dX1_plan_44 rfl rfl ?_
    refine s_getR (pc := 45) (ci := 1) (k := 8) (r := 20) dX1_plan_45 fl_1_32 kd_8 rfl rs_8_8 ?_
    refine s_iconst (pc := 48) (v := (0 : Int32)) dX1_plan_48 (by decide) ?_
    refine s_iload (pc := 49) 0 dX1_plan_49 rfl ?_
    refine s_iconst (pc := 51) (v := (1 : Int32)) dX1_plan_51 (by decide) ?_
    refine s_iadd (pc := 52) dX1_plan_52 ?_
    refine s_ldc2 (pc := 53) (v := (-1 : Int64)) dX1_plan_53 w_1027 ?_
    refine s_callSV (pc := 56) (as := [.ref 20, .int (0 : Int32), .int (x4 + (1 : Int32)), .long (-1 : Int64)]) (st := []) dX1_plan_56 lk_1_50 (t_J7_fill_bad5a N 20 (0 : Int32) (x4 + (1 : Int32)) (-1 : Int64) μ37) (by omega) rfl (by decide) rfl (fun _ μ_2 => ?_)
    refine s_aload_n (pc := 59) 1 dX1_plan_59 rfl rfl ?_
    refine s_getR (pc := 60) (ci := 1) (k := 8) (r := 20) dX1_plan_60 fl_1_32 kd_8 rfl rs_8_8 ?_
    refine s_iconst (pc := 63) (v := (0 : Int32)) dX1_plan_63 (by decide) ?_
    refine s_lconst (pc := 64) (v := (0 : Int64)) dX1_plan_64 (by decide) ?_
    refine s_lastK (pc := 65) (k := 0) dX1_plan_65 kd_20 (by decide) (by decide) (by decide) (fun μ_3 => ?_)
    refine s_iconst (pc := 66) (v := (0 : Int32)) dX1_plan_66 (by decide) ?_
    refine s_istore (pc := 67) (lv' := [(5, .int (0 : Int32)), (4, .int x4), (0, .ref 8), (1, .ref o1), (2, .ref o2), (3, .int y37_3)]) dX1_plan_67 (by decide) rfl ?_
    refine s_sub (lv' := [(0, .ref 8), (1, .ref o1), (2, .ref o2), (3, .int y37_3), (4, .int x4), (5, .int (0 : Int32))]) [2, 3, 4, 5, 1, 0] rfl ?_
    refine t_X1_plan_L69 N o1 o2 y37_3 x4 hk1 hk2 _ ?_ N (0 : Int32) μ_3
    · intro μ111
      exact t_X1_plan_B111 N o1 o2 hk1 hk2 x4 μ111
def f_X1_close_B34 (N : Nat) (o1 : Nat) (o2 : Nat) (kb : Int32 → z_S → Option (Unit × z_S)) (e40 : z_S → Option (Unit × z_S)) (v3 : Int32) (μ : z_S) : Option (Unit × z_S) :=
  z_bd (v3 + 1) fun x1 => kb x1 μ
theorem t_X1_close_B34 (N : Nat) (o1 : Nat) (o2 : Nat) (hk1 : z_kw true o1 = (2, 0)) (hk2 : z_kw true o2 = (8, 0)) (kb : Int32 → z_S → Option (Unit × z_S)) (e40 : z_S → Option (Unit × z_S)) (hkb : ∀ (a3 : Int32) (μ : z_S), z_sim true rV mX1_close 2 (kb a3 μ) 2 [(0, .ref 8), (1, .ref o1), (2, .ref o2), (3, .int a3)] [] μ) (he40 : ∀  (μ : z_S), z_sim true rV mX1_close 2 (e40 μ) 40 [(1, .ref o1), (2, .ref o2)] [] μ) (v3 : Int32)  (μ : z_S) : z_sim true rV mX1_close 2 (f_X1_close_B34 N o1 o2 kb e40 v3 μ) 34 [(0, .ref 8), (1, .ref o1), (2, .ref o2), (3, .int v3)] [] μ := by
  unfold f_X1_close_B34
  refine s_iincB (pc := 34) (lv' := fun x1 => [(3, .int x1), (0, .ref 8), (1, .ref o1), (2, .ref o2)]) (c := 1) 3 dX1_close_34 rfl (by decide) (by decide) (fun _ => rfl) (fun x1 => ?_)
  refine s_goto (pc := 37) (tgt := 2) dX1_close_37 (by decide) ?_
  refine s_sub (lv' := [(0, .ref 8), (1, .ref o1), (2, .ref o2), (3, .int x1)]) [1, 2, 3, 0] rfl ?_
  exact hkb x1 μ
def b_X1_close_L2 (N : Nat) (o1 : Nat) (o2 : Nat) (kb : Int32 → z_S → Option (Unit × z_S)) (e40 : z_S → Option (Unit × z_S)) (v3 : Int32) (μ : z_S) : Option (Unit × z_S) :=
  if v3 < (μ.1 (o1 + 1) 0) then (z_in v3 8 <| if (μ.1 9 v3.toNatClampNeg) = (-1 : Int32) then (f_X1_close_B34 N o1 o2 kb e40 v3 μ) else z_in v3 8 <| z_in v3 8 <| z_bd (z_setI μ (o2 + 3) v3.toNatClampNeg (μ.1 9 v3.toNatClampNeg)) fun μ_1 => f_X1_close_B34 N o1 o2 kb e40 v3 μ_1) else e40 μ
theorem tb_X1_close_L2 (N : Nat) (o1 : Nat) (o2 : Nat) (hk1 : z_kw true o1 = (2, 0)) (hk2 : z_kw true o2 = (8, 0)) (kb : Int32 → z_S → Option (Unit × z_S)) (e40 : z_S → Option (Unit × z_S)) (hkb : ∀ (a3 : Int32) (μ : z_S), z_sim true rV mX1_close 2 (kb a3 μ) 2 [(0, .ref 8), (1, .ref o1), (2, .ref o2), (3, .int a3)] [] μ) (he40 : ∀ (μ : z_S), z_sim true rV mX1_close 2 (e40 μ) 40 [(1, .ref o1), (2, .ref o2)] [] μ) (v3 : Int32) (μ : z_S) : z_sim true rV mX1_close 2 (b_X1_close_L2 N o1 o2 kb e40 v3 μ) 2 [(0, .ref 8), (1, .ref o1), (2, .ref o2), (3, .int v3)] [] μ := by
  unfold b_X1_close_L2
  refine s_iload_n (pc := 2) 3 dX1_close_2 rfl rfl ?_
  refine s_aload_n (pc := 3) 1 dX1_close_3 rfl rfl ?_
  refine s_getR (pc := 4) (ci := 2) (k := 0) (r := (o1 + 1)) dX1_close_4 fl_1_39 hk1 rfl (gr_2_0_0 hk1) ?_
  refine s_iconst (pc := 7) (v := (0 : Int32)) dX1_close_7 (by decide) ?_
  refine s_ialdK (pc := 8) (k := 0) dX1_close_8 (gk_2_1 hk1) (by decide) (by decide) (by decide) ?_
  refine s_icmp_ge (pc := 9) (tgt := 40) dX1_close_9 (by decide) ?_ ?_
  · refine s_aload_n (pc := 12) 0 dX1_close_12 rfl rfl ?_
    refine s_getR (pc := 13) (ci := 1) (k := 1) (r := 9) dX1_close_13 fl_1_9 kd_8 rfl rs_8_1 ?_
    refine s_iload_n (pc := 16) 3 dX1_close_16 rfl rfl ?_
    refine s_iald (pc := 17) dX1_close_17 kd_9 ?_
    refine s_iconst (pc := 18) (v := (-1 : Int32)) dX1_close_18 (by decide) ?_
    refine s_icmp_eq (pc := 19) (tgt := 34) dX1_close_19 (by decide) ?_ ?_
    · exact t_X1_close_B34 N o1 o2 hk1 hk2 kb e40 hkb he40 v3 μ
    · refine s_aload_n (pc := 22) 2 dX1_close_22 rfl rfl ?_
      refine s_getR (pc := 23) (ci := 8) (k := 3) (r := (o2 + 3)) dX1_close_23 fl_1_79 hk2 rfl (gr_8_0_3 hk2) ?_
      refine s_iload_n (pc := 26) 3 dX1_close_26 rfl rfl ?_
      refine s_aload_n (pc := 27) 0 dX1_close_27 rfl rfl ?_
      refine s_getR (pc := 28) (ci := 1) (k := 1) (r := 9) dX1_close_28 fl_1_9 kd_8 rfl rs_8_1 ?_
      refine s_iload_n (pc := 31) 3 dX1_close_31 rfl rfl ?_
      refine s_iald (pc := 32) dX1_close_32 kd_9 ?_
      refine s_iast (pc := 33) dX1_close_33 (gk_8_3 hk2) (fun μ_1 => ?_)
      exact t_X1_close_B34 N o1 o2 hk1 hk2 kb e40 hkb he40 v3 μ_1
  · refine s_sub (lv' := [(1, .ref o1), (2, .ref o2)]) [1, 2] rfl ?_
    exact he40 μ
def f_X1_close_L2 (N : Nat) (o1 : Nat) (o2 : Nat) (e40 : z_S → Option (Unit × z_S)) : Nat → Int32 → z_S → Option (Unit × z_S)
  | 0, _, _ => none
  | n + 1, v3, μ => b_X1_close_L2 N o1 o2 (f_X1_close_L2 N o1 o2 e40 n) e40 v3 μ
theorem t_X1_close_L2 (N : Nat) (o1 : Nat) (o2 : Nat) (hk1 : z_kw true o1 = (2, 0)) (hk2 : z_kw true o2 = (8, 0)) (e40 : z_S → Option (Unit × z_S)) (he40 : ∀ (μ : z_S), z_sim true rV mX1_close 2 (e40 μ) 40 [(1, .ref o1), (2, .ref o2)] [] μ) : ∀ (n : Nat) (v3 : Int32) (μ : z_S), z_sim true rV mX1_close 2 (f_X1_close_L2 N o1 o2 e40 n v3 μ) 2 [(0, .ref 8), (1, .ref o1), (2, .ref o2), (3, .int v3)] [] μ
  | 0, _, _ => s_none
  | n + 1, v3, μ => tb_X1_close_L2 N o1 o2 hk1 hk2 (f_X1_close_L2 N o1 o2 e40 n) e40 (t_X1_close_L2 N o1 o2 hk1 hk2 e40 he40 n) he40 v3 μ
def f_X1_close (N : Nat) (o1 : Nat) (o2 : Nat) (μ : z_S) : Option (Unit × z_S) :=
  z_ko true o1 2 <| z_ko true o2 8 <| f_X1_close_L2 N o1 o2 (fun μ40 => z_bd (z_setI μ40 o2 0 ((μ40.1 o2 0) + (1 : Int32))) fun μ_2 => z_bn (f_X8_rest N o2 o1 μ_2) fun _ μ_3 => some ((), μ_3)) N (0 : Int32) μ
theorem t_X1_close (N : Nat) (o1 : Nat) (o2 : Nat) (μ : z_S) : z_met true rV mX1_close 2 [.ref 8, .ref o1, .ref o2] μ (f_X1_close N o1 o2 μ) := by
  refine z_met.of (by decide +kernel) (by show _ ≤ _; first | decide | exact Nat.le_of_ble_eq_true rfl) (lv := [(0, .ref 8), (1, .ref o1), (2, .ref o2)]) rfl ?_
  unfold f_X1_close
  refine s_ko (fun hk1 => ?_)
  refine s_ko (fun hk2 => ?_)
  refine s_iconst (pc := 0) (v := (0 : Int32)) dX1_close_0 (by decide) ?_
  refine s_istore_n (pc := 1) (lv' := [(3, .int (0 : Int32)), (0, .ref 8), (1, .ref o1), (2, .ref o2)]) dX1_close_1 rfl (by decide) rfl ?_
  refine s_sub (lv' := [(0, .ref 8), (1, .ref o1), (2, .ref o2), (3, .int (0 : Int32))]) [1, 2, 3, 0] rfl ?_
  refine t_X1_close_L2 N o1 o2 hk1 hk2 _ ?_ N (0 : Int32) μ
  · intro μ40
    refine s_aload_n (pc := 40) 1 dX1_close_40 rfl rfl ?_
    refine s_dup (pc := 41) dX1_close_41 rfl ?_
    refine s_getI (pc := 42) (ci := 8) (k := 0) dX1_close_42 fl_1_82 hk2 rfl ?_
    refine s_iconst (pc := 45) (v := (1 : Int32)) dX1_close_45 (by decide) ?_
    refine s_iadd (pc := 46) dX1_close_46 ?_
    refine s_putI (pc := 47) (ci := 8) (k := 0) dX1_close_47 fl_1_82 hk2 rfl rfl (fun μ_2 => ?_)
    refine s_aload_n (pc := 50) 1 dX1_close_50 rfl rfl ?_
    refine s_aload_n (pc := 51) 0 dX1_close_51 rfl rfl ?_
    refine s_callVV (pc := 52) (as := [.ref o1]) (st := []) dX1_close_52 lk_1_86 hk2 (t_X8_rest N o2 o1 μ_2) (by omega) rfl (by decide) rfl (fun _ μ_3 => ?_)
    exact s_vret (pc := 55) dX1_close_55 rfl
