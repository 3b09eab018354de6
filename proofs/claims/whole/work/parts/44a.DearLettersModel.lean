def f_X12_isIn (N : Nat) (a0 : Int64) (a2 : Int64) (a4 : Int64) (μ : z_S) : Option (Int32 × z_S) :=
  if a0 < a2 then (some ((0 : Int32), μ)) else if a4 < a0 then (some ((0 : Int32), μ)) else some ((1 : Int32), μ)
theorem t_X12_isIn (N : Nat) (a0 : Int64) (a2 : Int64) (a4 : Int64) (μ : z_S) : z_met false rI mX12_isIn 0 [.long a0, .long a2, .long a4] μ (f_X12_isIn N a0 a2 a4 μ) := by
  refine z_met.of (by decide +kernel) (by show _ ≤ _; first | decide | exact Nat.le_of_ble_eq_true rfl) (lv := [(0, .long a0), (2, .long a2), (4, .long a4)]) rfl ?_
  unfold f_X12_isIn
  refine s_lload_n (pc := 0) 0 dX12_isIn_0 rfl rfl ?_
  refine s_lload_n (pc := 1) 1 dX12_isIn_1 rfl rfl ?_
  refine s_lcmp_lt (pc := 2) (tgt := 17) dX12_isIn_2 dX12_isIn_3 (by decide) ?_ ?_
  · refine s_iconst (pc := 17) (v := (0 : Int32)) dX12_isIn_17 (by decide) ?_
    exact s_zret0 (pc := 18) dX12_isIn_18 rfl rfl
  · refine s_lload_n (pc := 6) 0 dX12_isIn_6 rfl rfl ?_
    refine s_lload (pc := 7) 2 dX12_isIn_7 rfl ?_
    refine s_lcmp_gt (pc := 9) (tgt := 17) dX12_isIn_9 dX12_isIn_10 (by decide) ?_ ?_
    · refine s_iconst (pc := 17) (v := (0 : Int32)) dX12_isIn_17 (by decide) ?_
      exact s_zret0 (pc := 18) dX12_isIn_18 rfl rfl
    · refine s_iconst (pc := 13) (v := (1 : Int32)) dX12_isIn_13 (by decide) ?_
      refine s_goto (pc := 14) (tgt := 18) dX12_isIn_14 (by decide) ?_
      exact s_zret0 (pc := 18) dX12_isIn_18 rfl rfl
def f_X12_feed_B81 (N : Nat) (c1 : Int32) (c2 : Int32) (c3 : Int32) (c4 : Int32) (c5 : Int32) (kb : Int32 → z_S → Option (Int32 × z_S)) (v6 : Int32) (s0 : Int32) (μ : z_S) : Option (Int32 × z_S) :=
  z_nz (4 : Int32) <| z_in (μ.1 253 1) 1600 <| z_bd (z_setI μ 254 (μ.1 253 1).toNatClampNeg ((s0 >>> (((8 : Int32) * ((3 : Int32) - (v6 - v6 / (4 : Int32) * (4 : Int32)))) &&& 31)) &&& (255 : Int32))) fun μ_2 => z_bd (z_setI μ_2 253 1 ((μ_2.1 253 1) + (1 : Int32))) fun μ_3 => z_bd (v6 + 1) fun x1 => kb x1 μ_3
theorem t_X12_feed_B81 (N : Nat) (c1 : Int32) (c2 : Int32) (c3 : Int32) (c4 : Int32) (c5 : Int32)  (kb : Int32 → z_S → Option (Int32 × z_S)) (hkb : ∀ (a6 : Int32) (μ : z_S), z_sim false rI mX12_feed 0 (kb a6 μ) 28 [(0, .ref 253), (1, .int c1), (2, .int c2), (3, .int c3), (4, .int c4), (5, .int c5), (6, .int a6)] [] μ) (v6 : Int32) (s0 : Int32)  (μ : z_S) : z_sim false rI mX12_feed 0 (f_X12_feed_B81 N c1 c2 c3 c4 c5 kb v6 s0 μ) 81 [(0, .ref 253), (1, .int c1), (2, .int c2), (3, .int c3), (4, .int c4), (5, .int c5), (6, .int v6)] [.int s0] μ := by
  unfold f_X12_feed_B81
  refine s_istore (pc := 81) (lv' := [(7, .int s0), (0, .ref 253), (1, .int c1), (2, .int c2), (3, .int c3), (4, .int c4), (5, .int c5), (6, .int v6)]) dX12_feed_81 (by decide) rfl ?_
  refine s_aload_n (pc := 83) 1 dX12_feed_83 rfl rfl ?_
  refine s_getR (pc := 84) (ci := 12) (k := 0) (r := 254) dX12_feed_84 fl_12_7 kd_253 rfl rs_253_0 ?_
  refine s_aload_n (pc := 87) 1 dX12_feed_87 rfl rfl ?_
  refine s_getI (pc := 88) (ci := 12) (k := 1) dX12_feed_88 fl_12_260 kd_253 rfl ?_
  refine s_iload (pc := 91) 0 dX12_feed_91 rfl ?_
  refine s_bipush (pc := 93) (v := (8 : Int32)) dX12_feed_93 (by decide) ?_
  refine s_iconst (pc := 95) (v := (3 : Int32)) dX12_feed_95 (by decide) ?_
  refine s_iload (pc := 96) 7 dX12_feed_96 rfl ?_
  refine s_iconst (pc := 98) (v := (4 : Int32)) dX12_feed_98 (by decide) ?_
  refine s_irem (pc := 99) dX12_feed_99 ?_
  refine s_isub (pc := 100) dX12_feed_100 ?_
  refine s_imul (pc := 101) dX12_feed_101 ?_
  refine s_ishr (pc := 102) dX12_feed_102 ?_
  refine s_sipush (pc := 103) (v := (255 : Int32)) dX12_feed_103 (by decide) ?_
  refine s_iand (pc := 106) dX12_feed_106 ?_
  refine s_iast (pc := 107) dX12_feed_107 kd_254 (fun μ_2 => ?_)
  refine s_aload_n (pc := 108) 1 dX12_feed_108 rfl rfl ?_
  refine s_dup (pc := 109) dX12_feed_109 rfl ?_
  refine s_getI (pc := 110) (ci := 12) (k := 1) dX12_feed_110 fl_12_260 kd_253 rfl ?_
  refine s_iconst (pc := 113) (v := (1 : Int32)) dX12_feed_113 (by decide) ?_
  refine s_iadd (pc := 114) dX12_feed_114 ?_
  refine s_putI (pc := 115) (ci := 12) (k := 1) dX12_feed_115 fl_12_260 kd_253 rfl rfl (fun μ_3 => ?_)
  refine s_iincB (pc := 118) (lv' := fun x1 => [(6, .int x1), (7, .int s0), (0, .ref 253), (1, .int c1), (2, .int c2), (3, .int c3), (4, .int c4), (5, .int c5)]) (c := 1) 7 dX12_feed_118 rfl (by decide) (by decide) (fun _ => rfl) (fun x1 => ?_)
  refine s_goto (pc := 121) (tgt := 28) dX12_feed_121 (by decide) ?_
  refine s_sub (lv' := [(0, .ref 253), (1, .int c1), (2, .int c2), (3, .int c3), (4, .int c4), (5, .int c5), (6, .int x1)]) [2, 3, 4, 5, 6, 7, 0] rfl ?_
  exact hkb x1 μ_3
def b_X12_feed_L28 (N : Nat) (c1 : Int32) (c2 : Int32) (c3 : Int32) (c4 : Int32) (c5 : Int32) (kb : Int32 → z_S → Option (Int32 × z_S)) (v6 : Int32) (μ : z_S) : Option (Int32 × z_S) :=
  if v6 < (20 : Int32) then (if v6 < (4 : Int32) then (f_X12_feed_B81 N c1 c2 c3 c4 c5 kb v6 c1 μ) else if v6 < (8 : Int32) then (f_X12_feed_B81 N c1 c2 c3 c4 c5 kb v6 c2 μ) else if v6 < (12 : Int32) then (f_X12_feed_B81 N c1 c2 c3 c4 c5 kb v6 c3 μ) else if v6 < (16 : Int32) then (f_X12_feed_B81 N c1 c2 c3 c4 c5 kb v6 c4 μ) else f_X12_feed_B81 N c1 c2 c3 c4 c5 kb v6 c5 μ) else some ((μ.1 253 1), μ)
theorem tb_X12_feed_L28 (N : Nat) (c1 : Int32) (c2 : Int32) (c3 : Int32) (c4 : Int32) (c5 : Int32) (kb : Int32 → z_S → Option (Int32 × z_S)) (hkb : ∀ (a6 : Int32) (μ : z_S), z_sim false rI mX12_feed 0 (kb a6 μ) 28 [(0, .ref 253), (1, .int c1), (2, .int c2), (3, .int c3), (4, .int c4), (5, .int c5), (6, .int a6)] [] μ) (v6 : Int32) (μ : z_S) : z_sim false rI mX12_feed 0 (b_X12_feed_L28 N c1 c2 c3 c4 c5 kb v6 μ) 28 [(0, .ref 253), (1, .int c1), (2, .int c2), (3, .int c3), (4, .int c4), (5, .int c5), (6, .int v6)] [] μ := by
  unfold b_X12_feed_L28
  refine s_iload (pc := 28) 6 dX12_feed_28 rfl ?_
  refine s_bipush (pc := 30) (v := (20 : Int32)) dX12_feed_30 (by decide) ?_
  refine s_icmp_ge (pc := 32) (tgt := 124) dX12_feed_32 (by decide) ?_ ?_
  · refine s_iload (pc := 35) 6 dX12_feed_35 rfl ?_
    refine s_iconst (pc := 37) (v := (4 : Int32)) dX12_feed_37 (by decide) ?_
    refine s_icmp_ge (pc := 38) (tgt := 45) dX12_feed_38 (by decide) ?_ ?_
    · refine s_iload_n (pc := 41) 1 dX12_feed_41 rfl rfl ?_
      refine s_goto (pc := 42) (tgt := 81) dX12_feed_42 (by decide) ?_
      exact t_X12_feed_B81 N c1 c2 c3 c4 c5 kb hkb v6 c1 μ
    · refine s_iload (pc := 45) 6 dX12_feed_45 rfl ?_
      refine s_bipush (pc := 47) (v := (8 : Int32)) dX12_feed_47 (by decide) ?_
      refine s_icmp_ge (pc := 49) (tgt := 56) dX12_feed_49 (by decide) ?_ ?_
      · refine s_iload_n (pc := 52) 2 dX12_feed_52 rfl rfl ?_
        refine s_goto (pc := 53) (tgt := 81) dX12_feed_53 (by decide) ?_
        exact t_X12_feed_B81 N c1 c2 c3 c4 c5 kb hkb v6 c2 μ
      · refine s_iload (pc := 56) 6 dX12_feed_56 rfl ?_
        refine s_bipush (pc := 58) (v := (12 : Int32)) dX12_feed_58 (by decide) ?_
        refine s_icmp_ge (pc := 60) (tgt := 67) dX12_feed_60 (by decide) ?_ ?_
        · refine s_iload_n (pc := 63) 3 dX12_feed_63 rfl rfl ?_
          refine s_goto (pc := 64) (tgt := 81) dX12_feed_64 (by decide) ?_
          exact t_X12_feed_B81 N c1 c2 c3 c4 c5 kb hkb v6 c3 μ
        · refine s_iload (pc := 67) 6 dX12_feed_67 rfl ?_
          refine s_bipush (pc := 69) (v := (16 : Int32)) dX12_feed_69 (by decide) ?_
          refine s_icmp_ge (pc := 71) (tgt := 79) dX12_feed_71 (by decide) ?_ ?_
          · refine s_iload (pc := 74) 4 dX12_feed_74 rfl ?_
            refine s_goto (pc := 76) (tgt := 81) dX12_feed_76 (by decide) ?_
            exact t_X12_feed_B81 N c1 c2 c3 c4 c5 kb hkb v6 c4 μ
          · refine s_iload (pc := 79) 5 dX12_feed_79 rfl ?_
            exact t_X12_feed_B81 N c1 c2 c3 c4 c5 kb hkb v6 c5 μ
  · refine s_aload_n (pc := 124) 0 dX12_feed_124 rfl rfl ?_
    refine s_getI (pc := 125) (ci := 12) (k := 1) dX12_feed_125 fl_12_260 kd_253 rfl ?_
    exact s_iret (pc := 128) rfl dX12_feed_128 rfl
def f_X12_feed_L28 (N : Nat) (c1 : Int32) (c2 : Int32) (c3 : Int32) (c4 : Int32) (c5 : Int32) : Nat → Int32 → z_S → Option (Int32 × z_S)
  | 0, _, _ => none
  | n + 1, v6, μ => b_X12_feed_L28 N c1 c2 c3 c4 c5 (f_X12_feed_L28 N c1 c2 c3 c4 c5 n) v6 μ
theorem t_X12_feed_L28 (N : Nat) (c1 : Int32) (c2 : Int32) (c3 : Int32) (c4 : Int32) (c5 : Int32) : ∀ (n : Nat) (v6 : Int32) (μ : z_S), z_sim false rI mX12_feed 0 (f_X12_feed_L28 N c1 c2 c3 c4 c5 n v6 μ) 28 [(0, .ref 253), (1, .int c1), (2, .int c2), (3, .int c3), (4, .int c4), (5, .int c5), (6, .int v6)] [] μ
  | 0, _, _ => s_none
  | n + 1, v6, μ => tb_X12_feed_L28 N c1 c2 c3 c4 c5 (f_X12_feed_L28 N c1 c2 c3 c4 c5 n) (t_X12_feed_L28 N c1 c2 c3 c4 c5 n) v6 μ
def f_X12_feed (N : Nat) (a1 : Int32) (a2 : Int32) (a3 : Int32) (a4 : Int32) (a5 : Int32) (μ : z_S) : Option (Int32 × z_S) :=
  if (1600 : Int32) < ((μ.1 253 1) + (20 : Int32)) then (z_bd (z_setI μ 255 0 ((μ.1 255 0) + (1 : Int32))) fun μ_1 => some ((-1 : Int32), μ_1)) else f_X12_feed_L28 N a1 a2 a3 a4 a5 N (0 : Int32) μ
theorem t_X12_feed (N : Nat) (a1 : Int32) (a2 : Int32) (a3 : Int32) (a4 : Int32) (a5 : Int32) (μ : z_S) : z_met false rI mX12_feed 0 [.ref 253, .int a1, .int a2, .int a3, .int a4, .int a5] μ (f_X12_feed N a1 a2 a3 a4 a5 μ) := by
  refine z_met.of (by decide +kernel) (by show _ ≤ _; first | decide | exact Nat.le_of_ble_eq_true rfl) (lv := [(0, .ref 253), (1, .int a1), (2, .int a2), (3, .int a3), (4, .int a4), (5, .int a5)]) rfl ?_
  unfold f_X12_feed
  refine s_aload_n (pc := 0) 0 dX12_feed_0 rfl rfl ?_
  refine s_getI (pc := 1) (ci := 12) (k := 1) dX12_feed_1 fl_12_260 kd_253 rfl ?_
  refine s_bipush (pc := 4) (v := (20 : Int32)) dX12_feed_4 (by decide) ?_
  refine s_iadd (pc := 6) dX12_feed_6 ?_
  refine s_sipush (pc := 7) (v := (1600 : Int32)) dX12_feed_7 (by decide) ?_
  refine s_icmp_le (pc := 10) (tgt := 25) dX12_feed_10 (by decide) ?_ ?_
  · refine s_aload_n (pc := 13) 0 dX12_feed_13 rfl rfl ?_
    refine s_getR (pc := 14) (ci := 12) (k := 9) (r := 255) dX12_feed_14 fl_12_17 kd_253 rfl rs_253_9 ?_
    refine s_iconst (pc := 17) (v := (0 : Int32)) dX12_feed_17 (by decide) ?_
    refine s_dup2 (pc := 18) dX12_feed_18 rfl rfl ?_
    refine s_ialdK (pc := 19) (k := 0) dX12_feed_19 kd_255 (by decide) (by decide) (by decide) ?_
    refine s_iconst (pc := 20) (v := (1 : Int32)) dX12_feed_20 (by decide) ?_
    refine s_iadd (pc := 21) dX12_feed_21 ?_
    refine s_iastK (pc := 22) (k := 0) dX12_feed_22 kd_255 (by decide) (by decide) (by decide) (fun μ_1 => ?_)
    refine s_iconst (pc := 23) (v := (-1 : Int32)) dX12_feed_23 (by decide) ?_
    exact s_iret (pc := 24) rfl dX12_feed_24 rfl
  · refine s_iconst (pc := 25) (v := (0 : Int32)) dX12_feed_25 (by decide) ?_
    refine s_istore (pc := 26) (lv' := [(6, .int (0 : Int32)), (0, .ref 253), (1, .int a1), (2, .int a2), (3, .int a3), (4, .int a4), (5, .int a5)]) dX12_feed_26 (by decide) rfl ?_
    refine s_sub (lv' := [(0, .ref 253), (1, .int a1), (2, .int a2), (3, .int a3), (4, .int a4), (5, .int a5), (6, .int (0 : Int32))]) [1, 2, 3, 4, 5, 6, 0] rfl ?_
    refine t_X12_feed_L28 N a1 a2 a3 a4 a5 N (0 : Int32) μ
def f_X12_end_B12 (N : Nat)   (μ : z_S) : Option (Int32 × z_S) :=
  z_bd (z_setI μ 255 0 ((μ.1 255 0) + (1 : Int32))) fun μ_1 => some ((0 : Int32), μ_1)
theorem t_X12_end_B12 (N : Nat)       (μ : z_S) : z_sim false rI mX12_end 0 (f_X12_end_B12 N    μ) 12 [(0, .ref 253)] [] μ := by
  unfold f_X12_end_B12
  refine s_aload_n (pc := 12) 0 dX12_end_12 rfl rfl ?_
  refine s_getR (pc := 13) (ci := 12) (k := 9) (r := 255) dX12_end_13 fl_12_17 kd_253 rfl rs_253_9 ?_
  refine s_iconst (pc := 16) (v := (0 : Int32)) dX12_end_16 (by decide) ?_
  refine s_dup2 (pc := 17) dX12_end_17 rfl rfl ?_
  refine s_ialdK (pc := 18) (k := 0) dX12_end_18 kd_255 (by decide) (by decide) (by decide) ?_
  refine s_iconst (pc := 19) (v := (1 : Int32)) dX12_end_19 (by decide) ?_
  refine s_iadd (pc := 20) dX12_end_20 ?_
  refine s_iastK (pc := 21) (k := 0) dX12_end_21 kd_255 (by decide) (by decide) (by decide) (fun μ_1 => ?_)
  refine s_iconst (pc := 22) (v := (0 : Int32)) dX12_end_22 (by decide) ?_
  exact s_zret0 (pc := 23) dX12_end_23 rfl rfl
def f_X12_end (N : Nat) (a1 : Int32) (μ : z_S) : Option (Int32 × z_S) :=
  if a1 < 0 then (f_X12_end_B12 N μ) else if (μ.1 253 1) < a1 then (f_X12_end_B12 N μ) else z_bd (z_setI μ 253 1 a1) fun μ_2 => some ((1 : Int32), μ_2)
theorem t_X12_end (N : Nat) (a1 : Int32) (μ : z_S) : z_met false rI mX12_end 0 [.ref 253, .int a1] μ (f_X12_end N a1 μ) := by
  refine z_met.of (by decide +kernel) (by show _ ≤ _; first | decide | exact Nat.le_of_ble_eq_true rfl) (lv := [(0, .ref 253), (1, .int a1)]) rfl ?_
  unfold f_X12_end
  refine s_iload_n (pc := 0) 1 dX12_end_0 rfl rfl ?_
  refine s_if_lt (pc := 1) (tgt := 12) dX12_end_1 (by decide) ?_ ?_
  · refine s_sub (lv' := [(0, .ref 253)]) [0] rfl ?_
    exact t_X12_end_B12 N μ
  · refine s_iload_n (pc := 4) 1 dX12_end_4 rfl rfl ?_
    refine s_aload_n (pc := 5) 0 dX12_end_5 rfl rfl ?_
    refine s_getI (pc := 6) (ci := 12) (k := 1) dX12_end_6 fl_12_260 kd_253 rfl ?_
    refine s_icmp_le (pc := 9) (tgt := 24) dX12_end_9 (by decide) ?_ ?_
    · refine s_sub (lv' := [(0, .ref 253)]) [0] rfl ?_
      exact t_X12_end_B12 N μ
    · refine s_aload_n (pc := 24) 0 dX12_end_24 rfl rfl ?_
      refine s_iload_n (pc := 25) 1 dX12_end_25 rfl rfl ?_
      refine s_putI (pc := 26) (ci := 12) (k := 1) dX12_end_26 fl_12_260 kd_253 rfl rfl (fun μ_2 => ?_)
      refine s_iconst (pc := 29) (v := (1 : Int32)) dX12_end_29 (by decide) ?_
      exact s_zret0 (pc := 30) dX12_end_30 rfl rfl
def f_X12_fail (N : Nat) (a1 : Int32) (a2 : Int32) (μ : z_S) : Option (Unit × z_S) :=
  if (μ.1 253 5) = 0 then (z_bd (z_setI μ 253 5 a1) fun μ_1 => z_bd (z_setI μ_1 253 6 a2) fun μ_2 => some ((), μ_2)) else some ((), μ)
theorem t_X12_fail (N : Nat) (a1 : Int32) (a2 : Int32) (μ : z_S) : z_met false rV mX12_fail 0 [.ref 253, .int a1, .int a2] μ (f_X12_fail N a1 a2 μ) := by
  refine z_met.of (by decide +kernel) (by show _ ≤ _; first | decide | exact Nat.le_of_ble_eq_true rfl) (lv := [(0, .ref 253), (1, .int a1), (2, .int a2)]) rfl ?_
  unfold f_X12_fail
  refine s_aload_n (pc := 0) 0 dX12_fail_0 rfl rfl ?_
  refine s_getI (pc := 1) (ci := 12) (k := 5) dX12_fail_1 fl_12_263 kd_253 rfl ?_
  refine s_if_eq (pc := 4) (tgt := 8) dX12_fail_4 (by decide) ?_ ?_
  · refine s_aload_n (pc := 8) 0 dX12_fail_8 rfl rfl ?_
    refine s_iload_n (pc := 9) 1 dX12_fail_9 rfl rfl ?_
    refine s_putI (pc := 10) (ci := 12) (k := 5) dX12_fail_10 fl_12_263 kd_253 rfl rfl (fun μ_1 => ?_)
    refine s_aload_n (pc := 13) 0 dX12_fail_13 rfl rfl ?_
    refine s_iload_n (pc := 14) 2 dX12_fail_14 rfl rfl ?_
    refine s_putI (pc := 15) (ci := 12) (k := 6) dX12_fail_15 fl_12_266 kd_253 rfl rfl (fun μ_2 => ?_)
    exact s_vret (pc := 18) dX12_fail_18 rfl
  · exact s_vret (pc := 7) dX12_fail_7 rfl
def f_X12_isLetter (N : Nat) (a0 : Int32) (μ : z_S) : Option (Int32 × z_S) :=
  if a0 < (97 : Int32) then (some ((0 : Int32), μ)) else if (122 : Int32) < a0 then (some ((0 : Int32), μ)) else some ((1 : Int32), μ)
theorem t_X12_isLetter (N : Nat) (a0 : Int32) (μ : z_S) : z_met false rI mX12_isLetter 0 [.int a0] μ (f_X12_isLetter N a0 μ) := by
  refine z_met.of (by decide +kernel) (by show _ ≤ _; first | decide | exact Nat.le_of_ble_eq_true rfl) (lv := [(0, .int a0)]) rfl ?_
  unfold f_X12_isLetter
  refine s_iload_n (pc := 0) 0 dX12_isLetter_0 rfl rfl ?_
  refine s_bipush (pc := 1) (v := (97 : Int32)) dX12_isLetter_1 (by decide) ?_
  refine s_icmp_lt (pc := 3) (tgt := 16) dX12_isLetter_3 (by decide) ?_ ?_
  · refine s_iconst (pc := 16) (v := (0 : Int32)) dX12_isLetter_16 (by decide) ?_
    exact s_zret0 (pc := 17) dX12_isLetter_17 rfl rfl
  · refine s_iload_n (pc := 6) 0 dX12_isLetter_6 rfl rfl ?_
    refine s_bipush (pc := 7) (v := (122 : Int32)) dX12_isLetter_7 (by decide) ?_
    refine s_icmp_gt (pc := 9) (tgt := 16) dX12_isLetter_9 (by decide) ?_ ?_
    · refine s_iconst (pc := 16) (v := (0 : Int32)) dX12_isLetter_16 (by decide) ?_
      exact s_zret0 (pc := 17) dX12_isLetter_17 rfl rfl
    · refine s_iconst (pc := 12) (v := (1 : Int32)) dX12_isLetter_12 (by decide) ?_
      refine s_goto (pc := 13) (tgt := 17) dX12_isLetter_13 (by decide) ?_
      exact s_zret0 (pc := 17) dX12_isLetter_17 rfl rfl
def f_X12_isDigit (N : Nat) (a0 : Int32) (μ : z_S) : Option (Int32 × z_S) :=
  if a0 < (48 : Int32) then (some ((0 : Int32), μ)) else if (57 : Int32) < a0 then (some ((0 : Int32), μ)) else some ((1 : Int32), μ)
theorem t_X12_isDigit (N : Nat) (a0 : Int32) (μ : z_S) : z_met false rI mX12_isDigit 0 [.int a0] μ (f_X12_isDigit N a0 μ) := by
  refine z_met.of (by decide +kernel) (by show _ ≤ _; first | decide | exact Nat.le_of_ble_eq_true rfl) (lv := [(0, .int a0)]) rfl ?_
  unfold f_X12_isDigit
  refine s_iload_n (pc := 0) 0 dX12_isDigit_0 rfl rfl ?_
  refine s_bipush (pc := 1) (v := (48 : Int32)) dX12_isDigit_1 (by decide) ?_
  refine s_icmp_lt (pc := 3) (tgt := 16) dX12_isDigit_3 (by decide) ?_ ?_
  · refine s_iconst (pc := 16) (v := (0 : Int32)) dX12_isDigit_16 (by decide) ?_
    exact s_zret0 (pc := 17) dX12_isDigit_17 rfl rfl
  · refine s_iload_n (pc := 6) 0 dX12_isDigit_6 rfl rfl ?_
    refine s_bipush (pc := 7) (v := (57 : Int32)) dX12_isDigit_7 (by decide) ?_
    refine s_icmp_gt (pc := 9) (tgt := 16) dX12_isDigit_9 (by decide) ?_ ?_
    · refine s_iconst (pc := 16) (v := (0 : Int32)) dX12_isDigit_16 (by decide) ?_
      exact s_zret0 (pc := 17) dX12_isDigit_17 rfl rfl
    · refine s_iconst (pc := 12) (v := (1 : Int32)) dX12_isDigit_12 (by decide) ?_
      refine s_goto (pc := 13) (tgt := 17) dX12_isDigit_13 (by decide) ?_
      exact s_zret0 (pc := 17) dX12_isDigit_17 rfl rfl
def f_X12_look_B39 (N : Nat) (kb : z_S → Option (Int32 × z_S)) (e52 : z_S → Option (Int32 × z_S)) (μ : z_S) : Option (Int32 × z_S) :=
  z_bd (z_setI μ 253 2 ((μ.1 253 2) + (1 : Int32))) fun μ_1 => kb μ_1
theorem t_X12_look_B39 (N : Nat)   (kb : z_S → Option (Int32 × z_S)) (e52 : z_S → Option (Int32 × z_S)) (hkb : ∀  (μ : z_S), z_sim false rI mX12_look 0 (kb μ) 0 [(0, .ref 253)] [] μ) (he52 : ∀  (μ : z_S), z_sim false rI mX12_look 0 (e52 μ) 52 [(0, .ref 253)] [] μ)   (μ : z_S) : z_sim false rI mX12_look 0 (f_X12_look_B39 N  kb e52  μ) 39 [(0, .ref 253)] [] μ := by
  unfold f_X12_look_B39
  refine s_aload_n (pc := 39) 0 dX12_look_39 rfl rfl ?_
  refine s_dup (pc := 40) dX12_look_40 rfl ?_
  refine s_getI (pc := 41) (ci := 12) (k := 2) dX12_look_41 fl_12_269 kd_253 rfl ?_
  refine s_iconst (pc := 44) (v := (1 : Int32)) dX12_look_44 (by decide) ?_
  refine s_iadd (pc := 45) dX12_look_45 ?_
  refine s_putI (pc := 46) (ci := 12) (k := 2) dX12_look_46 fl_12_269 kd_253 rfl rfl (fun μ_1 => ?_)
  refine s_goto (pc := 49) (tgt := 0) dX12_look_49 (by decide) ?_
  exact hkb μ_1
def b_X12_look_L0 (N : Nat) (kb : z_S → Option (Int32 × z_S)) (e52 : z_S → Option (Int32 × z_S)) (μ : z_S) : Option (Int32 × z_S) :=
  if (μ.1 253 2) < (μ.1 253 3) then (z_in (μ.1 253 2) 1600 <| if (μ.1 254 (μ.1 253 2).toNatClampNeg) = (10 : Int32) then (f_X12_look_B39 N kb e52 μ) else z_in (μ.1 253 2) 1600 <| if (μ.1 254 (μ.1 253 2).toNatClampNeg) = (32 : Int32) then (f_X12_look_B39 N kb e52 μ) else e52 μ) else e52 μ
theorem tb_X12_look_L0 (N : Nat) (kb : z_S → Option (Int32 × z_S)) (e52 : z_S → Option (Int32 × z_S)) (hkb : ∀ (μ : z_S), z_sim false rI mX12_look 0 (kb μ) 0 [(0, .ref 253)] [] μ) (he52 : ∀ (μ : z_S), z_sim false rI mX12_look 0 (e52 μ) 52 [(0, .ref 253)] [] μ) (μ : z_S) : z_sim false rI mX12_look 0 (b_X12_look_L0 N kb e52 μ) 0 [(0, .ref 253)] [] μ := by
  unfold b_X12_look_L0
  refine s_aload_n (pc := 0) 0 dX12_look_0 rfl rfl ?_
  refine s_getI (pc := 1) (ci := 12) (k := 2) dX12_look_1 fl_12_269 kd_253 rfl ?_
  refine s_aload_n (pc := 4) 0 dX12_look_4 rfl rfl ?_
  refine s_getI (pc := 5) (ci := 12) (k := 3) dX12_look_5 fl_12_272 kd_253 rfl ?_
  refine s_icmp_ge (pc := 8) (tgt := 52) dX12_look_8 (by decide) ?_ ?_
  · refine s_aload_n (pc := 11) 0 dX12_look_11 rfl rfl ?_
    refine s_getR (pc := 12) (ci := 12) (k := 0) (r := 254) dX12_look_12 fl_12_7 kd_253 rfl rs_253_0 ?_
    refine s_aload_n (pc := 15) 0 dX12_look_15 rfl rfl ?_
    refine s_getI (pc := 16) (ci := 12) (k := 2) dX12_look_16 fl_12_269 kd_253 rfl ?_
    refine s_iald (pc := 19) dX12_look_19 kd_254 ?_
    refine s_bipush (pc := 20) (v := (10 : Int32)) dX12_look_20 (by decide) ?_
    refine s_icmp_eq (pc := 22) (tgt := 39) dX12_look_22 (by decide) ?_ ?_
    · exact t_X12_look_B39 N kb e52 hkb he52 μ
    · refine s_aload_n (pc := 25) 0 dX12_look_25 rfl rfl ?_
      refine s_getR (pc := 26) (ci := 12) (k := 0) (r := 254) dX12_look_26 fl_12_7 kd_253 rfl rs_253_0 ?_
      refine s_aload_n (pc := 29) 0 dX12_look_29 rfl rfl ?_
      refine s_getI (pc := 30) (ci := 12) (k := 2) dX12_look_30 fl_12_269 kd_253 rfl ?_
      refine s_iald (pc := 33) dX12_look_33 kd_254 ?_
      refine s_bipush (pc := 34) (v := (32 : Int32)) dX12_look_34 (by decide) ?_
      refine s_icmp_ne (pc := 36) (tgt := 52) dX12_look_36 (by decide) ?_ ?_
      · exact t_X12_look_B39 N kb e52 hkb he52 μ
      · exact he52 μ
  · exact he52 μ
def f_X12_look_L0 (N : Nat) (e52 : z_S → Option (Int32 × z_S)) : Nat → z_S → Option (Int32 × z_S)
  | 0, _ => none
  | n + 1, μ => b_X12_look_L0 N (f_X12_look_L0 N e52 n) e52 μ
theorem t_X12_look_L0 (N : Nat) (e52 : z_S → Option (Int32 × z_S)) (he52 : ∀ (μ : z_S), z_sim false rI mX12_look 0 (e52 μ) 52 [(0, .ref 253)] [] μ) : ∀ (n : Nat) (μ : z_S), z_sim false rI mX12_look 0 (f_X12_look_L0 N e52 n μ) 0 [(0, .ref 253)] [] μ
  | 0, _ => s_none
  | n + 1, μ => tb_X12_look_L0 N (f_X12_look_L0 N e52 n) e52 (t_X12_look_L0 N e52 he52 n) he52 μ
def f_X12_look_B52 (N : Nat)   (μ : z_S) : Option (Int32 × z_S) :=
  if (μ.1 253 2) < (μ.1 253 3) then (z_in (μ.1 253 2) 1600 <| some ((μ.1 254 (μ.1 253 2).toNatClampNeg), μ)) else some ((-1 : Int32), μ)
theorem t_X12_look_B52 (N : Nat)       (μ : z_S) : z_sim false rI mX12_look 0 (f_X12_look_B52 N    μ) 52 [(0, .ref 253)] [] μ := by
  unfold f_X12_look_B52
  refine s_aload_n (pc := 52) 0 dX12_look_52 rfl rfl ?_
  refine s_getI (pc := 53) (ci := 12) (k := 2) dX12_look_53 fl_12_269 kd_253 rfl ?_
  refine s_aload_n (pc := 56) 0 dX12_look_56 rfl rfl ?_
  refine s_getI (pc := 57) (ci := 12) (k := 3) dX12_look_57 fl_12_272 kd_253 rfl ?_
  refine s_icmp_ge (pc := 60) (tgt := 75) dX12_look_60 (by decide) ?_ ?_
  · refine s_aload_n (pc := 63) 0 dX12_look_63 rfl rfl ?_
    refine s_getR (pc := 64) (ci := 12) (k := 0) (r := 254) dX12_look_64 fl_12_7 kd_253 rfl rs_253_0 ?_
    refine s_aload_n (pc := 67) 0 dX12_look_67 rfl rfl ?_
    refine s_getI (pc := 68) (ci := 12) (k := 2) dX12_look_68 fl_12_269 kd_253 rfl ?_
    refine s_iald (pc := 71) dX12_look_71 kd_254 ?_
    refine s_goto (pc := 72) (tgt := 76) dX12_look_72 (by decide) ?_
    exact s_iret (pc := 76) rfl dX12_look_76 rfl
  · refine s_iconst (pc := 75) (v := (-1 : Int32)) dX12_look_75 (by decide) ?_
    exact s_iret (pc := 76) rfl dX12_look_76 rfl
def f_X12_look (N : Nat) (μ : z_S) : Option (Int32 × z_S) :=
  f_X12_look_L0 N (fun μ52 => f_X12_look_B52 N μ52) N μ
theorem t_X12_look (N : Nat) (μ : z_S) : z_met false rI mX12_look 0 [.ref 253] μ (f_X12_look N μ) := by
  refine z_met.of (by decide +kernel) (by show _ ≤ _; first | decide | exact Nat.le_of_ble_eq_true rfl) (lv := [(0, .ref 253)]) rfl ?_
  unfold f_X12_look
  refine t_X12_look_L0 N _ ?_ N μ
  · intro μ52
    exact t_X12_look_B52 N μ52
def b_X12_isHere_L35 (N : Nat) (o1 : Nat) (kb : Int32 → z_S → Option (Int32 × z_S)) (e61 : Int32 → z_S → Option (Int32 × z_S)) (v2 : Int32) (μ : z_S) : Option (Int32 × z_S) :=
  if v2 < (μ.1 253 3) then (z_in v2 1600 <| z_bn (f_X12_isLetter N (μ.1 254 v2.toNatClampNeg) μ) fun x4 μ_3 => if x4 = 0 then (e61 v2 μ_3) else z_bd (v2 + 1) fun x5 => kb x5 μ_3) else e61 v2 μ
theorem tb_X12_isHere_L35 (N : Nat) (o1 : Nat) (hk1 : z_kw false o1 = (22, (z_kw false o1).2)) (kb : Int32 → z_S → Option (Int32 × z_S)) (e61 : Int32 → z_S → Option (Int32 × z_S)) (hkb : ∀ (a2 : Int32) (μ : z_S), z_sim false rI mX12_isHere 1 (kb a2 μ) 35 [(0, .ref 253), (1, .ref o1), (2, .int a2)] [] μ) (he61 : ∀ (a2 : Int32) (μ : z_S), z_sim false rI mX12_isHere 1 (e61 a2 μ) 61 [(0, .ref 253), (1, .ref o1), (2, .int a2)] [] μ) (v2 : Int32) (μ : z_S) : z_sim false rI mX12_isHere 1 (b_X12_isHere_L35 N o1 kb e61 v2 μ) 35 [(0, .ref 253), (1, .ref o1), (2, .int v2)] [] μ := by
  unfold b_X12_isHere_L35
  refine s_iload_n (pc := 35) 2 dX12_isHere_35 rfl rfl ?_
  refine s_aload_n (pc := 36) 0 dX12_isHere_36 rfl rfl ?_
  refine s_getI (pc := 37) (ci := 12) (k := 3) dX12_isHere_37 fl_12_272 kd_253 rfl ?_
  refine s_icmp_ge (pc := 40) (tgt := 61) dX12_isHere_40 (by decide) ?_ ?_
  · refine s_aload_n (pc := 43) 0 dX12_isHere_43 rfl rfl ?_
    refine s_getR (pc := 44) (ci := 12) (k := 0) (r := 254) dX12_isHere_44 fl_12_7 kd_253 rfl rs_253_0 ?_
    refine s_iload_n (pc := 47) 2 dX12_isHere_47 rfl rfl ?_
    refine s_iald (pc := 48) dX12_isHere_48 kd_254 ?_
    refine s_callSI (pc := 49) (as := [.int (μ.1 254 v2.toNatClampNeg)]) (st := []) dX12_isHere_49 lk_12_279 (t_X12_isLetter N (μ.1 254 v2.toNatClampNeg) μ) (by omega) rfl (by decide) rfl (fun x4 μ_3 => ?_)
    refine s_if_eq (pc := 52) (tgt := 61) dX12_isHere_52 (by decide) ?_ ?_
    · exact he61 v2 μ_3
    · refine s_iincB (pc := 55) (lv' := fun x5 => [(2, .int x5), (0, .ref 253), (1, .ref o1)]) (c := 1) 2 dX12_isHere_55 rfl (by decide) (by decide) (fun _ => rfl) (fun x5 => ?_)
      refine s_goto (pc := 58) (tgt := 35) dX12_isHere_58 (by decide) ?_
      refine s_sub (lv' := [(0, .ref 253), (1, .ref o1), (2, .int x5)]) [1, 2, 0] rfl ?_
      exact hkb x5 μ_3
  · exact he61 v2 μ
def f_X12_isHere_L35 (N : Nat) (o1 : Nat) (e61 : Int32 → z_S → Option (Int32 × z_S)) : Nat → Int32 → z_S → Option (Int32 × z_S)
  | 0, _, _ => none
  | n + 1, v2, μ => b_X12_isHere_L35 N o1 (f_X12_isHere_L35 N o1 e61 n) e61 v2 μ
theorem t_X12_isHere_L35 (N : Nat) (o1 : Nat) (hk1 : z_kw false o1 = (22, (z_kw false o1).2)) (e61 : Int32 → z_S → Option (Int32 × z_S)) (he61 : ∀ (a2 : Int32) (μ : z_S), z_sim false rI mX12_isHere 1 (e61 a2 μ) 61 [(0, .ref 253), (1, .ref o1), (2, .int a2)] [] μ) : ∀ (n : Nat) (v2 : Int32) (μ : z_S), z_sim false rI mX12_isHere 1 (f_X12_isHere_L35 N o1 e61 n v2 μ) 35 [(0, .ref 253), (1, .ref o1), (2, .int v2)] [] μ
  | 0, _, _ => s_none
  | n + 1, v2, μ => tb_X12_isHere_L35 N o1 hk1 (f_X12_isHere_L35 N o1 e61 n) e61 (t_X12_isHere_L35 N o1 hk1 e61 he61 n) he61 v2 μ
def b_X12_isHere_L76 (N : Nat) (o1 : Nat) (kb : Int32 → z_S → Option (Int32 × z_S)) (v3 : Int32) (μ : z_S) : Option (Int32 × z_S) :=
  if v3 < (Int32.ofNat (z_kw false o1).2) then (z_in ((μ.1 253 2) + v3) 1600 <| z_in v3 (z_kw false o1).2 <| if (μ.1 254 ((μ.1 253 2) + v3).toNatClampNeg) = (μ.1 o1 v3.toNatClampNeg) then (z_bd (v3 + 1) fun x6 => kb x6 μ) else some ((0 : Int32), μ)) else some ((1 : Int32), μ)
theorem tb_X12_isHere_L76 (N : Nat) (o1 : Nat) (hk1 : z_kw false o1 = (22, (z_kw false o1).2)) (kb : Int32 → z_S → Option (Int32 × z_S)) (hkb : ∀ (a3 : Int32) (μ : z_S), z_sim false rI mX12_isHere 1 (kb a3 μ) 76 [(0, .ref 253), (1, .ref o1), (3, .int a3)] [] μ) (v3 : Int32) (μ : z_S) : z_sim false rI mX12_isHere 1 (b_X12_isHere_L76 N o1 kb v3 μ) 76 [(0, .ref 253), (1, .ref o1), (3, .int v3)] [] μ := by
  unfold b_X12_isHere_L76
  refine s_iload_n (pc := 76) 2 dX12_isHere_76 rfl rfl ?_
  refine s_aload_n (pc := 77) 1 dX12_isHere_77 rfl rfl ?_
  refine s_alen (pc := 78) dX12_isHere_78 hk1 (by decide) (by decide) rfl ?_
  refine s_icmp_ge (pc := 79) (tgt := 107) dX12_isHere_79 (by decide) ?_ ?_
  · refine s_aload_n (pc := 82) 0 dX12_isHere_82 rfl rfl ?_
    refine s_getR (pc := 83) (ci := 12) (k := 0) (r := 254) dX12_isHere_83 fl_12_7 kd_253 rfl rs_253_0 ?_
    refine s_aload_n (pc := 86) 0 dX12_isHere_86 rfl rfl ?_
    refine s_getI (pc := 87) (ci := 12) (k := 2) dX12_isHere_87 fl_12_269 kd_253 rfl ?_
    refine s_iload_n (pc := 90) 2 dX12_isHere_90 rfl rfl ?_
    refine s_iadd (pc := 91) dX12_isHere_91 ?_
    refine s_iald (pc := 92) dX12_isHere_92 kd_254 ?_
    refine s_aload_n (pc := 93) 1 dX12_isHere_93 rfl rfl ?_
    refine s_iload_n (pc := 94) 2 dX12_isHere_94 rfl rfl ?_
    refine s_cald (pc := 95) dX12_isHere_95 hk1 ?_
    refine s_icmp_eq (pc := 96) (tgt := 101) dX12_isHere_96 (by decide) ?_ ?_
    · refine s_iincB (pc := 101) (lv' := fun x6 => [(3, .int x6), (0, .ref 253), (1, .ref o1)]) (c := 1) 2 dX12_isHere_101 rfl (by decide) (by decide) (fun _ => rfl) (fun x6 => ?_)
      refine s_goto (pc := 104) (tgt := 76) dX12_isHere_104 (by decide) ?_
      refine s_sub (lv' := [(0, .ref 253), (1, .ref o1), (3, .int x6)]) [1, 2, 0] rfl ?_
      exact hkb x6 μ
    · refine s_iconst (pc := 99) (v := (0 : Int32)) dX12_isHere_99 (by decide) ?_
      exact s_zret0 (pc := 100) dX12_isHere_100 rfl rfl
  · refine s_iconst (pc := 107) (v := (1 : Int32)) dX12_isHere_107 (by decide) ?_
    exact s_zret0 (pc := 108) dX12_isHere_108 rfl rfl
def f_X12_isHere_L76 (N : Nat) (o1 : Nat) : Nat → Int32 → z_S → Option (Int32 × z_S)
  | 0, _, _ => none
  | n + 1, v3, μ => b_X12_isHere_L76 N o1 (f_X12_isHere_L76 N o1 n) v3 μ
theorem t_X12_isHere_L76 (N : Nat) (o1 : Nat) (hk1 : z_kw false o1 = (22, (z_kw false o1).2)) : ∀ (n : Nat) (v3 : Int32) (μ : z_S), z_sim false rI mX12_isHere 1 (f_X12_isHere_L76 N o1 n v3 μ) 76 [(0, .ref 253), (1, .ref o1), (3, .int v3)] [] μ
  | 0, _, _ => s_none
  | n + 1, v3, μ => tb_X12_isHere_L76 N o1 hk1 (f_X12_isHere_L76 N o1 n) (t_X12_isHere_L76 N o1 hk1 n) v3 μ
def f_X12_isHere_B61 (N : Nat) (o1 : Nat) (v2 : Int32) (μ : z_S) : Option (Int32 × z_S) :=
  if (v2 - (μ.1 253 2)) = (Int32.ofNat (z_kw false o1).2) then (f_X12_isHere_L76 N o1 N (0 : Int32) μ) else some ((0 : Int32), μ)
theorem t_X12_isHere_B61 (N : Nat) (o1 : Nat) (hk1 : z_kw false o1 = (22, (z_kw false o1).2))   (v2 : Int32)  (μ : z_S) : z_sim false rI mX12_isHere 1 (f_X12_isHere_B61 N o1  v2 μ) 61 [(0, .ref 253), (1, .ref o1), (2, .int v2)] [] μ := by
  unfold f_X12_isHere_B61
  refine s_iload_n (pc := 61) 2 dX12_isHere_61 rfl rfl ?_
  refine s_aload_n (pc := 62) 0 dX12_isHere_62 rfl rfl ?_
  refine s_getI (pc := 63) (ci := 12) (k := 2) dX12_isHere_63 fl_12_269 kd_253 rfl ?_
  refine s_isub (pc := 66) dX12_isHere_66 ?_
  refine s_aload_n (pc := 67) 1 dX12_isHere_67 rfl rfl ?_
  refine s_alen (pc := 68) dX12_isHere_68 hk1 (by decide) (by decide) rfl ?_
  refine s_icmp_eq (pc := 69) (tgt := 74) dX12_isHere_69 (by decide) ?_ ?_
  · refine s_iconst (pc := 74) (v := (0 : Int32)) dX12_isHere_74 (by decide) ?_
    refine s_istore_n (pc := 75) (lv' := [(3, .int (0 : Int32)), (0, .ref 253), (1, .ref o1), (2, .int v2)]) dX12_isHere_75 rfl (by decide) rfl ?_
    refine s_sub (lv' := [(0, .ref 253), (1, .ref o1), (3, .int (0 : Int32))]) [1, 2, 0] rfl ?_
    refine t_X12_isHere_L76 N o1 hk1 N (0 : Int32) μ
  · refine s_iconst (pc := 72) (v := (0 : Int32)) dX12_isHere_72 (by decide) ?_
    exact s_zret0 (pc := 73) dX12_isHere_73 rfl rfl
def f_X12_isHere (N : Nat) (o1 : Nat) (μ : z_S) : Option (Int32 × z_S) :=
  z_kd false o1 22 <| if (μ.1 253 5) = 0 then (z_bn (f_X12_look N μ) fun x1 μ_1 => z_bn (f_X12_isLetter N x1 μ_1) fun x2 μ_2 => if x2 = 0 then (some ((0 : Int32), μ_2)) else if (μ_2.1 253 2) = (μ_2.1 253 4) then (some ((0 : Int32), μ_2)) else z_bd (μ_2.1 253 2) fun x3 => f_X12_isHere_L35 N o1 (fun y61_2 μ61 => f_X12_isHere_B61 N o1 y61_2 μ61) N x3 μ_2) else some ((0 : Int32), μ)
theorem t_X12_isHere (N : Nat) (o1 : Nat) (μ : z_S) : z_met false rI mX12_isHere 1 [.ref 253, .ref o1] μ (f_X12_isHere N o1 μ) := by
  refine z_met.of (by decide +kernel) (by show _ ≤ _; first | decide | exact Nat.le_of_ble_eq_true rfl) (lv := [(0, .ref 253), (1, .ref o1)]) rfl ?_
  unfold f_X12_isHere
  refine s_kd (fun hk1 => ?_)
  refine s_aload_n (pc := 0) 0 dX12_isHere_0 rfl rfl ?_
  refine s_getI (pc := 1) (ci := 12) (k := 5) dX12_isHere_1 fl_12_263 kd_253 rfl ?_
  refine s_if_ne (pc := 4) (tgt := 28) dX12_isHere_4 (by decide) ?_ ?_
  · refine s_aload_n (pc := 7) 0 dX12_isHere_7 rfl rfl ?_
    refine s_callVI (pc := 8) (as := []) (st := []) dX12_isHere_8 lk_12_275 kd_253 (t_X12_look N μ) (by omega) rfl (by decide) rfl (fun x1 μ_1 => ?_)
    refine s_callSI (pc := 11) (as := [.int x1]) (st := []) dX12_isHere_11 lk_12_279 (t_X12_isLetter N x1 μ_1) (by omega) rfl (by decide) rfl (fun x2 μ_2 => ?_)
    refine s_if_eq (pc := 14) (tgt := 28) dX12_isHere_14 (by decide) ?_ ?_
    · refine s_iconst (pc := 28) (v := (0 : Int32)) dX12_isHere_28 (by decide) ?_
      exact s_zret0 (pc := 29) dX12_isHere_29 rfl rfl
    · refine s_aload_n (pc := 17) 0 dX12_isHere_17 rfl rfl ?_
      refine s_getI (pc := 18) (ci := 12) (k := 2) dX12_isHere_18 fl_12_269 kd_253 rfl ?_
      refine s_aload_n (pc := 21) 0 dX12_isHere_21 rfl rfl ?_
      refine s_getI (pc := 22) (ci := 12) (k := 4) dX12_isHere_22 fl_12_283 kd_253 rfl ?_
      refine s_icmp_ne (pc := 25) (tgt := 30) dX12_isHere_25 (by decide) ?_ ?_
      · refine s_iconst (pc := 28) (v := (0 : Int32)) dX12_isHere_28 (by decide) ?_
        exact s_zret0 (pc := 29) dX12_isHere_29 rfl rfl
      · refine s_aload_n (pc := 30) 0 dX12_isHere_30 rfl rfl ?_
        refine s_getI (pc := 31) (ci := 12) (k := 2) dX12_isHere_31 fl_12_269 kd_253 rfl ?_
        refine s_letI (fun x3 => ?_)
        refine s_istore_n (pc := 34) (lv' := [(2, .int x3), (0, .ref 253), (1, .ref o1)]) dX12_isHere_34 rfl (by decide) rfl ?_
        refine s_sub (lv' := [(0, .ref 253), (1, .ref o1), (2, .int x3)]) [1, 2, 0] rfl ?_
        refine t_X12_isHere_L35 N o1 hk1 _ ?_ N x3 μ_2
        · intro y61_2 μ61
          exact t_X12_isHere_B61 N o1 hk1 y61_2 μ61
  · refine s_iconst (pc := 28) (v := (0 : Int32)) dX12_isHere_28 (by decide) ?_
    exact s_zret0 (pc := 29) dX12_isHere_29 rfl rfl
def f_X12_eats (N : Nat) (o1 : Nat) (μ : z_S) : Option (Int32 × z_S) :=
  z_kd false o1 22 <| z_bn (f_X12_isHere N o1 μ) fun x1 μ_1 => if x1 = 0 then (some ((0 : Int32), μ_1)) else z_bd (z_setI μ_1 253 2 ((μ_1.1 253 2) + (Int32.ofNat (z_kw false o1).2))) fun μ_2 => z_bd (z_setI μ_2 253 4 (μ_2.1 253 2)) fun μ_3 => some ((1 : Int32), μ_3)
theorem t_X12_eats (N : Nat) (o1 : Nat) (μ : z_S) : z_met false rI mX12_eats 2 [.ref 253, .ref o1] μ (f_X12_eats N o1 μ) := by
  refine z_met.of (by decide +kernel) (by show _ ≤ _; first | decide | exact Nat.le_of_ble_eq_true rfl) (lv := [(0, .ref 253), (1, .ref o1)]) rfl ?_
  unfold f_X12_eats
  refine s_kd (fun hk1 => ?_)
  refine s_aload_n (pc := 0) 0 dX12_eats_0 rfl rfl ?_
  refine s_aload_n (pc := 1) 1 dX12_eats_1 rfl rfl ?_
  refine s_callVI (pc := 2) (as := [.ref o1]) (st := []) dX12_eats_2 lk_12_286 kd_253 (t_X12_isHere N o1 μ) (by omega) rfl (by decide) rfl (fun x1 μ_1 => ?_)
  refine s_if_ne (pc := 5) (tgt := 10) dX12_eats_5 (by decide) ?_ ?_
  · refine s_iconst (pc := 8) (v := (0 : Int32)) dX12_eats_8 (by decide) ?_
    exact s_zret0 (pc := 9) dX12_eats_9 rfl rfl
  · refine s_aload_n (pc := 10) 0 dX12_eats_10 rfl rfl ?_
    refine s_dup (pc := 11) dX12_eats_11 rfl ?_
    refine s_getI (pc := 12) (ci := 12) (k := 2) dX12_eats_12 fl_12_269 kd_253 rfl ?_
    refine s_aload_n (pc := 15) 1 dX12_eats_15 rfl rfl ?_
    refine s_alen (pc := 16) dX12_eats_16 hk1 (by decide) (by decide) rfl ?_
    refine s_iadd (pc := 17) dX12_eats_17 ?_
    refine s_putI (pc := 18) (ci := 12) (k := 2) dX12_eats_18 fl_12_269 kd_253 rfl rfl (fun μ_2 => ?_)
    refine s_aload_n (pc := 21) 0 dX12_eats_21 rfl rfl ?_
    refine s_aload_n (pc := 22) 0 dX12_eats_22 rfl rfl ?_
    refine s_getI (pc := 23) (ci := 12) (k := 2) dX12_eats_23 fl_12_269 kd_253 rfl ?_
    refine s_putI (pc := 26) (ci := 12) (k := 4) dX12_eats_26 fl_12_283 kd_253 rfl rfl (fun μ_3 => ?_)
    refine s_iconst (pc := 29) (v := (1 : Int32)) dX12_eats_29 (by decide) ?_
    exact s_zret0 (pc := 30) dX12_eats_30 rfl rfl
def f_X12_asks (N : Nat) (o1 : Nat) (μ : z_S) : Option (Unit × z_S) :=
  z_kd false o1 22 <| if (μ.1 253 5) = 0 then (z_bn (f_X12_eats N o1 μ) fun x1 μ_1 => if x1 = 0 then (z_bn (f_X12_fail N (1 : Int32) (μ_1.1 253 2) μ_1) fun _ μ_2 => some ((), μ_2)) else some ((), μ_1)) else some ((), μ)
theorem t_X12_asks (N : Nat) (o1 : Nat) (μ : z_S) : z_met false rV mX12_asks 3 [.ref 253, .ref o1] μ (f_X12_asks N o1 μ) := by
  refine z_met.of (by decide +kernel) (by show _ ≤ _; first | decide | exact Nat.le_of_ble_eq_true rfl) (lv := [(0, .ref 253), (1, .ref o1)]) rfl ?_
  unfold f_X12_asks
  refine s_kd (fun hk1 => ?_)
  refine s_aload_n (pc := 0) 0 dX12_asks_0 rfl rfl ?_
  refine s_getI (pc := 1) (ci := 12) (k := 5) dX12_asks_1 fl_12_263 kd_253 rfl ?_
  refine s_if_ne (pc := 4) (tgt := 24) dX12_asks_4 (by decide) ?_ ?_
  · refine s_aload_n (pc := 7) 0 dX12_asks_7 rfl rfl ?_
    refine s_aload_n (pc := 8) 1 dX12_asks_8 rfl rfl ?_
    refine s_callVI (pc := 9) (as := [.ref o1]) (st := []) dX12_asks_9 lk_12_290 kd_253 (t_X12_eats N o1 μ) (by omega) rfl (by decide) rfl (fun x1 μ_1 => ?_)
    refine s_if_ne (pc := 12) (tgt := 24) dX12_asks_12 (by decide) ?_ ?_
    · refine s_aload_n (pc := 15) 0 dX12_asks_15 rfl rfl ?_
      refine s_iconst (pc := 16) (v := (1 : Int32)) dX12_asks_16 (by decide) ?_
      refine s_aload_n (pc := 17) 0 dX12_asks_17 rfl rfl ?_
      refine s_getI (pc := 18) (ci := 12) (k := 2) dX12_asks_18 fl_12_269 kd_253 rfl ?_
      refine s_callVV (pc := 21) (as := [.int (1 : Int32), .int (μ_1.1 253 2)]) (st := []) dX12_asks_21 lk_12_293 kd_253 (t_X12_fail N (1 : Int32) (μ_1.1 253 2) μ_1) (by omega) rfl (by decide) rfl (fun _ μ_2 => ?_)
      exact s_vret (pc := 24) dX12_asks_24 rfl
    · exact s_vret (pc := 24) dX12_asks_24 rfl
  · exact s_vret (pc := 24) dX12_asks_24 rfl
def f_X12_takesSign (N : Nat) (a1 : Int32) (μ : z_S) : Option (Int32 × z_S) :=
  if (μ.1 253 5) = 0 then (z_bn (f_X12_look N μ) fun x1 μ_1 => if x1 = a1 then (z_bd (z_setI μ_1 253 2 ((μ_1.1 253 2) + (1 : Int32))) fun μ_2 => some ((1 : Int32), μ_2)) else some ((0 : Int32), μ_1)) else some ((0 : Int32), μ)
theorem t_X12_takesSign (N : Nat) (a1 : Int32) (μ : z_S) : z_met false rI mX12_takesSign 1 [.ref 253, .int a1] μ (f_X12_takesSign N a1 μ) := by
  refine z_met.of (by decide +kernel) (by show _ ≤ _; first | decide | exact Nat.le_of_ble_eq_true rfl) (lv := [(0, .ref 253), (1, .int a1)]) rfl ?_
  unfold f_X12_takesSign
  refine s_aload_n (pc := 0) 0 dX12_takesSign_0 rfl rfl ?_
  refine s_getI (pc := 1) (ci := 12) (k := 5) dX12_takesSign_1 fl_12_263 kd_253 rfl ?_
  refine s_if_ne (pc := 4) (tgt := 15) dX12_takesSign_4 (by decide) ?_ ?_
  · refine s_aload_n (pc := 7) 0 dX12_takesSign_7 rfl rfl ?_
    refine s_callVI (pc := 8) (as := []) (st := []) dX12_takesSign_8 lk_12_275 kd_253 (t_X12_look N μ) (by omega) rfl (by decide) rfl (fun x1 μ_1 => ?_)
    refine s_iload_n (pc := 11) 1 dX12_takesSign_11 rfl rfl ?_
    refine s_icmp_eq (pc := 12) (tgt := 17) dX12_takesSign_12 (by decide) ?_ ?_
    · refine s_aload_n (pc := 17) 0 dX12_takesSign_17 rfl rfl ?_
      refine s_dup (pc := 18) dX12_takesSign_18 rfl ?_
      refine s_getI (pc := 19) (ci := 12) (k := 2) dX12_takesSign_19 fl_12_269 kd_253 rfl ?_
      refine s_iconst (pc := 22) (v := (1 : Int32)) dX12_takesSign_22 (by decide) ?_
      refine s_iadd (pc := 23) dX12_takesSign_23 ?_
      refine s_putI (pc := 24) (ci := 12) (k := 2) dX12_takesSign_24 fl_12_269 kd_253 rfl rfl (fun μ_2 => ?_)
      refine s_iconst (pc := 27) (v := (1 : Int32)) dX12_takesSign_27 (by decide) ?_
      exact s_zret0 (pc := 28) dX12_takesSign_28 rfl rfl
    · refine s_iconst (pc := 15) (v := (0 : Int32)) dX12_takesSign_15 (by decide) ?_
      exact s_zret0 (pc := 16) dX12_takesSign_16 rfl rfl
  · refine s_iconst (pc := 15) (v := (0 : Int32)) dX12_takesSign_15 (by decide) ?_
    exact s_zret0 (pc := 16) dX12_takesSign_16 rfl rfl
def f_X12_asksSign (N : Nat) (a1 : Int32) (μ : z_S) : Option (Unit × z_S) :=
  if (μ.1 253 5) = 0 then (z_bn (f_X12_takesSign N a1 μ) fun x1 μ_1 => if x1 = 0 then (z_bn (f_X12_fail N (1 : Int32) (μ_1.1 253 2) μ_1) fun _ μ_2 => some ((), μ_2)) else some ((), μ_1)) else some ((), μ)
theorem t_X12_asksSign (N : Nat) (a1 : Int32) (μ : z_S) : z_met false rV mX12_asksSign 2 [.ref 253, .int a1] μ (f_X12_asksSign N a1 μ) := by
  refine z_met.of (by decide +kernel) (by show _ ≤ _; first | decide | exact Nat.le_of_ble_eq_true rfl) (lv := [(0, .ref 253), (1, .int a1)]) rfl ?_
  unfold f_X12_asksSign
  refine s_aload_n (pc := 0) 0 dX12_asksSign_0 rfl rfl ?_
  refine s_getI (pc := 1) (ci := 12) (k := 5) dX12_asksSign_1 fl_12_263 kd_253 rfl ?_
  refine s_if_ne (pc := 4) (tgt := 24) dX12_asksSign_4 (by decide) ?_ ?_
  · refine s_aload_n (pc := 7) 0 dX12_asksSign_7 rfl rfl ?_
    refine s_iload_n (pc := 8) 1 dX12_asksSign_8 rfl rfl ?_
    refine s_callVI (pc := 9) (as := [.int a1]) (st := []) dX12_asksSign_9 lk_12_297 kd_253 (t_X12_takesSign N a1 μ) (by omega) rfl (by decide) rfl (fun x1 μ_1 => ?_)
    refine s_if_ne (pc := 12) (tgt := 24) dX12_asksSign_12 (by decide) ?_ ?_
    · refine s_aload_n (pc := 15) 0 dX12_asksSign_15 rfl rfl ?_
      refine s_iconst (pc := 16) (v := (1 : Int32)) dX12_asksSign_16 (by decide) ?_
      refine s_aload_n (pc := 17) 0 dX12_asksSign_17 rfl rfl ?_
      refine s_getI (pc := 18) (ci := 12) (k := 2) dX12_asksSign_18 fl_12_269 kd_253 rfl ?_
      refine s_callVV (pc := 21) (as := [.int (1 : Int32), .int (μ_1.1 253 2)]) (st := []) dX12_asksSign_21 lk_12_293 kd_253 (t_X12_fail N (1 : Int32) (μ_1.1 253 2) μ_1) (by omega) rfl (by decide) rfl (fun _ μ_2 => ?_)
      exact s_vret (pc := 24) dX12_asksSign_24 rfl
    · exact s_vret (pc := 24) dX12_asksSign_24 rfl
  · exact s_vret (pc := 24) dX12_asksSign_24 rfl
def f_X12_number_B30 (N : Nat)   (μ : z_S) : Option (Int32 × z_S) :=
  z_bn (f_X12_fail N (1 : Int32) (μ.1 253 2) μ) fun _ μ_3 => some ((0 : Int32), μ_3)
theorem t_X12_number_B30 (N : Nat)       (μ : z_S) : z_sim false rI mX12_number 1 (f_X12_number_B30 N    μ) 30 [(0, .ref 253)] [] μ := by
  unfold f_X12_number_B30
  refine s_aload_n (pc := 30) 0 dX12_number_30 rfl rfl ?_
  refine s_iconst (pc := 31) (v := (1 : Int32)) dX12_number_31 (by decide) ?_
  refine s_aload_n (pc := 32) 0 dX12_number_32 rfl rfl ?_
  refine s_getI (pc := 33) (ci := 12) (k := 2) dX12_number_33 fl_12_269 kd_253 rfl ?_
  refine s_callVV (pc := 36) (as := [.int (1 : Int32), .int (μ.1 253 2)]) (st := []) dX12_number_36 lk_12_293 kd_253 (t_X12_fail N (1 : Int32) (μ.1 253 2) μ) (by omega) rfl (by decide) rfl (fun _ μ_3 => ?_)
  refine s_iconst (pc := 39) (v := (0 : Int32)) dX12_number_39 (by decide) ?_
  exact s_iret (pc := 40) rfl dX12_number_40 rfl
def b_X12_number_L49 (N : Nat) (c1 : Int32) (c2 : Int32) (c3 : Int32) (kb : Int32 → z_S → Option (Int32 × z_S)) (e129 : Int32 → z_S → Option (Int32 × z_S)) (e85 : z_S → Option (Int32 × z_S)) (v4 : Int32) (μ : z_S) : Option (Int32 × z_S) :=
  if (μ.1 253 2) < (μ.1 253 3) then (z_in (μ.1 253 2) 1600 <| z_bn (f_X12_isDigit N (μ.1 254 (μ.1 253 2).toNatClampNeg) μ) fun x4 μ_4 => if x4 = 0 then (e129 v4 μ_4) else if ((μ_4.1 253 2) - c3) = (4 : Int32) then (e85 μ_4) else z_in (μ_4.1 253 2) 1600 <| z_bd ((((10 : Int32) * v4) + (μ_4.1 254 (μ_4.1 253 2).toNatClampNeg)) - (48 : Int32)) fun x5 => z_bd (z_setI μ_4 253 2 ((μ_4.1 253 2) + (1 : Int32))) fun μ_5 => kb x5 μ_5) else e129 v4 μ
theorem tb_X12_number_L49 (N : Nat) (c1 : Int32) (c2 : Int32) (c3 : Int32) (kb : Int32 → z_S → Option (Int32 × z_S)) (e129 : Int32 → z_S → Option (Int32 × z_S)) (e85 : z_S → Option (Int32 × z_S)) (hkb : ∀ (a4 : Int32) (μ : z_S), z_sim false rI mX12_number 1 (kb a4 μ) 49 [(0, .ref 253), (1, .int c1), (2, .int c2), (3, .int c3), (4, .int a4)] [] μ) (he129 : ∀ (a4 : Int32) (μ : z_S), z_sim false rI mX12_number 1 (e129 a4 μ) 129 [(0, .ref 253), (1, .int c1), (2, .int c2), (3, .int c3), (4, .int a4)] [] μ) (he85 : ∀ (μ : z_S), z_sim false rI mX12_number 1 (e85 μ) 85 [(0, .ref 253)] [] μ) (v4 : Int32) (μ : z_S) : z_sim false rI mX12_number 1 (b_X12_number_L49 N c1 c2 c3 kb e129 e85 v4 μ) 49 [(0, .ref 253), (1, .int c1), (2, .int c2), (3, .int c3), (4, .int v4)] [] μ := by
  unfold b_X12_number_L49
  refine s_aload_n (pc := 49) 0 dX12_number_49 rfl rfl ?_
  refine s_getI (pc := 50) (ci := 12) (k := 2) dX12_number_50 fl_12_269 kd_253 rfl ?_
  refine s_aload_n (pc := 53) 0 dX12_number_53 rfl rfl ?_
  refine s_getI (pc := 54) (ci := 12) (k := 3) dX12_number_54 fl_12_272 kd_253 rfl ?_
  refine s_icmp_ge (pc := 57) (tgt := 129) dX12_number_57 (by decide) ?_ ?_
  · refine s_aload_n (pc := 60) 0 dX12_number_60 rfl rfl ?_
    refine s_getR (pc := 61) (ci := 12) (k := 0) (r := 254) dX12_number_61 fl_12_7 kd_253 rfl rs_253_0 ?_
    refine s_aload_n (pc := 64) 0 dX12_number_64 rfl rfl ?_
    refine s_getI (pc := 65) (ci := 12) (k := 2) dX12_number_65 fl_12_269 kd_253 rfl ?_
    refine s_iald (pc := 68) dX12_number_68 kd_254 ?_
    refine s_callSI (pc := 69) (as := [.int (μ.1 254 (μ.1 253 2).toNatClampNeg)]) (st := []) dX12_number_69 lk_12_300 (t_X12_isDigit N (μ.1 254 (μ.1 253 2).toNatClampNeg) μ) (by omega) rfl (by decide) rfl (fun x4 μ_4 => ?_)
    refine s_if_eq (pc := 72) (tgt := 129) dX12_number_72 (by decide) ?_ ?_
    · exact he129 v4 μ_4
    · refine s_aload_n (pc := 75) 0 dX12_number_75 rfl rfl ?_
      refine s_getI (pc := 76) (ci := 12) (k := 2) dX12_number_76 fl_12_269 kd_253 rfl ?_
      refine s_iload_n (pc := 79) 3 dX12_number_79 rfl rfl ?_
      refine s_isub (pc := 80) dX12_number_80 ?_
      refine s_iconst (pc := 81) (v := (4 : Int32)) dX12_number_81 (by decide) ?_
      refine s_icmp_ne (pc := 82) (tgt := 96) dX12_number_82 (by decide) ?_ ?_
      · refine s_sub (lv' := [(0, .ref 253)]) [0] rfl ?_
        exact he85 μ_4
      · refine s_bipush (pc := 96) (v := (10 : Int32)) dX12_number_96 (by decide) ?_
        refine s_iload (pc := 98) 4 dX12_number_98 rfl ?_
        refine s_imul (pc := 100) dX12_number_100 ?_
        refine s_aload_n (pc := 101) 0 dX12_number_101 rfl rfl ?_
        refine s_getR (pc := 102) (ci := 12) (k := 0) (r := 254) dX12_number_102 fl_12_7 kd_253 rfl rs_253_0 ?_
        refine s_aload_n (pc := 105) 0 dX12_number_105 rfl rfl ?_
        refine s_getI (pc := 106) (ci := 12) (k := 2) dX12_number_106 fl_12_269 kd_253 rfl ?_
        refine s_iald (pc := 109) dX12_number_109 kd_254 ?_
        refine s_iadd (pc := 110) dX12_number_110 ?_
        refine s_bipush (pc := 111) (v := (48 : Int32)) dX12_number_111 (by decide) ?_
        refine s_isub (pc := 113) dX12_number_113 ?_
        refine s_letI (fun x5 => ?_)
        refine s_istore (pc := 114) (lv' := [(4, .int x5), (0, .ref 253), (1, .int c1), (2, .int c2), (3, .int c3)]) dX12_number_114 (by decide) rfl ?_
        refine s_aload_n (pc := 116) 1 dX12_number_116 rfl rfl ?_
        refine s_dup (pc := 117) dX12_number_117 rfl ?_
        refine s_getI (pc := 118) (ci := 12) (k := 2) dX12_number_118 fl_12_269 kd_253 rfl ?_
        refine s_iconst (pc := 121) (v := (1 : Int32)) dX12_number_121 (by decide) ?_
        refine s_iadd (pc := 122) dX12_number_122 ?_
        refine s_putI (pc := 123) (ci := 12) (k := 2) dX12_number_123 fl_12_269 kd_253 rfl rfl (fun μ_5 => ?_)
        refine s_goto (pc := 126) (tgt := 49) dX12_number_126 (by decide) ?_
        refine s_sub (lv' := [(0, .ref 253), (1, .int c1), (2, .int c2), (3, .int c3), (4, .int x5)]) [1, 2, 3, 4, 0] rfl ?_
        exact hkb x5 μ_5
  · exact he129 v4 μ
def f_X12_number_L49 (N : Nat) (c1 : Int32) (c2 : Int32) (c3 : Int32) (e129 : Int32 → z_S → Option (Int32 × z_S)) (e85 : z_S → Option (Int32 × z_S)) : Nat → Int32 → z_S → Option (Int32 × z_S)
  | 0, _, _ => none
  | n + 1, v4, μ => b_X12_number_L49 N c1 c2 c3 (f_X12_number_L49 N c1 c2 c3 e129 e85 n) e129 e85 v4 μ
theorem t_X12_number_L49 (N : Nat) (c1 : Int32) (c2 : Int32) (c3 : Int32) (e129 : Int32 → z_S → Option (Int32 × z_S)) (e85 : z_S → Option (Int32 × z_S)) (he129 : ∀ (a4 : Int32) (μ : z_S), z_sim false rI mX12_number 1 (e129 a4 μ) 129 [(0, .ref 253), (1, .int c1), (2, .int c2), (3, .int c3), (4, .int a4)] [] μ) (he85 : ∀ (μ : z_S), z_sim false rI mX12_number 1 (e85 μ) 85 [(0, .ref 253)] [] μ) : ∀ (n : Nat) (v4 : Int32) (μ : z_S), z_sim false rI mX12_number 1 (f_X12_number_L49 N c1 c2 c3 e129 e85 n v4 μ) 49 [(0, .ref 253), (1, .int c1), (2, .int c2), (3, .int c3), (4, .int v4)] [] μ
  | 0, _, _ => s_none
  | n + 1, v4, μ => tb_X12_number_L49 N c1 c2 c3 (f_X12_number_L49 N c1 c2 c3 e129 e85 n) e129 e85 (t_X12_number_L49 N c1 c2 c3 e129 e85 he129 he85 n) he129 he85 v4 μ
def f_X12_number_B129 (N : Nat)  (v1 : Int32) (v2 : Int32) (v3 : Int32) (v4 : Int32) (μ : z_S) : Option (Int32 × z_S) :=
  z_bd (z_setI μ 253 4 (μ.1 253 2)) fun μ_6 => z_bn (f_X12_isIn N v4.toInt64 v1.toInt64 v2.toInt64 μ_6) fun x6 μ_7 => if x6 = 0 then (z_bn (f_X12_fail N (2 : Int32) v3 μ_7) fun _ μ_8 => some (v4, μ_8)) else some (v4, μ_7)
theorem t_X12_number_B129 (N : Nat)     (v1 : Int32) (v2 : Int32) (v3 : Int32) (v4 : Int32)  (μ : z_S) : z_sim false rI mX12_number 1 (f_X12_number_B129 N   v1 v2 v3 v4 μ) 129 [(0, .ref 253), (1, .int v1), (2, .int v2), (3, .int v3), (4, .int v4)] [] μ := by
  unfold f_X12_number_B129
  refine s_aload_n (pc := 129) 0 dX12_number_129 rfl rfl ?_
  refine s_aload_n (pc := 130) 0 dX12_number_130 rfl rfl ?_
  refine s_getI (pc := 131) (ci := 12) (k := 2) dX12_number_131 fl_12_269 kd_253 rfl ?_
  refine s_putI (pc := 134) (ci := 12) (k := 4) dX12_number_134 fl_12_283 kd_253 rfl rfl (fun μ_6 => ?_)
  refine s_iload (pc := 137) 4 dX12_number_137 rfl ?_
  refine s_i2l (pc := 139) dX12_number_139 ?_
  refine s_iload_n (pc := 140) 1 dX12_number_140 rfl rfl ?_
  refine s_i2l (pc := 141) dX12_number_141 ?_
  refine s_iload_n (pc := 142) 2 dX12_number_142 rfl rfl ?_
  refine s_i2l (pc := 143) dX12_number_143 ?_
  refine s_callSI (pc := 144) (as := [.long v4.toInt64, .long v1.toInt64, .long v2.toInt64]) (st := []) dX12_number_144 lk_12_303 (t_X12_isIn N v4.toInt64 v1.toInt64 v2.toInt64 μ_6) (by omega) rfl (by decide) rfl (fun x6 μ_7 => ?_)
  refine s_if_ne (pc := 147) (tgt := 156) dX12_number_147 (by decide) ?_ ?_
  · refine s_aload_n (pc := 150) 0 dX12_number_150 rfl rfl ?_
    refine s_iconst (pc := 151) (v := (2 : Int32)) dX12_number_151 (by decide) ?_
    refine s_iload_n (pc := 152) 3 dX12_number_152 rfl rfl ?_
    refine s_callVV (pc := 153) (as := [.int (2 : Int32), .int v3]) (st := []) dX12_number_153 lk_12_293 kd_253 (t_X12_fail N (2 : Int32) v3 μ_7) (by omega) rfl (by decide) rfl (fun _ μ_8 => ?_)
    refine s_iload (pc := 156) 4 dX12_number_156 rfl ?_
    exact s_iret (pc := 158) rfl dX12_number_158 rfl
  · refine s_iload (pc := 156) 4 dX12_number_156 rfl ?_
    exact s_iret (pc := 158) rfl dX12_number_158 rfl
def f_X12_number (N : Nat) (a1 : Int32) (a2 : Int32) (μ : z_S) : Option (Int32 × z_S) :=
  if (μ.1 253 5) = 0 then (z_bn (f_X12_look N μ) fun x1 μ_1 => z_bn (f_X12_isDigit N x1 μ_1) fun x2 μ_2 => if x2 = 0 then (f_X12_number_B30 N μ_2) else if (μ_2.1 253 2) = (μ_2.1 253 4) then (f_X12_number_B30 N μ_2) else z_bd (μ_2.1 253 2) fun x3 => f_X12_number_L49 N a1 a2 x3 (fun y129_4 μ129 => f_X12_number_B129 N a1 a2 x3 y129_4 μ129) (fun μ85 => z_bn (f_X12_fail N (1 : Int32) (μ85.1 253 2) μ85) fun _ μ_9 => some ((0 : Int32), μ_9)) N (0 : Int32) μ_2) else some ((0 : Int32), μ)
theorem t_X12_number (N : Nat) (a1 : Int32) (a2 : Int32) (μ : z_S) : z_met false rI mX12_number 1 [.ref 253, .int a1, .int a2] μ (f_X12_number N a1 a2 μ) := by
  refine z_met.of (by decide +kernel) (by show _ ≤ _; first | decide | exact Nat.le_of_ble_eq_true rfl) (lv := [(0, .ref 253), (1, .int a1), (2, .int a2)]) rfl ?_
  unfold f_X12_number
  refine s_aload_n (pc := 0) 0 dX12_number_0 rfl rfl ?_
  refine s_getI (pc := 1) (ci := 12) (k := 5) dX12_number_1 fl_12_263 kd_253 rfl ?_
  refine s_if_eq (pc := 4) (tgt := 9) dX12_number_4 (by decide) ?_ ?_
  · refine s_aload_n (pc := 9) 0 dX12_number_9 rfl rfl ?_
    refine s_callVI (pc := 10) (as := []) (st := []) dX12_number_10 lk_12_275 kd_253 (t_X12_look N μ) (by omega) rfl (by decide) rfl (fun x1 μ_1 => ?_)
    refine s_callSI (pc := 13) (as := [.int x1]) (st := []) dX12_number_13 lk_12_300 (t_X12_isDigit N x1 μ_1) (by omega) rfl (by decide) rfl (fun x2 μ_2 => ?_)
    refine s_if_eq (pc := 16) (tgt := 30) dX12_number_16 (by decide) ?_ ?_
    · refine s_sub (lv' := [(0, .ref 253)]) [0] rfl ?_
      exact t_X12_number_B30 N μ_2
    · refine s_aload_n (pc := 19) 0 dX12_number_19 rfl rfl ?_
      refine s_getI (pc := 20) (ci := 12) (k := 2) dX12_number_20 fl_12_269 kd_253 rfl ?_
      refine s_aload_n (pc := 23) 0 dX12_number_23 rfl rfl ?_
      refine s_getI (pc := 24) (ci := 12) (k := 4) dX12_number_24 fl_12_283 kd_253 rfl ?_
      refine s_icmp_ne (pc := 27) (tgt := 41) dX12_number_27 (by decide) ?_ ?_
      · refine s_sub (lv' := [(0, .ref 253)]) [0] rfl ?_
        exact t_X12_number_B30 N μ_2
      · refine s_aload_n (pc := 41) 0 dX12_number_41 rfl rfl ?_
        refine s_getI (pc := 42) (ci := 12) (k := 2) dX12_number_42 fl_12_269 kd_253 rfl ?_
        refine s_letI (fun x3 => ?_)
        refine s_istore_n (pc := 45) (lv' := [(3, .int x3), (0, .ref 253), (1, .int a1), (2, .int a2)]) dX12_number_45 rfl (by decide) rfl ?_
        refine s_iconst (pc := 46) (v := (0 : Int32)) dX12_number_46 (by decide) ?_
        refine s_istore (pc := 47) (lv' := [(4, .int (0 : Int32)), (3, .int x3), (0, .ref 253), (1, .int a1), (2, .int a2)]) dX12_number_47 (by decide) rfl ?_
        refine s_sub (lv' := [(0, .ref 253), (1, .int a1), (2, .int a2), (3, .int x3), (4, .int (0 : Int32))]) [2, 3, 4, 1, 0] rfl ?_
        refine t_X12_number_L49 N a1 a2 x3 _ _ ?_ ?_ N (0 : Int32) μ_2
        · intro y129_4 μ129
          exact t_X12_number_B129 N a1 a2 x3 y129_4 μ129
        · intro μ85
          refine s_aload_n (pc := 85) 0 dX12_number_85 rfl rfl ?_
          refine s_iconst (pc := 86) (v := (1 : Int32)) dX12_number_86 (by decide) ?_
          refine s_aload_n (pc := 87) 0 dX12_number_87 rfl rfl ?_
          refine s_getI (pc := 88) (ci := 12) (k := 2) dX12_number_88 fl_12_269 kd_253 rfl ?_
          refine s_callVV (pc := 91) (as := [.int (1 : Int32), .int (μ85.1 253 2)]) (st := []) dX12_number_91 lk_12_293 kd_253 (t_X12_fail N (1 : Int32) (μ85.1 253 2) μ85) (by omega) rfl (by decide) rfl (fun _ μ_9 => ?_)
          refine s_iconst (pc := 94) (v := (0 : Int32)) dX12_number_94 (by decide) ?_
          exact s_iret (pc := 95) rfl dX12_number_95 rfl
  · refine s_iconst (pc := 7) (v := (0 : Int32)) dX12_number_7 (by decide) ?_
    exact s_iret (pc := 8) rfl dX12_number_8 rfl
def f_X12_isOwnHere_B348 (N : Nat)   (μ : z_S) : Option (Int32 × z_S) :=
  some ((1 : Int32), μ)
theorem t_X12_isOwnHere_B348 (N : Nat)       (μ : z_S) : z_sim false rI mX12_isOwnHere 2 (f_X12_isOwnHere_B348 N    μ) 348 [] [] μ := by
  unfold f_X12_isOwnHere_B348
  refine s_iconst (pc := 348) (v := (1 : Int32)) dX12_isOwnHere_348 (by decide) ?_
  refine s_goto (pc := 349) (tgt := 353) dX12_isOwnHere_349 (by decide) ?_
  refine s_istore_n (pc := 353) (lv' := [(1, .int (1 : Int32))]) dX12_isOwnHere_353 rfl (by decide) rfl ?_
  refine s_iload_n (pc := 354) 0 dX12_isOwnHere_354 rfl rfl ?_
  exact s_zret0 (pc := 355) dX12_isOwnHere_355 rfl rfl
def f_X12_isOwnHere_B299 (N : Nat)  (s0 : Int32) (μ : z_S) : Option (Int32 × z_S) :=
  if s0 = 0 then (z_bn (f_X12_isHere N 280 μ) fun x25 μ_25 => if x25 = 0 then (z_bn (f_X12_isHere N 281 μ_25) fun x26 μ_26 => if x26 = 0 then (z_bn (f_X12_isHere N 282 μ_26) fun x27 μ_27 => if x27 = 0 then (z_bn (f_X12_isHere N 283 μ_27) fun x28 μ_28 => if x28 = 0 then (some ((0 : Int32), μ_28)) else f_X12_isOwnHere_B348 N μ_28) else f_X12_isOwnHere_B348 N μ_27) else f_X12_isOwnHere_B348 N μ_26) else f_X12_isOwnHere_B348 N μ_25) else f_X12_isOwnHere_B348 N μ
theorem t_X12_isOwnHere_B299 (N : Nat)     (s0 : Int32)  (μ : z_S) : z_sim false rI mX12_isOwnHere 2 (f_X12_isOwnHere_B299 N   s0 μ) 299 [(0, .ref 253)] [.int s0] μ := by
  unfold f_X12_isOwnHere_B299
  refine s_istore_n (pc := 299) (lv' := [(1, .int s0), (0, .ref 253)]) dX12_isOwnHere_299 rfl (by decide) rfl ?_
  refine s_iload_n (pc := 300) 0 dX12_isOwnHere_300 rfl rfl ?_
  refine s_if_ne (pc := 301) (tgt := 348) dX12_isOwnHere_301 (by decide) ?_ ?_
  · refine s_aload_n (pc := 304) 1 dX12_isOwnHere_304 rfl rfl ?_
    refine s_aload_n (pc := 305) 1 dX12_isOwnHere_305 rfl rfl ?_
    refine s_getR (pc := 306) (ci := 12) (k := 34) (r := 280) dX12_isOwnHere_306 fl_12_93 kd_253 rfl rs_253_34 ?_
    refine s_callVI (pc := 309) (as := [.ref 280]) (st := []) dX12_isOwnHere_309 lk_12_286 kd_253 (t_X12_isHere N 280 μ) (by omega) rfl (by decide) rfl (fun x25 μ_25 => ?_)
    refine s_if_ne (pc := 312) (tgt := 348) dX12_isOwnHere_312 (by decide) ?_ ?_
    · refine s_aload_n (pc := 315) 1 dX12_isOwnHere_315 rfl rfl ?_
      refine s_aload_n (pc := 316) 1 dX12_isOwnHere_316 rfl rfl ?_
      refine s_getR (pc := 317) (ci := 12) (k := 35) (r := 281) dX12_isOwnHere_317 fl_12_96 kd_253 rfl rs_253_35 ?_
      refine s_callVI (pc := 320) (as := [.ref 281]) (st := []) dX12_isOwnHere_320 lk_12_286 kd_253 (t_X12_isHere N 281 μ_25) (by omega) rfl (by decide) rfl (fun x26 μ_26 => ?_)
      refine s_if_ne (pc := 323) (tgt := 348) dX12_isOwnHere_323 (by decide) ?_ ?_
      · refine s_aload_n (pc := 326) 1 dX12_isOwnHere_326 rfl rfl ?_
        refine s_aload_n (pc := 327) 1 dX12_isOwnHere_327 rfl rfl ?_
        refine s_getR (pc := 328) (ci := 12) (k := 36) (r := 282) dX12_isOwnHere_328 fl_12_99 kd_253 rfl rs_253_36 ?_
        refine s_callVI (pc := 331) (as := [.ref 282]) (st := []) dX12_isOwnHere_331 lk_12_286 kd_253 (t_X12_isHere N 282 μ_26) (by omega) rfl (by decide) rfl (fun x27 μ_27 => ?_)
        refine s_if_ne (pc := 334) (tgt := 348) dX12_isOwnHere_334 (by decide) ?_ ?_
        · refine s_aload_n (pc := 337) 1 dX12_isOwnHere_337 rfl rfl ?_
          refine s_aload_n (pc := 338) 1 dX12_isOwnHere_338 rfl rfl ?_
          refine s_getR (pc := 339) (ci := 12) (k := 37) (r := 283) dX12_isOwnHere_339 fl_12_102 kd_253 rfl rs_253_37 ?_
          refine s_callVI (pc := 342) (as := [.ref 283]) (st := []) dX12_isOwnHere_342 lk_12_286 kd_253 (t_X12_isHere N 283 μ_27) (by omega) rfl (by decide) rfl (fun x28 μ_28 => ?_)
          refine s_if_eq (pc := 345) (tgt := 352) dX12_isOwnHere_345 (by decide) ?_ ?_
          · refine s_iconst (pc := 352) (v := (0 : Int32)) dX12_isOwnHere_352 (by decide) ?_
            refine s_istore_n (pc := 353) (lv' := [(1, .int (0 : Int32)), (0, .ref 253)]) dX12_isOwnHere_353 rfl (by decide) rfl ?_
            refine s_iload_n (pc := 354) 0 dX12_isOwnHere_354 rfl rfl ?_
            exact s_zret0 (pc := 355) dX12_isOwnHere_355 rfl rfl
          · refine s_sub (lv' := []) [] rfl ?_
            exact t_X12_isOwnHere_B348 N μ_28
        · refine s_sub (lv' := []) [] rfl ?_
          exact t_X12_isOwnHere_B348 N μ_27
      · refine s_sub (lv' := []) [] rfl ?_
        exact t_X12_isOwnHere_B348 N μ_26
    · refine s_sub (lv' := []) [] rfl ?_
      exact t_X12_isOwnHere_B348 N μ_25
  · refine s_sub (lv' := []) [] rfl ?_
    exact t_X12_isOwnHere_B348 N μ
def f_X12_isOwnHere_B294 (N : Nat)   (μ : z_S) : Option (Int32 × z_S) :=
  f_X12_isOwnHere_B299 N (1 : Int32) μ
theorem t_X12_isOwnHere_B294 (N : Nat)       (μ : z_S) : z_sim false rI mX12_isOwnHere 2 (f_X12_isOwnHere_B294 N    μ) 294 [(0, .ref 253)] [] μ := by
  unfold f_X12_isOwnHere_B294
  refine s_iconst (pc := 294) (v := (1 : Int32)) dX12_isOwnHere_294 (by decide) ?_
  refine s_goto (pc := 295) (tgt := 299) dX12_isOwnHere_295 (by decide) ?_
  exact t_X12_isOwnHere_B299 N (1 : Int32) μ
def f_X12_isOwnHere_B223 (N : Nat)  (s0 : Int32) (μ : z_S) : Option (Int32 × z_S) :=
  if s0 = 0 then (z_bn (f_X12_isHere N 274 μ) fun x19 μ_19 => if x19 = 0 then (z_bn (f_X12_isHere N 275 μ_19) fun x20 μ_20 => if x20 = 0 then (z_bn (f_X12_isHere N 276 μ_20) fun x21 μ_21 => if x21 = 0 then (z_bn (f_X12_isHere N 277 μ_21) fun x22 μ_22 => if x22 = 0 then (z_bn (f_X12_isHere N 278 μ_22) fun x23 μ_23 => if x23 = 0 then (z_bn (f_X12_isHere N 279 μ_23) fun x24 μ_24 => if x24 = 0 then (f_X12_isOwnHere_B299 N (0 : Int32) μ_24) else f_X12_isOwnHere_B294 N μ_24) else f_X12_isOwnHere_B294 N μ_23) else f_X12_isOwnHere_B294 N μ_22) else f_X12_isOwnHere_B294 N μ_21) else f_X12_isOwnHere_B294 N μ_20) else f_X12_isOwnHere_B294 N μ_19) else f_X12_isOwnHere_B294 N μ
theorem t_X12_isOwnHere_B223 (N : Nat)     (s0 : Int32)  (μ : z_S) : z_sim false rI mX12_isOwnHere 2 (f_X12_isOwnHere_B223 N   s0 μ) 223 [(0, .ref 253)] [.int s0] μ := by
  unfold f_X12_isOwnHere_B223
  refine s_istore_n (pc := 223) (lv' := [(1, .int s0), (0, .ref 253)]) dX12_isOwnHere_223 rfl (by decide) rfl ?_
  refine s_iload_n (pc := 224) 0 dX12_isOwnHere_224 rfl rfl ?_
  refine s_if_ne (pc := 225) (tgt := 294) dX12_isOwnHere_225 (by decide) ?_ ?_
  · refine s_aload_n (pc := 228) 1 dX12_isOwnHere_228 rfl rfl ?_
    refine s_aload_n (pc := 229) 1 dX12_isOwnHere_229 rfl rfl ?_
    refine s_getR (pc := 230) (ci := 12) (k := 28) (r := 274) dX12_isOwnHere_230 fl_12_75 kd_253 rfl rs_253_28 ?_
    refine s_callVI (pc := 233) (as := [.ref 274]) (st := []) dX12_isOwnHere_233 lk_12_286 kd_253 (t_X12_isHere N 274 μ) (by omega) rfl (by decide) rfl (fun x19 μ_19 => ?_)
    refine s_if_ne (pc := 236) (tgt := 294) dX12_isOwnHere_236 (by decide) ?_ ?_
    · refine s_aload_n (pc := 239) 1 dX12_isOwnHere_239 rfl rfl ?_
      refine s_aload_n (pc := 240) 1 dX12_isOwnHere_240 rfl rfl ?_
      refine s_getR (pc := 241) (ci := 12) (k := 29) (r := 275) dX12_isOwnHere_241 fl_12_78 kd_253 rfl rs_253_29 ?_
      refine s_callVI (pc := 244) (as := [.ref 275]) (st := []) dX12_isOwnHere_244 lk_12_286 kd_253 (t_X12_isHere N 275 μ_19) (by omega) rfl (by decide) rfl (fun x20 μ_20 => ?_)
      refine s_if_ne (pc := 247) (tgt := 294) dX12_isOwnHere_247 (by decide) ?_ ?_
      · refine s_aload_n (pc := 250) 1 dX12_isOwnHere_250 rfl rfl ?_
        refine s_aload_n (pc := 251) 1 dX12_isOwnHere_251 rfl rfl ?_
        refine s_getR (pc := 252) (ci := 12) (k := 30) (r := 276) dX12_isOwnHere_252 fl_12_81 kd_253 rfl rs_253_30 ?_
        refine s_callVI (pc := 255) (as := [.ref 276]) (st := []) dX12_isOwnHere_255 lk_12_286 kd_253 (t_X12_isHere N 276 μ_20) (by omega) rfl (by decide) rfl (fun x21 μ_21 => ?_)
        refine s_if_ne (pc := 258) (tgt := 294) dX12_isOwnHere_258 (by decide) ?_ ?_
        · refine s_aload_n (pc := 261) 1 dX12_isOwnHere_261 rfl rfl ?_
          refine s_aload_n (pc := 262) 1 dX12_isOwnHere_262 rfl rfl ?_
          refine s_getR (pc := 263) (ci := 12) (k := 31) (r := 277) dX12_isOwnHere_263 fl_12_84 kd_253 rfl rs_253_31 ?_
          refine s_callVI (pc := 266) (as := [.ref 277]) (st := []) dX12_isOwnHere_266 lk_12_286 kd_253 (t_X12_isHere N 277 μ_21) (by omega) rfl (by decide) rfl (fun x22 μ_22 => ?_)
          refine s_if_ne (pc := 269) (tgt := 294) dX12_isOwnHere_269 (by decide) ?_ ?_
          · refine s_aload_n (pc := 272) 1 dX12_isOwnHere_272 rfl rfl ?_
            refine s_aload_n (pc := 273) 1 dX12_isOwnHere_273 rfl rfl ?_
            refine s_getR (pc := 274) (ci := 12) (k := 32) (r := 278) dX12_isOwnHere_274 fl_12_87 kd_253 rfl rs_253_32 ?_
            refine s_callVI (pc := 277) (as := [.ref 278]) (st := []) dX12_isOwnHere_277 lk_12_286 kd_253 (t_X12_isHere N 278 μ_22) (by omega) rfl (by decide) rfl (fun x23 μ_23 => ?_)
            refine s_if_ne (pc := 280) (tgt := 294) dX12_isOwnHere_280 (by decide) ?_ ?_
            · refine s_aload_n (pc := 283) 1 dX12_isOwnHere_283 rfl rfl ?_
              refine s_aload_n (pc := 284) 1 dX12_isOwnHere_284 rfl rfl ?_
              refine s_getR (pc := 285) (ci := 12) (k := 33) (r := 279) dX12_isOwnHere_285 fl_12_90 kd_253 rfl rs_253_33 ?_
              refine s_callVI (pc := 288) (as := [.ref 279]) (st := []) dX12_isOwnHere_288 lk_12_286 kd_253 (t_X12_isHere N 279 μ_23) (by omega) rfl (by decide) rfl (fun x24 μ_24 => ?_)
              refine s_if_eq (pc := 291) (tgt := 298) dX12_isOwnHere_291 (by decide) ?_ ?_
              · refine s_iconst (pc := 298) (v := (0 : Int32)) dX12_isOwnHere_298 (by decide) ?_
                refine s_sub (lv' := [(0, .ref 253)]) [1] rfl ?_
                exact t_X12_isOwnHere_B299 N (0 : Int32) μ_24
              · refine s_sub (lv' := [(0, .ref 253)]) [1] rfl ?_
                exact t_X12_isOwnHere_B294 N μ_24
            · refine s_sub (lv' := [(0, .ref 253)]) [1] rfl ?_
              exact t_X12_isOwnHere_B294 N μ_23
          · refine s_sub (lv' := [(0, .ref 253)]) [1] rfl ?_
            exact t_X12_isOwnHere_B294 N μ_22
        · refine s_sub (lv' := [(0, .ref 253)]) [1] rfl ?_
          exact t_X12_isOwnHere_B294 N μ_21
      · refine s_sub (lv' := [(0, .ref 253)]) [1] rfl ?_
        exact t_X12_isOwnHere_B294 N μ_20
    · refine s_sub (lv' := [(0, .ref 253)]) [1] rfl ?_
      exact t_X12_isOwnHere_B294 N μ_19
  · refine s_sub (lv' := [(0, .ref 253)]) [1] rfl ?_
    exact t_X12_isOwnHere_B294 N μ
def f_X12_isOwnHere_B218 (N : Nat)   (μ : z_S) : Option (Int32 × z_S) :=
  f_X12_isOwnHere_B223 N (1 : Int32) μ
theorem t_X12_isOwnHere_B218 (N : Nat)       (μ : z_S) : z_sim false rI mX12_isOwnHere 2 (f_X12_isOwnHere_B218 N    μ) 218 [(0, .ref 253)] [] μ := by
  unfold f_X12_isOwnHere_B218
  refine s_iconst (pc := 218) (v := (1 : Int32)) dX12_isOwnHere_218 (by decide) ?_
  refine s_goto (pc := 219) (tgt := 223) dX12_isOwnHere_219 (by decide) ?_
  exact t_X12_isOwnHere_B223 N (1 : Int32) μ
def f_X12_isOwnHere_B147 (N : Nat)  (s0 : Int32) (μ : z_S) : Option (Int32 × z_S) :=
  if s0 = 0 then (z_bn (f_X12_isHere N 268 μ) fun x13 μ_13 => if x13 = 0 then (z_bn (f_X12_isHere N 269 μ_13) fun x14 μ_14 => if x14 = 0 then (z_bn (f_X12_isHere N 270 μ_14) fun x15 μ_15 => if x15 = 0 then (z_bn (f_X12_isHere N 271 μ_15) fun x16 μ_16 => if x16 = 0 then (z_bn (f_X12_isHere N 272 μ_16) fun x17 μ_17 => if x17 = 0 then (z_bn (f_X12_isHere N 273 μ_17) fun x18 μ_18 => if x18 = 0 then (f_X12_isOwnHere_B223 N (0 : Int32) μ_18) else f_X12_isOwnHere_B218 N μ_18) else f_X12_isOwnHere_B218 N μ_17) else f_X12_isOwnHere_B218 N μ_16) else f_X12_isOwnHere_B218 N μ_15) else f_X12_isOwnHere_B218 N μ_14) else f_X12_isOwnHere_B218 N μ_13) else f_X12_isOwnHere_B218 N μ
theorem t_X12_isOwnHere_B147 (N : Nat)     (s0 : Int32)  (μ : z_S) : z_sim false rI mX12_isOwnHere 2 (f_X12_isOwnHere_B147 N   s0 μ) 147 [(0, .ref 253)] [.int s0] μ := by
  unfold f_X12_isOwnHere_B147
  refine s_istore_n (pc := 147) (lv' := [(1, .int s0), (0, .ref 253)]) dX12_isOwnHere_147 rfl (by decide) rfl ?_
  refine s_iload_n (pc := 148) 0 dX12_isOwnHere_148 rfl rfl ?_
  refine s_if_ne (pc := 149) (tgt := 218) dX12_isOwnHere_149 (by decide) ?_ ?_
  · refine s_aload_n (pc := 152) 1 dX12_isOwnHere_152 rfl rfl ?_
    refine s_aload_n (pc := 153) 1 dX12_isOwnHere_153 rfl rfl ?_
    refine s_getR (pc := 154) (ci := 12) (k := 22) (r := 268) dX12_isOwnHere_154 fl_12_57 kd_253 rfl rs_253_22 ?_
    refine s_callVI (pc := 157) (as := [.ref 268]) (st := []) dX12_isOwnHere_157 lk_12_286 kd_253 (t_X12_isHere N 268 μ) (by omega) rfl (by decide) rfl (fun x13 μ_13 => ?_)
    refine s_if_ne (pc := 160) (tgt := 218) dX12_isOwnHere_160 (by decide) ?_ ?_
    · refine s_aload_n (pc := 163) 1 dX12_isOwnHere_163 rfl rfl ?_
      refine s_aload_n (pc := 164) 1 dX12_isOwnHere_164 rfl rfl ?_
      refine s_getR (pc := 165) (ci := 12) (k := 23) (r := 269) dX12_isOwnHere_165 fl_12_60 kd_253 rfl rs_253_23 ?_
      refine s_callVI (pc := 168) (as := [.ref 269]) (st := []) dX12_isOwnHere_168 lk_12_286 kd_253 (t_X12_isHere N 269 μ_13) (by omega) rfl (by decide) rfl (fun x14 μ_14 => ?_)
      refine s_if_ne (pc := 171) (tgt := 218) dX12_isOwnHere_171 (by decide) ?_ ?_
      · refine s_aload_n (pc := 174) 1 dX12_isOwnHere_174 rfl rfl ?_
        refine s_aload_n (pc := 175) 1 dX12_isOwnHere_175 rfl rfl ?_
        refine s_getR (pc := 176) (ci := 12) (k := 24) (r := 270) dX12_isOwnHere_176 fl_12_63 kd_253 rfl rs_253_24 ?_
        refine s_callVI (pc := 179) (as := [.ref 270]) (st := []) dX12_isOwnHere_179 lk_12_286 kd_253 (t_X12_isHere N 270 μ_14) (by omega) rfl (by decide) rfl (fun x15 μ_15 => ?_)
        refine s_if_ne (pc := 182) (tgt := 218) dX12_isOwnHere_182 (by decide) ?_ ?_
        · refine s_aload_n (pc := 185) 1 dX12_isOwnHere_185 rfl rfl ?_
          refine s_aload_n (pc := 186) 1 dX12_isOwnHere_186 rfl rfl ?_
          refine s_getR (pc := 187) (ci := 12) (k := 25) (r := 271) dX12_isOwnHere_187 fl_12_66 kd_253 rfl rs_253_25 ?_
          refine s_callVI (pc := 190) (as := [.ref 271]) (st := []) dX12_isOwnHere_190 lk_12_286 kd_253 (t_X12_isHere N 271 μ_15) (by omega) rfl (by decide) rfl (fun x16 μ_16 => ?_)
          refine s_if_ne (pc := 193) (tgt := 218) dX12_isOwnHere_193 (by decide) ?_ ?_
          · refine s_aload_n (pc := 196) 1 dX12_isOwnHere_196 rfl rfl ?_
            refine s_aload_n (pc := 197) 1 dX12_isOwnHere_197 rfl rfl ?_
            refine s_getR (pc := 198) (ci := 12) (k := 26) (r := 272) dX12_isOwnHere_198 fl_12_69 kd_253 rfl rs_253_26 ?_
            refine s_callVI (pc := 201) (as := [.ref 272]) (st := []) dX12_isOwnHere_201 lk_12_286 kd_253 (t_X12_isHere N 272 μ_16) (by omega) rfl (by decide) rfl (fun x17 μ_17 => ?_)
            refine s_if_ne (pc := 204) (tgt := 218) dX12_isOwnHere_204 (by decide) ?_ ?_
            · refine s_aload_n (pc := 207) 1 dX12_isOwnHere_207 rfl rfl ?_
              refine s_aload_n (pc := 208) 1 dX12_isOwnHere_208 rfl rfl ?_
              refine s_getR (pc := 209) (ci := 12) (k := 27) (r := 273) dX12_isOwnHere_209 fl_12_72 kd_253 rfl rs_253_27 ?_
              refine s_callVI (pc := 212) (as := [.ref 273]) (st := []) dX12_isOwnHere_212 lk_12_286 kd_253 (t_X12_isHere N 273 μ_17) (by omega) rfl (by decide) rfl (fun x18 μ_18 => ?_)
              refine s_if_eq (pc := 215) (tgt := 222) dX12_isOwnHere_215 (by decide) ?_ ?_
              · refine s_iconst (pc := 222) (v := (0 : Int32)) dX12_isOwnHere_222 (by decide) ?_
                refine s_sub (lv' := [(0, .ref 253)]) [1] rfl ?_
                exact t_X12_isOwnHere_B223 N (0 : Int32) μ_18
              · refine s_sub (lv' := [(0, .ref 253)]) [1] rfl ?_
                exact t_X12_isOwnHere_B218 N μ_18
            · refine s_sub (lv' := [(0, .ref 253)]) [1] rfl ?_
              exact t_X12_isOwnHere_B218 N μ_17
          · refine s_sub (lv' := [(0, .ref 253)]) [1] rfl ?_
            exact t_X12_isOwnHere_B218 N μ_16
        · refine s_sub (lv' := [(0, .ref 253)]) [1] rfl ?_
          exact t_X12_isOwnHere_B218 N μ_15
      · refine s_sub (lv' := [(0, .ref 253)]) [1] rfl ?_
        exact t_X12_isOwnHere_B218 N μ_14
    · refine s_sub (lv' := [(0, .ref 253)]) [1] rfl ?_
      exact t_X12_isOwnHere_B218 N μ_13
  · refine s_sub (lv' := [(0, .ref 253)]) [1] rfl ?_
    exact t_X12_isOwnHere_B218 N μ
def f_X12_isOwnHere_B142 (N : Nat)   (μ : z_S) : Option (Int32 × z_S) :=
  f_X12_isOwnHere_B147 N (1 : Int32) μ
theorem t_X12_isOwnHere_B142 (N : Nat)       (μ : z_S) : z_sim false rI mX12_isOwnHere 2 (f_X12_isOwnHere_B142 N    μ) 142 [(0, .ref 253)] [] μ := by
  unfold f_X12_isOwnHere_B142
  refine s_iconst (pc := 142) (v := (1 : Int32)) dX12_isOwnHere_142 (by decide) ?_
  refine s_goto (pc := 143) (tgt := 147) dX12_isOwnHere_143 (by decide) ?_
  exact t_X12_isOwnHere_B147 N (1 : Int32) μ
def f_X12_isOwnHere_B71 (N : Nat)  (s0 : Int32) (μ : z_S) : Option (Int32 × z_S) :=
  if s0 = 0 then (z_bn (f_X12_isHere N 262 μ) fun x7 μ_7 => if x7 = 0 then (z_bn (f_X12_isHere N 263 μ_7) fun x8 μ_8 => if x8 = 0 then (z_bn (f_X12_isHere N 264 μ_8) fun x9 μ_9 => if x9 = 0 then (z_bn (f_X12_isHere N 265 μ_9) fun x10 μ_10 => if x10 = 0 then (z_bn (f_X12_isHere N 266 μ_10) fun x11 μ_11 => if x11 = 0 then (z_bn (f_X12_isHere N 267 μ_11) fun x12 μ_12 => if x12 = 0 then (f_X12_isOwnHere_B147 N (0 : Int32) μ_12) else f_X12_isOwnHere_B142 N μ_12) else f_X12_isOwnHere_B142 N μ_11) else f_X12_isOwnHere_B142 N μ_10) else f_X12_isOwnHere_B142 N μ_9) else f_X12_isOwnHere_B142 N μ_8) else f_X12_isOwnHere_B142 N μ_7) else f_X12_isOwnHere_B142 N μ
theorem t_X12_isOwnHere_B71 (N : Nat)     (s0 : Int32)  (μ : z_S) : z_sim false rI mX12_isOwnHere 2 (f_X12_isOwnHere_B71 N   s0 μ) 71 [(0, .ref 253)] [.int s0] μ := by
  unfold f_X12_isOwnHere_B71
  refine s_istore_n (pc := 71) (lv' := [(1, .int s0), (0, .ref 253)]) dX12_isOwnHere_71 rfl (by decide) rfl ?_
  refine s_iload_n (pc := 72) 0 dX12_isOwnHere_72 rfl rfl ?_
  refine s_if_ne (pc := 73) (tgt := 142) dX12_isOwnHere_73 (by decide) ?_ ?_
  · refine s_aload_n (pc := 76) 1 dX12_isOwnHere_76 rfl rfl ?_
    refine s_aload_n (pc := 77) 1 dX12_isOwnHere_77 rfl rfl ?_
    refine s_getR (pc := 78) (ci := 12) (k := 16) (r := 262) dX12_isOwnHere_78 fl_12_39 kd_253 rfl rs_253_16 ?_
    refine s_callVI (pc := 81) (as := [.ref 262]) (st := []) dX12_isOwnHere_81 lk_12_286 kd_253 (t_X12_isHere N 262 μ) (by omega) rfl (by decide) rfl (fun x7 μ_7 => ?_)
    refine s_if_ne (pc := 84) (tgt := 142) dX12_isOwnHere_84 (by decide) ?_ ?_
    · refine s_aload_n (pc := 87) 1 dX12_isOwnHere_87 rfl rfl ?_
      refine s_aload_n (pc := 88) 1 dX12_isOwnHere_88 rfl rfl ?_
      refine s_getR (pc := 89) (ci := 12) (k := 17) (r := 263) dX12_isOwnHere_89 fl_12_42 kd_253 rfl rs_253_17 ?_
      refine s_callVI (pc := 92) (as := [.ref 263]) (st := []) dX12_isOwnHere_92 lk_12_286 kd_253 (t_X12_isHere N 263 μ_7) (by omega) rfl (by decide) rfl (fun x8 μ_8 => ?_)
      refine s_if_ne (pc := 95) (tgt := 142) dX12_isOwnHere_95 (by decide) ?_ ?_
      · refine s_aload_n (pc := 98) 1 dX12_isOwnHere_98 rfl rfl ?_
        refine s_aload_n (pc := 99) 1 dX12_isOwnHere_99 rfl rfl ?_
        refine s_getR (pc := 100) (ci := 12) (k := 18) (r := 264) dX12_isOwnHere_100 fl_12_45 kd_253 rfl rs_253_18 ?_
        refine s_callVI (pc := 103) (as := [.ref 264]) (st := []) dX12_isOwnHere_103 lk_12_286 kd_253 (t_X12_isHere N 264 μ_8) (by omega) rfl (by decide) rfl (fun x9 μ_9 => ?_)
        refine s_if_ne (pc := 106) (tgt := 142) dX12_isOwnHere_106 (by decide) ?_ ?_
        · refine s_aload_n (pc := 109) 1 dX12_isOwnHere_109 rfl rfl ?_
          refine s_aload_n (pc := 110) 1 dX12_isOwnHere_110 rfl rfl ?_
          refine s_getR (pc := 111) (ci := 12) (k := 19) (r := 265) dX12_isOwnHere_111 fl_12_48 kd_253 rfl rs_253_19 ?_
          refine s_callVI (pc := 114) (as := [.ref 265]) (st := []) dX12_isOwnHere_114 lk_12_286 kd_253 (t_X12_isHere N 265 μ_9) (by omega) rfl (by decide) rfl (fun x10 μ_10 => ?_)
          refine s_if_ne (pc := 117) (tgt := 142) dX12_isOwnHere_117 (by decide) ?_ ?_
          · refine s_aload_n (pc := 120) 1 dX12_isOwnHere_120 rfl rfl ?_
            refine s_aload_n (pc := 121) 1 dX12_isOwnHere_121 rfl rfl ?_
            refine s_getR (pc := 122) (ci := 12) (k := 20) (r := 266) dX12_isOwnHere_122 fl_12_51 kd_253 rfl rs_253_20 ?_
            refine s_callVI (pc := 125) (as := [.ref 266]) (st := []) dX12_isOwnHere_125 lk_12_286 kd_253 (t_X12_isHere N 266 μ_10) (by omega) rfl (by decide) rfl (fun x11 μ_11 => ?_)
            refine s_if_ne (pc := 128) (tgt := 142) dX12_isOwnHere_128 (by decide) ?_ ?_
            · refine s_aload_n (pc := 131) 1 dX12_isOwnHere_131 rfl rfl ?_
              refine s_aload_n (pc := 132) 1 dX12_isOwnHere_132 rfl rfl ?_
              refine s_getR (pc := 133) (ci := 12) (k := 21) (r := 267) dX12_isOwnHere_133 fl_12_54 kd_253 rfl rs_253_21 ?_
              refine s_callVI (pc := 136) (as := [.ref 267]) (st := []) dX12_isOwnHere_136 lk_12_286 kd_253 (t_X12_isHere N 267 μ_11) (by omega) rfl (by decide) rfl (fun x12 μ_12 => ?_)
              refine s_if_eq (pc := 139) (tgt := 146) dX12_isOwnHere_139 (by decide) ?_ ?_
              · refine s_iconst (pc := 146) (v := (0 : Int32)) dX12_isOwnHere_146 (by decide) ?_
                refine s_sub (lv' := [(0, .ref 253)]) [1] rfl ?_
                exact t_X12_isOwnHere_B147 N (0 : Int32) μ_12
              · refine s_sub (lv' := [(0, .ref 253)]) [1] rfl ?_
                exact t_X12_isOwnHere_B142 N μ_12
            · refine s_sub (lv' := [(0, .ref 253)]) [1] rfl ?_
              exact t_X12_isOwnHere_B142 N μ_11
          · refine s_sub (lv' := [(0, .ref 253)]) [1] rfl ?_
            exact t_X12_isOwnHere_B142 N μ_10
        · refine s_sub (lv' := [(0, .ref 253)]) [1] rfl ?_
          exact t_X12_isOwnHere_B142 N μ_9
      · refine s_sub (lv' := [(0, .ref 253)]) [1] rfl ?_
        exact t_X12_isOwnHere_B142 N μ_8
    · refine s_sub (lv' := [(0, .ref 253)]) [1] rfl ?_
      exact t_X12_isOwnHere_B142 N μ_7
  · refine s_sub (lv' := [(0, .ref 253)]) [1] rfl ?_
    exact t_X12_isOwnHere_B142 N μ
def f_X12_isOwnHere_B66 (N : Nat)   (μ : z_S) : Option (Int32 × z_S) :=
  f_X12_isOwnHere_B71 N (1 : Int32) μ
theorem t_X12_isOwnHere_B66 (N : Nat)       (μ : z_S) : z_sim false rI mX12_isOwnHere 2 (f_X12_isOwnHere_B66 N    μ) 66 [(0, .ref 253)] [] μ := by
  unfold f_X12_isOwnHere_B66
  refine s_iconst (pc := 66) (v := (1 : Int32)) dX12_isOwnHere_66 (by decide) ?_
  refine s_goto (pc := 67) (tgt := 71) dX12_isOwnHere_67 (by decide) ?_
  exact t_X12_isOwnHere_B71 N (1 : Int32) μ
def f_X12_isOwnHere (N : Nat) (μ : z_S) : Option (Int32 × z_S) :=
  z_bn (f_X12_isHere N 256 μ) fun x1 μ_1 => if x1 = 0 then (z_bn (f_X12_isHere N 257 μ_1) fun x2 μ_2 => if x2 = 0 then (z_bn (f_X12_isHere N 258 μ_2) fun x3 μ_3 => if x3 = 0 then (z_bn (f_X12_isHere N 259 μ_3) fun x4 μ_4 => if x4 = 0 then (z_bn (f_X12_isHere N 260 μ_4) fun x5 μ_5 => if x5 = 0 then (z_bn (f_X12_isHere N 261 μ_5) fun x6 μ_6 => if x6 = 0 then (f_X12_isOwnHere_B71 N (0 : Int32) μ_6) else f_X12_isOwnHere_B66 N μ_6) else f_X12_isOwnHere_B66 N μ_5) else f_X12_isOwnHere_B66 N μ_4) else f_X12_isOwnHere_B66 N μ_3) else f_X12_isOwnHere_B66 N μ_2) else f_X12_isOwnHere_B66 N μ_1
theorem t_X12_isOwnHere (N : Nat) (μ : z_S) : z_met false rI mX12_isOwnHere 2 [.ref 253] μ (f_X12_isOwnHere N μ) := by
  refine z_met.of (by decide +kernel) (by show _ ≤ _; first | decide | exact Nat.le_of_ble_eq_true rfl) (lv := [(0, .ref 253)]) rfl ?_
  unfold f_X12_isOwnHere
  refine s_aload_n (pc := 0) 0 dX12_isOwnHere_0 rfl rfl ?_
  refine s_aload_n (pc := 1) 0 dX12_isOwnHere_1 rfl rfl ?_
  refine s_getR (pc := 2) (ci := 12) (k := 10) (r := 256) dX12_isOwnHere_2 fl_12_20 kd_253 rfl rs_253_10 ?_
  refine s_callVI (pc := 5) (as := [.ref 256]) (st := []) dX12_isOwnHere_5 lk_12_286 kd_253 (t_X12_isHere N 256 μ) (by omega) rfl (by decide) rfl (fun x1 μ_1 => ?_)
  refine s_if_ne (pc := 8) (tgt := 66) dX12_isOwnHere_8 (by decide) ?_ ?_
  · refine s_aload_n (pc := 11) 0 dX12_isOwnHere_11 rfl rfl ?_
    refine s_aload_n (pc := 12) 0 dX12_isOwnHere_12 rfl rfl ?_
    refine s_getR (pc := 13) (ci := 12) (k := 11) (r := 257) dX12_isOwnHere_13 fl_12_24 kd_253 rfl rs_253_11 ?_
    refine s_callVI (pc := 16) (as := [.ref 257]) (st := []) dX12_isOwnHere_16 lk_12_286 kd_253 (t_X12_isHere N 257 μ_1) (by omega) rfl (by decide) rfl (fun x2 μ_2 => ?_)
    refine s_if_ne (pc := 19) (tgt := 66) dX12_isOwnHere_19 (by decide) ?_ ?_
    · refine s_aload_n (pc := 22) 0 dX12_isOwnHere_22 rfl rfl ?_
      refine s_aload_n (pc := 23) 0 dX12_isOwnHere_23 rfl rfl ?_
      refine s_getR (pc := 24) (ci := 12) (k := 12) (r := 258) dX12_isOwnHere_24 fl_12_27 kd_253 rfl rs_253_12 ?_
      refine s_callVI (pc := 27) (as := [.ref 258]) (st := []) dX12_isOwnHere_27 lk_12_286 kd_253 (t_X12_isHere N 258 μ_2) (by omega) rfl (by decide) rfl (fun x3 μ_3 => ?_)
      refine s_if_ne (pc := 30) (tgt := 66) dX12_isOwnHere_30 (by decide) ?_ ?_
      · refine s_aload_n (pc := 33) 0 dX12_isOwnHere_33 rfl rfl ?_
        refine s_aload_n (pc := 34) 0 dX12_isOwnHere_34 rfl rfl ?_
        refine s_getR (pc := 35) (ci := 12) (k := 13) (r := 259) dX12_isOwnHere_35 fl_12_30 kd_253 rfl rs_253_13 ?_
        refine s_callVI (pc := 38) (as := [.ref 259]) (st := []) dX12_isOwnHere_38 lk_12_286 kd_253 (t_X12_isHere N 259 μ_3) (by omega) rfl (by decide) rfl (fun x4 μ_4 => ?_)
        refine s_if_ne (pc := 41) (tgt := 66) dX12_isOwnHere_41 (by decide) ?_ ?_
        · refine s_aload_n (pc := 44) 0 dX12_isOwnHere_44 rfl rfl ?_
          refine s_aload_n (pc := 45) 0 dX12_isOwnHere_45 rfl rfl ?_
          refine s_getR (pc := 46) (ci := 12) (k := 14) (r := 260) dX12_isOwnHere_46 fl_12_33 kd_253 rfl rs_253_14 ?_
          refine s_callVI (pc := 49) (as := [.ref 260]) (st := []) dX12_isOwnHere_49 lk_12_286 kd_253 (t_X12_isHere N 260 μ_4) (by omega) rfl (by decide) rfl (fun x5 μ_5 => ?_)
          refine s_if_ne (pc := 52) (tgt := 66) dX12_isOwnHere_52 (by decide) ?_ ?_
          · refine s_aload_n (pc := 55) 0 dX12_isOwnHere_55 rfl rfl ?_
            refine s_aload_n (pc := 56) 0 dX12_isOwnHere_56 rfl rfl ?_
            refine s_getR (pc := 57) (ci := 12) (k := 15) (r := 261) dX12_isOwnHere_57 fl_12_36 kd_253 rfl rs_253_15 ?_
            refine s_callVI (pc := 60) (as := [.ref 261]) (st := []) dX12_isOwnHere_60 lk_12_286 kd_253 (t_X12_isHere N 261 μ_5) (by omega) rfl (by decide) rfl (fun x6 μ_6 => ?_)
            refine s_if_eq (pc := 63) (tgt := 70) dX12_isOwnHere_63 (by decide) ?_ ?_
            · refine s_iconst (pc := 70) (v := (0 : Int32)) dX12_isOwnHere_70 (by decide) ?_
              exact t_X12_isOwnHere_B71 N (0 : Int32) μ_6
            · exact t_X12_isOwnHere_B66 N μ_6
          · exact t_X12_isOwnHere_B66 N μ_5
        · exact t_X12_isOwnHere_B66 N μ_4
      · exact t_X12_isOwnHere_B66 N μ_3
    · exact t_X12_isOwnHere_B66 N μ_2
  · exact t_X12_isOwnHere_B66 N μ_1
def f_X12_name_B37 (N : Nat)   (μ : z_S) : Option (Int64 × z_S) :=
  z_bn (f_X12_fail N (1 : Int32) (μ.1 253 2) μ) fun _ μ_3 => some ((0 : Int64), μ_3)
theorem t_X12_name_B37 (N : Nat)       (μ : z_S) : z_sim false rJ mX12_name 3 (f_X12_name_B37 N    μ) 37 [(0, .ref 253)] [] μ := by
  unfold f_X12_name_B37
  refine s_aload_n (pc := 37) 0 dX12_name_37 rfl rfl ?_
  refine s_iconst (pc := 38) (v := (1 : Int32)) dX12_name_38 (by decide) ?_
  refine s_aload_n (pc := 39) 0 dX12_name_39 rfl rfl ?_
  refine s_getI (pc := 40) (ci := 12) (k := 2) dX12_name_40 fl_12_269 kd_253 rfl ?_
  refine s_callVV (pc := 43) (as := [.int (1 : Int32), .int (μ.1 253 2)]) (st := []) dX12_name_43 lk_12_293 kd_253 (t_X12_fail N (1 : Int32) (μ.1 253 2) μ) (by omega) rfl (by decide) rfl (fun _ μ_3 => ?_)
  refine s_lconst (pc := 46) (v := (0 : Int64)) dX12_name_46 (by decide) ?_
  exact s_lret (pc := 47) dX12_name_47 rfl
def b_X12_name_L58 (N : Nat) (kb : Int64 → z_S → Option (Int64 × z_S)) (e145 : Int64 → z_S → Option (Int64 × z_S)) (e98 : z_S → Option (Int64 × z_S)) (v1 : Int64) (μ : z_S) : Option (Int64 × z_S) :=
  if (μ.1 253 2) < (μ.1 253 3) then (z_in (μ.1 253 2) 1600 <| z_bn (f_X12_isLetter N (μ.1 254 (μ.1 253 2).toNatClampNeg) μ) fun x4 μ_6 => if x4 = 0 then (e145 v1 μ_6) else if ((μ_6.1 253 2) - (μ_6.1 253 38)) = (6 : Int32) then (e98 μ_6) else z_in (μ_6.1 253 2) 1600 <| z_bd (((((27 : Int64) * v1) + (μ_6.1 254 (μ_6.1 253 2).toNatClampNeg).toInt64) - (97 : Int64)) + (1 : Int64)) fun x5 => z_bd (z_setI μ_6 253 2 ((μ_6.1 253 2) + (1 : Int32))) fun μ_7 => kb x5 μ_7) else e145 v1 μ
theorem tb_X12_name_L58 (N : Nat) (kb : Int64 → z_S → Option (Int64 × z_S)) (e145 : Int64 → z_S → Option (Int64 × z_S)) (e98 : z_S → Option (Int64 × z_S)) (hkb : ∀ (a1 : Int64) (μ : z_S), z_sim false rJ mX12_name 3 (kb a1 μ) 58 [(0, .ref 253), (1, .long a1)] [] μ) (he145 : ∀ (a1 : Int64) (μ : z_S), z_sim false rJ mX12_name 3 (e145 a1 μ) 145 [(0, .ref 253), (1, .long a1)] [] μ) (he98 : ∀ (μ : z_S), z_sim false rJ mX12_name 3 (e98 μ) 98 [(0, .ref 253)] [] μ) (v1 : Int64) (μ : z_S) : z_sim false rJ mX12_name 3 (b_X12_name_L58 N kb e145 e98 v1 μ) 58 [(0, .ref 253), (1, .long v1)] [] μ := by
  unfold b_X12_name_L58
  refine s_aload_n (pc := 58) 0 dX12_name_58 rfl rfl ?_
  refine s_getI (pc := 59) (ci := 12) (k := 2) dX12_name_59 fl_12_269 kd_253 rfl ?_
  refine s_aload_n (pc := 62) 0 dX12_name_62 rfl rfl ?_
  refine s_getI (pc := 63) (ci := 12) (k := 3) dX12_name_63 fl_12_272 kd_253 rfl ?_
  refine s_icmp_ge (pc := 66) (tgt := 145) dX12_name_66 (by decide) ?_ ?_
  · refine s_aload_n (pc := 69) 0 dX12_name_69 rfl rfl ?_
    refine s_getR (pc := 70) (ci := 12) (k := 0) (r := 254) dX12_name_70 fl_12_7 kd_253 rfl rs_253_0 ?_
    refine s_aload_n (pc := 73) 0 dX12_name_73 rfl rfl ?_
    refine s_getI (pc := 74) (ci := 12) (k := 2) dX12_name_74 fl_12_269 kd_253 rfl ?_
    refine s_iald (pc := 77) dX12_name_77 kd_254 ?_
    refine s_callSI (pc := 78) (as := [.int (μ.1 254 (μ.1 253 2).toNatClampNeg)]) (st := []) dX12_name_78 lk_12_279 (t_X12_isLetter N (μ.1 254 (μ.1 253 2).toNatClampNeg) μ) (by omega) rfl (by decide) rfl (fun x4 μ_6 => ?_)
    refine s_if_eq (pc := 81) (tgt := 145) dX12_name_81 (by decide) ?_ ?_
    · exact he145 v1 μ_6
    · refine s_aload_n (pc := 84) 0 dX12_name_84 rfl rfl ?_
      refine s_getI (pc := 85) (ci := 12) (k := 2) dX12_name_85 fl_12_269 kd_253 rfl ?_
      refine s_aload_n (pc := 88) 0 dX12_name_88 rfl rfl ?_
      refine s_getI (pc := 89) (ci := 12) (k := 38) dX12_name_89 fl_12_311 kd_253 rfl ?_
      refine s_isub (pc := 92) dX12_name_92 ?_
      refine s_bipush (pc := 93) (v := (6 : Int32)) dX12_name_93 (by decide) ?_
      refine s_icmp_ne (pc := 95) (tgt := 109) dX12_name_95 (by decide) ?_ ?_
      · refine s_sub (lv' := [(0, .ref 253)]) [0] rfl ?_
        exact he98 μ_6
      · refine s_ldc2 (pc := 109) (v := (27 : Int64)) dX12_name_109 w_1695 ?_
        refine s_lload_n (pc := 112) 1 dX12_name_112 rfl rfl ?_
        refine s_lmul (pc := 113) dX12_name_113 ?_
        refine s_aload_n (pc := 114) 0 dX12_name_114 rfl rfl ?_
        refine s_getR (pc := 115) (ci := 12) (k := 0) (r := 254) dX12_name_115 fl_12_7 kd_253 rfl rs_253_0 ?_
        refine s_aload_n (pc := 118) 0 dX12_name_118 rfl rfl ?_
        refine s_getI (pc := 119) (ci := 12) (k := 2) dX12_name_119 fl_12_269 kd_253 rfl ?_
        refine s_iald (pc := 122) dX12_name_122 kd_254 ?_
        refine s_i2l (pc := 123) dX12_name_123 ?_
        refine s_ladd (pc := 124) dX12_name_124 ?_
        refine s_ldc2 (pc := 125) (v := (97 : Int64)) dX12_name_125 w_1696 ?_
        refine s_lsub (pc := 128) dX12_name_128 ?_
        refine s_lconst (pc := 129) (v := (1 : Int64)) dX12_name_129 (by decide) ?_
        refine s_ladd (pc := 130) dX12_name_130 ?_
        refine s_letJ (fun x5 => ?_)
        refine s_lstore_n (pc := 131) (lv' := [(1, .long x5), (0, .ref 253)]) dX12_name_131 rfl (by decide) rfl ?_
        refine s_aload_n (pc := 132) 1 dX12_name_132 rfl rfl ?_
        refine s_dup (pc := 133) dX12_name_133 rfl ?_
        refine s_getI (pc := 134) (ci := 12) (k := 2) dX12_name_134 fl_12_269 kd_253 rfl ?_
        refine s_iconst (pc := 137) (v := (1 : Int32)) dX12_name_137 (by decide) ?_
        refine s_iadd (pc := 138) dX12_name_138 ?_
        refine s_putI (pc := 139) (ci := 12) (k := 2) dX12_name_139 fl_12_269 kd_253 rfl rfl (fun μ_7 => ?_)
        refine s_goto (pc := 142) (tgt := 58) dX12_name_142 (by decide) ?_
        refine s_sub (lv' := [(0, .ref 253), (1, .long x5)]) [1, 0] rfl ?_
        exact hkb x5 μ_7
  · exact he145 v1 μ
def f_X12_name_L58 (N : Nat) (e145 : Int64 → z_S → Option (Int64 × z_S)) (e98 : z_S → Option (Int64 × z_S)) : Nat → Int64 → z_S → Option (Int64 × z_S)
  | 0, _, _ => none
  | n + 1, v1, μ => b_X12_name_L58 N (f_X12_name_L58 N e145 e98 n) e145 e98 v1 μ
theorem t_X12_name_L58 (N : Nat) (e145 : Int64 → z_S → Option (Int64 × z_S)) (e98 : z_S → Option (Int64 × z_S)) (he145 : ∀ (a1 : Int64) (μ : z_S), z_sim false rJ mX12_name 3 (e145 a1 μ) 145 [(0, .ref 253), (1, .long a1)] [] μ) (he98 : ∀ (μ : z_S), z_sim false rJ mX12_name 3 (e98 μ) 98 [(0, .ref 253)] [] μ) : ∀ (n : Nat) (v1 : Int64) (μ : z_S), z_sim false rJ mX12_name 3 (f_X12_name_L58 N e145 e98 n v1 μ) 58 [(0, .ref 253), (1, .long v1)] [] μ
  | 0, _, _ => s_none
  | n + 1, v1, μ => tb_X12_name_L58 N (f_X12_name_L58 N e145 e98 n) e145 e98 (t_X12_name_L58 N e145 e98 he145 he98 n) he145 he98 v1 μ
def f_X12_name_B145 (N : Nat)  (v1 : Int64) (μ : z_S) : Option (Int64 × z_S) :=
  z_bd (z_setI μ 253 4 (μ.1 253 2)) fun μ_8 => some (v1, μ_8)
theorem t_X12_name_B145 (N : Nat)     (v1 : Int64)  (μ : z_S) : z_sim false rJ mX12_name 3 (f_X12_name_B145 N   v1 μ) 145 [(0, .ref 253), (1, .long v1)] [] μ := by
  unfold f_X12_name_B145
  refine s_aload_n (pc := 145) 0 dX12_name_145 rfl rfl ?_
  refine s_aload_n (pc := 146) 0 dX12_name_146 rfl rfl ?_
  refine s_getI (pc := 147) (ci := 12) (k := 2) dX12_name_147 fl_12_269 kd_253 rfl ?_
  refine s_putI (pc := 150) (ci := 12) (k := 4) dX12_name_150 fl_12_283 kd_253 rfl rfl (fun μ_8 => ?_)
  refine s_lload_n (pc := 153) 1 dX12_name_153 rfl rfl ?_
  exact s_lret (pc := 154) dX12_name_154 rfl
def f_X12_name (N : Nat) (μ : z_S) : Option (Int64 × z_S) :=
  if (μ.1 253 5) = 0 then (z_bn (f_X12_look N μ) fun x1 μ_1 => z_bn (f_X12_isLetter N x1 μ_1) fun x2 μ_2 => if x2 = 0 then (f_X12_name_B37 N μ_2) else if (μ_2.1 253 2) = (μ_2.1 253 4) then (f_X12_name_B37 N μ_2) else z_bn (f_X12_isOwnHere N μ_2) fun x3 μ_4 => if x3 = 0 then (z_bd (z_setI μ_4 253 38 (μ_4.1 253 2)) fun μ_5 => f_X12_name_L58 N (fun y145_1 μ145 => f_X12_name_B145 N y145_1 μ145) (fun μ98 => z_bn (f_X12_fail N (1 : Int32) (μ98.1 253 2) μ98) fun _ μ_9 => some ((0 : Int64), μ_9)) N (0 : Int64) μ_5) else f_X12_name_B37 N μ_4) else some ((0 : Int64), μ)
theorem t_X12_name (N : Nat) (μ : z_S) : z_met false rJ mX12_name 3 [.ref 253] μ (f_X12_name N μ) := by
  refine z_met.of (by decide +kernel) (by show _ ≤ _; first | decide | exact Nat.le_of_ble_eq_true rfl) (lv := [(0, .ref 253)]) rfl ?_
  unfold f_X12_name
  refine s_aload_n (pc := 0) 0 dX12_name_0 rfl rfl ?_
  refine s_getI (pc := 1) (ci := 12) (k := 5) dX12_name_1 fl_12_263 kd_253 rfl ?_
  refine s_if_eq (pc := 4) (tgt := 9) dX12_name_4 (by decide) ?_ ?_
  · refine s_aload_n (pc := 9) 0 dX12_name_9 rfl rfl ?_
    refine s_callVI (pc := 10) (as := []) (st := []) dX12_name_10 lk_12_275 kd_253 (t_X12_look N μ) (by omega) rfl (by decide) rfl (fun x1 μ_1 => ?_)
    refine s_callSI (pc := 13) (as := [.int x1]) (st := []) dX12_name_13 lk_12_279 (t_X12_isLetter N x1 μ_1) (by omega) rfl (by decide) rfl (fun x2 μ_2 => ?_)
    refine s_if_eq (pc := 16) (tgt := 37) dX12_name_16 (by decide) ?_ ?_
    · exact t_X12_name_B37 N μ_2
    · refine s_aload_n (pc := 19) 0 dX12_name_19 rfl rfl ?_
      refine s_getI (pc := 20) (ci := 12) (k := 2) dX12_name_20 fl_12_269 kd_253 rfl ?_
      refine s_aload_n (pc := 23) 0 dX12_name_23 rfl rfl ?_
      refine s_getI (pc := 24) (ci := 12) (k := 4) dX12_name_24 fl_12_283 kd_253 rfl ?_
      refine s_icmp_eq (pc := 27) (tgt := 37) dX12_name_27 (by decide) ?_ ?_
      · exact t_X12_name_B37 N μ_2
      · refine s_aload_n (pc := 30) 0 dX12_name_30 rfl rfl ?_
        refine s_callVI (pc := 31) (as := []) (st := []) dX12_name_31 lk_12_307 kd_253 (t_X12_isOwnHere N μ_2) (by omega) rfl (by decide) rfl (fun x3 μ_4 => ?_)
        refine s_if_eq (pc := 34) (tgt := 48) dX12_name_34 (by decide) ?_ ?_
        · refine s_aload_n (pc := 48) 0 dX12_name_48 rfl rfl ?_
          refine s_aload_n (pc := 49) 0 dX12_name_49 rfl rfl ?_
          refine s_getI (pc := 50) (ci := 12) (k := 2) dX12_name_50 fl_12_269 kd_253 rfl ?_
          refine s_putI (pc := 53) (ci := 12) (k := 38) dX12_name_53 fl_12_311 kd_253 rfl rfl (fun μ_5 => ?_)
          refine s_lconst (pc := 56) (v := (0 : Int64)) dX12_name_56 (by decide) ?_
          refine s_lstore_n (pc := 57) (lv' := [(1, .long (0 : Int64)), (0, .ref 253)]) dX12_name_57 rfl (by decide) rfl ?_
          refine s_sub (lv' := [(0, .ref 253), (1, .long (0 : Int64))]) [1, 0] rfl ?_
          refine t_X12_name_L58 N _ _ ?_ ?_ N (0 : Int64) μ_5
          · intro y145_1 μ145
            exact t_X12_name_B145 N y145_1 μ145
          · intro μ98
            refine s_aload_n (pc := 98) 0 dX12_name_98 rfl rfl ?_
            refine s_iconst (pc := 99) (v := (1 : Int32)) dX12_name_99 (by decide) ?_
            refine s_aload_n (pc := 100) 0 dX12_name_100 rfl rfl ?_
            refine s_getI (pc := 101) (ci := 12) (k := 2) dX12_name_101 fl_12_269 kd_253 rfl ?_
            refine s_callVV (pc := 104) (as := [.int (1 : Int32), .int (μ98.1 253 2)]) (st := []) dX12_name_104 lk_12_293 kd_253 (t_X12_fail N (1 : Int32) (μ98.1 253 2) μ98) (by omega) rfl (by decide) rfl (fun _ μ_9 => ?_)
            refine s_lconst (pc := 107) (v := (0 : Int64)) dX12_name_107 (by decide) ?_
            exact s_lret (pc := 108) dX12_name_108 rfl
        · exact t_X12_name_B37 N μ_4
  · refine s_lconst (pc := 7) (v := (0 : Int64)) dX12_name_7 (by decide) ?_
    exact s_lret (pc := 8) dX12_name_8 rfl
def f_X12_isAllowed (N : Nat) (a1 : Int32) (μ : z_S) : Option (Int32 × z_S) :=
  if (μ.1 253 53) = 0 then (if a1 = (3 : Int32) then (some ((0 : Int32), μ)) else some ((1 : Int32), μ)) else if a1 < (6 : Int32) then (some ((1 : Int32), μ)) else some ((0 : Int32), μ)
theorem t_X12_isAllowed (N : Nat) (a1 : Int32) (μ : z_S) : z_met false rI mX12_isAllowed 0 [.ref 253, .int a1] μ (f_X12_isAllowed N a1 μ) := by
  refine z_met.of (by decide +kernel) (by show _ ≤ _; first | decide | exact Nat.le_of_ble_eq_true rfl) (lv := [(0, .ref 253), (1, .int a1)]) rfl ?_
  unfold f_X12_isAllowed
  refine s_aload_n (pc := 0) 0 dX12_isAllowed_0 rfl rfl ?_
  refine s_getI (pc := 1) (ci := 12) (k := 53) dX12_isAllowed_1 fl_12_318 kd_253 rfl ?_
  refine s_if_eq (pc := 4) (tgt := 21) dX12_isAllowed_4 (by decide) ?_ ?_
  · refine s_iload_n (pc := 21) 1 dX12_isAllowed_21 rfl rfl ?_
    refine s_iconst (pc := 22) (v := (3 : Int32)) dX12_isAllowed_22 (by decide) ?_
    refine s_icmp_eq (pc := 23) (tgt := 30) dX12_isAllowed_23 (by decide) ?_ ?_
    · refine s_iconst (pc := 30) (v := (0 : Int32)) dX12_isAllowed_30 (by decide) ?_
      exact s_zret0 (pc := 31) dX12_isAllowed_31 rfl rfl
    · refine s_iconst (pc := 26) (v := (1 : Int32)) dX12_isAllowed_26 (by decide) ?_
      refine s_goto (pc := 27) (tgt := 31) dX12_isAllowed_27 (by decide) ?_
      exact s_zret0 (pc := 31) dX12_isAllowed_31 rfl rfl
  · refine s_iload_n (pc := 7) 1 dX12_isAllowed_7 rfl rfl ?_
    refine s_bipush (pc := 8) (v := (6 : Int32)) dX12_isAllowed_8 (by decide) ?_
    refine s_icmp_ge (pc := 10) (tgt := 17) dX12_isAllowed_10 (by decide) ?_ ?_
    · refine s_iconst (pc := 13) (v := (1 : Int32)) dX12_isAllowed_13 (by decide) ?_
      refine s_goto (pc := 14) (tgt := 31) dX12_isAllowed_14 (by decide) ?_
      exact s_zret0 (pc := 31) dX12_isAllowed_31 rfl rfl
    · refine s_iconst (pc := 17) (v := (0 : Int32)) dX12_isAllowed_17 (by decide) ?_
      refine s_goto (pc := 18) (tgt := 31) dX12_isAllowed_18 (by decide) ?_
      exact s_zret0 (pc := 31) dX12_isAllowed_31 rfl rfl
def f_X12_isFull_B23 (N : Nat)   (μ : z_S) : Option (Int32 × z_S) :=
  if (μ.1 253 5) = 0 then (some ((0 : Int32), μ)) else some ((1 : Int32), μ)
theorem t_X12_isFull_B23 (N : Nat)       (μ : z_S) : z_sim false rI mX12_isFull 1 (f_X12_isFull_B23 N    μ) 23 [(0, .ref 253)] [] μ := by
  unfold f_X12_isFull_B23
  refine s_aload_n (pc := 23) 0 dX12_isFull_23 rfl rfl ?_
  refine s_getI (pc := 24) (ci := 12) (k := 5) dX12_isFull_24 fl_12_263 kd_253 rfl ?_
  refine s_if_eq (pc := 27) (tgt := 34) dX12_isFull_27 (by decide) ?_ ?_
  · refine s_iconst (pc := 34) (v := (0 : Int32)) dX12_isFull_34 (by decide) ?_
    exact s_zret0 (pc := 35) dX12_isFull_35 rfl rfl
  · refine s_iconst (pc := 30) (v := (1 : Int32)) dX12_isFull_30 (by decide) ?_
    refine s_goto (pc := 31) (tgt := 35) dX12_isFull_31 (by decide) ?_
    exact s_zret0 (pc := 35) dX12_isFull_35 rfl rfl
def f_X12_isFull (N : Nat) (a1 : Int32) (a2 : Int32) (a3 : Int32) (μ : z_S) : Option (Int32 × z_S) :=
  if (μ.1 253 5) = 0 then (z_in a1 10 <| if (μ.1 284 a1.toNatClampNeg) = a2 then (z_bn (f_X12_fail N (5 : Int32) a3 μ) fun _ μ_1 => f_X12_isFull_B23 N μ_1) else f_X12_isFull_B23 N μ) else f_X12_isFull_B23 N μ
theorem t_X12_isFull (N : Nat) (a1 : Int32) (a2 : Int32) (a3 : Int32) (μ : z_S) : z_met false rI mX12_isFull 1 [.ref 253, .int a1, .int a2, .int a3] μ (f_X12_isFull N a1 a2 a3 μ) := by
  refine z_met.of (by decide +kernel) (by show _ ≤ _; first | decide | exact Nat.le_of_ble_eq_true rfl) (lv := [(0, .ref 253), (1, .int a1), (2, .int a2), (3, .int a3)]) rfl ?_
  unfold f_X12_isFull
  refine s_aload_n (pc := 0) 0 dX12_isFull_0 rfl rfl ?_
  refine s_getI (pc := 1) (ci := 12) (k := 5) dX12_isFull_1 fl_12_263 kd_253 rfl ?_
  refine s_if_ne (pc := 4) (tgt := 23) dX12_isFull_4 (by decide) ?_ ?_
  · refine s_aload_n (pc := 7) 0 dX12_isFull_7 rfl rfl ?_
    refine s_getR (pc := 8) (ci := 12) (k := 39) (r := 284) dX12_isFull_8 fl_12_105 kd_253 rfl rs_253_39 ?_
    refine s_iload_n (pc := 11) 1 dX12_isFull_11 rfl rfl ?_
    refine s_iald (pc := 12) dX12_isFull_12 kd_284 ?_
    refine s_iload_n (pc := 13) 2 dX12_isFull_13 rfl rfl ?_
    refine s_icmp_ne (pc := 14) (tgt := 23) dX12_isFull_14 (by decide) ?_ ?_
    · refine s_aload_n (pc := 17) 0 dX12_isFull_17 rfl rfl ?_
      refine s_iconst (pc := 18) (v := (5 : Int32)) dX12_isFull_18 (by decide) ?_
      refine s_iload_n (pc := 19) 3 dX12_isFull_19 rfl rfl ?_
      refine s_callVV (pc := 20) (as := [.int (5 : Int32), .int a3]) (st := []) dX12_isFull_20 lk_12_293 kd_253 (t_X12_fail N (5 : Int32) a3 μ) (by omega) rfl (by decide) rfl (fun _ μ_1 => ?_)
      refine s_sub (lv' := [(0, .ref 253)]) [0] rfl ?_
      exact t_X12_isFull_B23 N μ_1
    · refine s_sub (lv' := [(0, .ref 253)]) [0] rfl ?_
      exact t_X12_isFull_B23 N μ
  · refine s_sub (lv' := [(0, .ref 253)]) [0] rfl ?_
    exact t_X12_isFull_B23 N μ
def b_X12_nameOf_L3 (N : Nat) (c1 : Int32) (c2 : Int64) (kb : Int32 → z_S → Option (Int32 × z_S)) (v4 : Int32) (μ : z_S) : Option (Int32 × z_S) :=
  z_in c1 10 <| if v4 < (μ.1 284 c1.toNatClampNeg) then (z_in (((8 : Int32) * c1) + v4) 48 <| if (μ.2.1 285 (((8 : Int32) * c1) + v4).toNatClampNeg) = c2 then (some (v4, μ)) else z_bd (v4 + 1) fun x1 => kb x1 μ) else some ((-1 : Int32), μ)
theorem tb_X12_nameOf_L3 (N : Nat) (c1 : Int32) (c2 : Int64) (kb : Int32 → z_S → Option (Int32 × z_S)) (hkb : ∀ (a4 : Int32) (μ : z_S), z_sim false rI mX12_nameOf 0 (kb a4 μ) 3 [(0, .ref 253), (1, .int c1), (2, .long c2), (4, .int a4)] [] μ) (v4 : Int32) (μ : z_S) : z_sim false rI mX12_nameOf 0 (b_X12_nameOf_L3 N c1 c2 kb v4 μ) 3 [(0, .ref 253), (1, .int c1), (2, .long c2), (4, .int v4)] [] μ := by
  unfold b_X12_nameOf_L3
  refine s_iload (pc := 3) 3 dX12_nameOf_3 rfl ?_
  refine s_aload_n (pc := 5) 0 dX12_nameOf_5 rfl rfl ?_
  refine s_getR (pc := 6) (ci := 12) (k := 39) (r := 284) dX12_nameOf_6 fl_12_105 kd_253 rfl rs_253_39 ?_
  refine s_iload_n (pc := 9) 1 dX12_nameOf_9 rfl rfl ?_
  refine s_iald (pc := 10) dX12_nameOf_10 kd_284 ?_
  refine s_icmp_ge (pc := 11) (tgt := 40) dX12_nameOf_11 (by decide) ?_ ?_
  · refine s_aload_n (pc := 14) 0 dX12_nameOf_14 rfl rfl ?_
    refine s_getR (pc := 15) (ci := 12) (k := 40) (r := 285) dX12_nameOf_15 fl_12_108 kd_253 rfl rs_253_40 ?_
    refine s_bipush (pc := 18) (v := (8 : Int32)) dX12_nameOf_18 (by decide) ?_
    refine s_iload_n (pc := 20) 1 dX12_nameOf_20 rfl rfl ?_
    refine s_imul (pc := 21) dX12_nameOf_21 ?_
    refine s_iload (pc := 22) 3 dX12_nameOf_22 rfl ?_
    refine s_iadd (pc := 24) dX12_nameOf_24 ?_
    refine s_lald (pc := 25) dX12_nameOf_25 kd_285 ?_
    refine s_lload_n (pc := 26) 2 dX12_nameOf_26 rfl rfl ?_
    refine s_lcmp_ne (pc := 27) (tgt := 34) dX12_nameOf_27 dX12_nameOf_28 (by decide) ?_ ?_
    · refine s_iload (pc := 31) 3 dX12_nameOf_31 rfl ?_
      exact s_iret (pc := 33) rfl dX12_nameOf_33 rfl
    · refine s_iincB (pc := 34) (lv' := fun x1 => [(4, .int x1), (0, .ref 253), (1, .int c1), (2, .long c2)]) (c := 1) 3 dX12_nameOf_34 rfl (by decide) (by decide) (fun _ => rfl) (fun x1 => ?_)
      refine s_goto (pc := 37) (tgt := 3) dX12_nameOf_37 (by decide) ?_
      refine s_sub (lv' := [(0, .ref 253), (1, .int c1), (2, .long c2), (4, .int x1)]) [1, 2, 3, 0] rfl ?_
      exact hkb x1 μ
  · refine s_iconst (pc := 40) (v := (-1 : Int32)) dX12_nameOf_40 (by decide) ?_
    exact s_iret (pc := 41) rfl dX12_nameOf_41 rfl
def f_X12_nameOf_L3 (N : Nat) (c1 : Int32) (c2 : Int64) : Nat → Int32 → z_S → Option (Int32 × z_S)
  | 0, _, _ => none
  | n + 1, v4, μ => b_X12_nameOf_L3 N c1 c2 (f_X12_nameOf_L3 N c1 c2 n) v4 μ
theorem t_X12_nameOf_L3 (N : Nat) (c1 : Int32) (c2 : Int64) : ∀ (n : Nat) (v4 : Int32) (μ : z_S), z_sim false rI mX12_nameOf 0 (f_X12_nameOf_L3 N c1 c2 n v4 μ) 3 [(0, .ref 253), (1, .int c1), (2, .long c2), (4, .int v4)] [] μ
  | 0, _, _ => s_none
  | n + 1, v4, μ => tb_X12_nameOf_L3 N c1 c2 (f_X12_nameOf_L3 N c1 c2 n) (t_X12_nameOf_L3 N c1 c2 n) v4 μ
def f_X12_nameOf (N : Nat) (a1 : Int32) (a2 : Int64) (μ : z_S) : Option (Int32 × z_S) :=
  f_X12_nameOf_L3 N a1 a2 N (0 : Int32) μ
theorem t_X12_nameOf (N : Nat) (a1 : Int32) (a2 : Int64) (μ : z_S) : z_met false rI mX12_nameOf 0 [.ref 253, .int a1, .long a2] μ (f_X12_nameOf N a1 a2 μ) := by
  refine z_met.of (by decide +kernel) (by show _ ≤ _; first | decide | exact Nat.le_of_ble_eq_true rfl) (lv := [(0, .ref 253), (1, .int a1), (2, .long a2)]) rfl ?_
  unfold f_X12_nameOf
  refine s_iconst (pc := 0) (v := (0 : Int32)) dX12_nameOf_0 (by decide) ?_
  refine s_istore (pc := 1) (lv' := [(4, .int (0 : Int32)), (0, .ref 253), (1, .int a1), (2, .long a2)]) dX12_nameOf_1 (by decide) rfl ?_
  refine s_sub (lv' := [(0, .ref 253), (1, .int a1), (2, .long a2), (4, .int (0 : Int32))]) [1, 2, 3, 0] rfl ?_
  refine t_X12_nameOf_L3 N a1 a2 N (0 : Int32) μ
def f_X12_newName_B38 (N : Nat) (c1 : Int64) (kb : Int32 → z_S → Option (Int64 × z_S)) (v3 : Int32) (μ : z_S) : Option (Int64 × z_S) :=
  z_bd (v3 + 1) fun x3 => kb x3 μ
theorem t_X12_newName_B38 (N : Nat) (c1 : Int64)  (kb : Int32 → z_S → Option (Int64 × z_S)) (hkb : ∀ (a3 : Int32) (μ : z_S), z_sim false rJ mX12_newName 4 (kb a3 μ) 7 [(0, .ref 253), (1, .long c1), (3, .int a3)] [] μ) (v3 : Int32)  (μ : z_S) : z_sim false rJ mX12_newName 4 (f_X12_newName_B38 N c1 kb v3 μ) 38 [(0, .ref 253), (1, .long c1), (3, .int v3)] [] μ := by
  unfold f_X12_newName_B38
  refine s_iincB (pc := 38) (lv' := fun x3 => [(3, .int x3), (0, .ref 253), (1, .long c1)]) (c := 1) 2 dX12_newName_38 rfl (by decide) (by decide) (fun _ => rfl) (fun x3 => ?_)
  refine s_goto (pc := 41) (tgt := 7) dX12_newName_41 (by decide) ?_
  refine s_sub (lv' := [(0, .ref 253), (1, .long c1), (3, .int x3)]) [1, 2, 0] rfl ?_
  exact hkb x3 μ
def b_X12_newName_L7 (N : Nat) (c1 : Int64) (kb : Int32 → z_S → Option (Int64 × z_S)) (v3 : Int32) (μ : z_S) : Option (Int64 × z_S) :=
  if v3 < (3 : Int32) then (if (μ.1 253 5) = 0 then (z_bn (f_X12_nameOf N v3 c1 μ) fun x2 μ_2 => if x2 = (-1 : Int32) then (f_X12_newName_B38 N c1 kb v3 μ_2) else z_bn (f_X12_fail N (3 : Int32) (μ_2.1 253 38) μ_2) fun _ μ_3 => f_X12_newName_B38 N c1 kb v3 μ_3) else f_X12_newName_B38 N c1 kb v3 μ) else some (c1, μ)
theorem tb_X12_newName_L7 (N : Nat) (c1 : Int64) (kb : Int32 → z_S → Option (Int64 × z_S)) (hkb : ∀ (a3 : Int32) (μ : z_S), z_sim false rJ mX12_newName 4 (kb a3 μ) 7 [(0, .ref 253), (1, .long c1), (3, .int a3)] [] μ) (v3 : Int32) (μ : z_S) : z_sim false rJ mX12_newName 4 (b_X12_newName_L7 N c1 kb v3 μ) 7 [(0, .ref 253), (1, .long c1), (3, .int v3)] [] μ := by
  unfold b_X12_newName_L7
  refine s_iload_n (pc := 7) 2 dX12_newName_7 rfl rfl ?_
  refine s_iconst (pc := 8) (v := (3 : Int32)) dX12_newName_8 (by decide) ?_
  refine s_icmp_ge (pc := 9) (tgt := 44) dX12_newName_9 (by decide) ?_ ?_
  · refine s_aload_n (pc := 12) 0 dX12_newName_12 rfl rfl ?_
    refine s_getI (pc := 13) (ci := 12) (k := 5) dX12_newName_13 fl_12_263 kd_253 rfl ?_
    refine s_if_ne (pc := 16) (tgt := 38) dX12_newName_16 (by decide) ?_ ?_
    · refine s_aload_n (pc := 19) 0 dX12_newName_19 rfl rfl ?_
      refine s_iload_n (pc := 20) 2 dX12_newName_20 rfl rfl ?_
      refine s_lload_n (pc := 21) 1 dX12_newName_21 rfl rfl ?_
      refine s_callVI (pc := 22) (as := [.int v3, .long c1]) (st := []) dX12_newName_22 lk_12_326 kd_253 (t_X12_nameOf N v3 c1 μ) (by omega) rfl (by decide) rfl (fun x2 μ_2 => ?_)
      refine s_iconst (pc := 25) (v := (-1 : Int32)) dX12_newName_25 (by decide) ?_
      refine s_icmp_eq (pc := 26) (tgt := 38) dX12_newName_26 (by decide) ?_ ?_
      · exact t_X12_newName_B38 N c1 kb hkb v3 μ_2
      · refine s_aload_n (pc := 29) 0 dX12_newName_29 rfl rfl ?_
        refine s_iconst (pc := 30) (v := (3 : Int32)) dX12_newName_30 (by decide) ?_
        refine s_aload_n (pc := 31) 0 dX12_newName_31 rfl rfl ?_
        refine s_getI (pc := 32) (ci := 12) (k := 38) dX12_newName_32 fl_12_311 kd_253 rfl ?_
        refine s_callVV (pc := 35) (as := [.int (3 : Int32), .int (μ_2.1 253 38)]) (st := []) dX12_newName_35 lk_12_293 kd_253 (t_X12_fail N (3 : Int32) (μ_2.1 253 38) μ_2) (by omega) rfl (by decide) rfl (fun _ μ_3 => ?_)
        exact t_X12_newName_B38 N c1 kb hkb v3 μ_3
    · exact t_X12_newName_B38 N c1 kb hkb v3 μ
  · refine s_lload_n (pc := 44) 1 dX12_newName_44 rfl rfl ?_
    exact s_lret (pc := 45) dX12_newName_45 rfl
def f_X12_newName_L7 (N : Nat) (c1 : Int64) : Nat → Int32 → z_S → Option (Int64 × z_S)
  | 0, _, _ => none
  | n + 1, v3, μ => b_X12_newName_L7 N c1 (f_X12_newName_L7 N c1 n) v3 μ
theorem t_X12_newName_L7 (N : Nat) (c1 : Int64) : ∀ (n : Nat) (v3 : Int32) (μ : z_S), z_sim false rJ mX12_newName 4 (f_X12_newName_L7 N c1 n v3 μ) 7 [(0, .ref 253), (1, .long c1), (3, .int v3)] [] μ
  | 0, _, _ => s_none
  | n + 1, v3, μ => tb_X12_newName_L7 N c1 (f_X12_newName_L7 N c1 n) (t_X12_newName_L7 N c1 n) v3 μ
def f_X12_newName (N : Nat) (μ : z_S) : Option (Int64 × z_S) :=
  z_bn (f_X12_name N μ) fun x1 μ_1 => f_X12_newName_L7 N x1 N (0 : Int32) μ_1
theorem t_X12_newName (N : Nat) (μ : z_S) : z_met false rJ mX12_newName 4 [.ref 253] μ (f_X12_newName N μ) := by
  refine z_met.of (by decide +kernel) (by show _ ≤ _; first | decide | exact Nat.le_of_ble_eq_true rfl) (lv := [(0, .ref 253)]) rfl ?_
  unfold f_X12_newName
  refine s_aload_n (pc := 0) 0 dX12_newName_0 rfl rfl ?_
  refine s_callVJ (pc := 1) (as := []) (st := []) dX12_newName_1 lk_12_322 kd_253 (t_X12_name N μ) (by omega) rfl (by decide) rfl (fun x1 μ_1 => ?_)
  refine s_lstore_n (pc := 4) (lv' := [(1, .long x1), (0, .ref 253)]) dX12_newName_4 rfl (by decide) rfl ?_
  refine s_iconst (pc := 5) (v := (0 : Int32)) dX12_newName_5 (by decide) ?_
  refine s_istore_n (pc := 6) (lv' := [(3, .int (0 : Int32)), (1, .long x1), (0, .ref 253)]) dX12_newName_6 rfl (by decide) rfl ?_
  refine s_sub (lv' := [(0, .ref 253), (1, .long x1), (3, .int (0 : Int32))]) [2, 1, 0] rfl ?_
  refine t_X12_newName_L7 N x1 N (0 : Int32) μ_1
def f_X12_oneOf_B35 (N : Nat)  (v4 : Int32) (μ : z_S) : Option (Int32 × z_S) :=
  if (μ.1 253 5) = 0 then (some (v4, μ)) else some ((0 : Int32), μ)
theorem t_X12_oneOf_B35 (N : Nat)     (v4 : Int32)  (μ : z_S) : z_sim false rI mX12_oneOf 4 (f_X12_oneOf_B35 N   v4 μ) 35 [(0, .ref 253), (4, .int v4)] [] μ := by
  unfold f_X12_oneOf_B35
  refine s_aload_n (pc := 35) 0 dX12_oneOf_35 rfl rfl ?_
  refine s_getI (pc := 36) (ci := 12) (k := 5) dX12_oneOf_36 fl_12_263 kd_253 rfl ?_
  refine s_if_ne (pc := 39) (tgt := 47) dX12_oneOf_39 (by decide) ?_ ?_
  · refine s_iload (pc := 42) 1 dX12_oneOf_42 rfl ?_
    refine s_goto (pc := 44) (tgt := 48) dX12_oneOf_44 (by decide) ?_
    exact s_iret (pc := 48) rfl dX12_oneOf_48 rfl
  · refine s_iconst (pc := 47) (v := (0 : Int32)) dX12_oneOf_47 (by decide) ?_
    exact s_iret (pc := 48) rfl dX12_oneOf_48 rfl
def f_X12_oneOf (N : Nat) (a1 : Int32) (μ : z_S) : Option (Int32 × z_S) :=
  z_bn (f_X12_name N μ) fun x1 μ_1 => z_bn (f_X12_nameOf N a1 x1 μ_1) fun x2 μ_2 => if (μ_2.1 253 5) = 0 then (if x2 = (-1 : Int32) then (z_bn (f_X12_fail N (3 : Int32) (μ_2.1 253 38) μ_2) fun _ μ_3 => f_X12_oneOf_B35 N x2 μ_3) else f_X12_oneOf_B35 N x2 μ_2) else f_X12_oneOf_B35 N x2 μ_2
theorem t_X12_oneOf (N : Nat) (a1 : Int32) (μ : z_S) : z_met false rI mX12_oneOf 4 [.ref 253, .int a1] μ (f_X12_oneOf N a1 μ) := by
  refine z_met.of (by decide +kernel) (by show _ ≤ _; first | decide | exact Nat.le_of_ble_eq_true rfl) (lv := [(0, .ref 253), (1, .int a1)]) rfl ?_
  unfold f_X12_oneOf
  refine s_aload_n (pc := 0) 0 dX12_oneOf_0 rfl rfl ?_
  refine s_callVJ (pc := 1) (as := []) (st := []) dX12_oneOf_1 lk_12_322 kd_253 (t_X12_name N μ) (by omega) rfl (by decide) rfl (fun x1 μ_1 => ?_)
  refine s_lstore_n (pc := 4) (lv' := [(2, .long x1), (0, .ref 253), (1, .int a1)]) dX12_oneOf_4 rfl (by decide) rfl ?_
  refine s_aload_n (pc := 5) 1 dX12_oneOf_5 rfl rfl ?_
  refine s_iload_n (pc := 6) 2 dX12_oneOf_6 rfl rfl ?_
  refine s_lload_n (pc := 7) 0 dX12_oneOf_7 rfl rfl ?_
  refine s_callVI (pc := 8) (as := [.int a1, .long x1]) (st := []) dX12_oneOf_8 lk_12_326 kd_253 (t_X12_nameOf N a1 x1 μ_1) (by omega) rfl (by decide) rfl (fun x2 μ_2 => ?_)
  refine s_istore (pc := 11) (lv' := [(4, .int x2), (2, .long x1), (0, .ref 253), (1, .int a1)]) dX12_oneOf_11 (by decide) rfl ?_
  refine s_aload_n (pc := 13) 2 dX12_oneOf_13 rfl rfl ?_
  refine s_getI (pc := 14) (ci := 12) (k := 5) dX12_oneOf_14 fl_12_263 kd_253 rfl ?_
  refine s_if_ne (pc := 17) (tgt := 35) dX12_oneOf_17 (by decide) ?_ ?_
  · refine s_iload (pc := 20) 0 dX12_oneOf_20 rfl ?_
    refine s_iconst (pc := 22) (v := (-1 : Int32)) dX12_oneOf_22 (by decide) ?_
    refine s_icmp_ne (pc := 23) (tgt := 35) dX12_oneOf_23 (by decide) ?_ ?_
    · refine s_aload_n (pc := 26) 2 dX12_oneOf_26 rfl rfl ?_
      refine s_iconst (pc := 27) (v := (3 : Int32)) dX12_oneOf_27 (by decide) ?_
      refine s_aload_n (pc := 28) 2 dX12_oneOf_28 rfl rfl ?_
      refine s_getI (pc := 29) (ci := 12) (k := 38) dX12_oneOf_29 fl_12_311 kd_253 rfl ?_
      refine s_callVV (pc := 32) (as := [.int (3 : Int32), .int (μ_2.1 253 38)]) (st := []) dX12_oneOf_32 lk_12_293 kd_253 (t_X12_fail N (3 : Int32) (μ_2.1 253 38) μ_2) (by omega) rfl (by decide) rfl (fun _ μ_3 => ?_)
      refine s_sub (lv' := [(0, .ref 253), (4, .int x2)]) [2, 0] rfl ?_
      exact t_X12_oneOf_B35 N x2 μ_3
    · refine s_sub (lv' := [(0, .ref 253), (4, .int x2)]) [2, 0] rfl ?_
      exact t_X12_oneOf_B35 N x2 μ_2
  · refine s_sub (lv' := [(0, .ref 253), (4, .int x2)]) [2, 0] rfl ?_
    exact t_X12_oneOf_B35 N x2 μ_2
def f_X12_adds (N : Nat) (a1 : Int32) (a2 : Int64) (μ : z_S) : Option (Int32 × z_S) :=
  z_in a1 10 <| z_in (((8 : Int32) * a1) + (μ.1 284 a1.toNatClampNeg)) 48 <| z_bd (z_setJ μ 285 (((8 : Int32) * a1) + (μ.1 284 a1.toNatClampNeg)).toNatClampNeg a2) fun μ_1 => z_in a1 10 <| z_in a1 10 <| z_bd (z_setI μ_1 284 a1.toNatClampNeg ((μ_1.1 284 a1.toNatClampNeg) + (1 : Int32))) fun μ_2 => z_in a1 10 <| some (((μ_2.1 284 a1.toNatClampNeg) - (1 : Int32)), μ_2)
theorem t_X12_adds (N : Nat) (a1 : Int32) (a2 : Int64) (μ : z_S) : z_met false rI mX12_adds 0 [.ref 253, .int a1, .long a2] μ (f_X12_adds N a1 a2 μ) := by
  refine z_met.of (by decide +kernel) (by show _ ≤ _; first | decide | exact Nat.le_of_ble_eq_true rfl) (lv := [(0, .ref 253), (1, .int a1), (2, .long a2)]) rfl ?_
  unfold f_X12_adds
  refine s_aload_n (pc := 0) 0 dX12_adds_0 rfl rfl ?_
  refine s_getR (pc := 1) (ci := 12) (k := 40) (r := 285) dX12_adds_1 fl_12_108 kd_253 rfl rs_253_40 ?_
  refine s_bipush (pc := 4) (v := (8 : Int32)) dX12_adds_4 (by decide) ?_
  refine s_iload_n (pc := 6) 1 dX12_adds_6 rfl rfl ?_
  refine s_imul (pc := 7) dX12_adds_7 ?_
  refine s_aload_n (pc := 8) 0 dX12_adds_8 rfl rfl ?_
  refine s_getR (pc := 9) (ci := 12) (k := 39) (r := 284) dX12_adds_9 fl_12_105 kd_253 rfl rs_253_39 ?_
  refine s_iload_n (pc := 12) 1 dX12_adds_12 rfl rfl ?_
  refine s_iald (pc := 13) dX12_adds_13 kd_284 ?_
  refine s_iadd (pc := 14) dX12_adds_14 ?_
  refine s_lload_n (pc := 15) 2 dX12_adds_15 rfl rfl ?_
  refine s_last (pc := 16) dX12_adds_16 kd_285 (fun μ_1 => ?_)
  refine s_aload_n (pc := 17) 0 dX12_adds_17 rfl rfl ?_
  refine s_getR (pc := 18) (ci := 12) (k := 39) (r := 284) dX12_adds_18 fl_12_105 kd_253 rfl rs_253_39 ?_
  refine s_iload_n (pc := 21) 1 dX12_adds_21 rfl rfl ?_
  refine s_dup2 (pc := 22) dX12_adds_22 rfl rfl ?_
  refine s_iald (pc := 23) dX12_adds_23 kd_284 ?_
  refine s_iconst (pc := 24) (v := (1 : Int32)) dX12_adds_24 (by decide) ?_
  refine s_iadd (pc := 25) dX12_adds_25 ?_
  refine s_iast (pc := 26) dX12_adds_26 kd_284 (fun μ_2 => ?_)
  refine s_aload_n (pc := 27) 0 dX12_adds_27 rfl rfl ?_
  refine s_getR (pc := 28) (ci := 12) (k := 39) (r := 284) dX12_adds_28 fl_12_105 kd_253 rfl rs_253_39 ?_
  refine s_iload_n (pc := 31) 1 dX12_adds_31 rfl rfl ?_
  refine s_iald (pc := 32) dX12_adds_32 kd_284 ?_
  refine s_iconst (pc := 33) (v := (1 : Int32)) dX12_adds_33 (by decide) ?_
  refine s_isub (pc := 34) dX12_adds_34 ?_
  exact s_iret (pc := 35) rfl dX12_adds_35 rfl
def f_X12_letterTold (N : Nat) (a1 : Int32) (μ : z_S) : Option (Unit × z_S) :=
  z_bn (f_X12_isFull N (0 : Int32) (8 : Int32) a1 μ) fun x1 μ_1 => if x1 = 0 then (z_bn (f_X12_newName N μ_1) fun x2 μ_2 => z_bn (f_X12_asks N 257 μ_2) fun _ μ_3 => z_bn (f_X12_number N (0 : Int32) (20 : Int32) μ_3) fun x3 μ_4 => z_bn (f_X12_asks N 258 μ_4) fun _ μ_5 => z_bn (f_X12_number N (0 : Int32) (9 : Int32) μ_5) fun x4 μ_6 => z_bn (f_X12_asks N 259 μ_6) fun _ μ_7 => z_bn (f_X12_number N (0 : Int32) (10 : Int32) μ_7) fun x5 μ_8 => if (μ_8.1 253 5) = 0 then (z_bn (f_X12_adds N (0 : Int32) x2 μ_8) fun x6 μ_9 => z_bd ((3 : Int32) * x6) fun x7 => z_in x7 48 <| z_bd (z_setI μ_9 286 x7.toNatClampNeg x3) fun μ_10 => z_in (x7 + (1 : Int32)) 48 <| z_bd (z_setI μ_10 286 (x7 + (1 : Int32)).toNatClampNeg x4) fun μ_11 => z_in (x7 + (2 : Int32)) 48 <| z_bd (z_setI μ_11 286 (x7 + (2 : Int32)).toNatClampNeg x5) fun μ_12 => some ((), μ_12)) else some ((), μ_8)) else some ((), μ_1)
theorem t_X12_letterTold (N : Nat) (a1 : Int32) (μ : z_S) : z_met false rV mX12_letterTold 5 [.ref 253, .int a1] μ (f_X12_letterTold N a1 μ) := by
  refine z_met.of (by decide +kernel) (by show _ ≤ _; first | decide | exact Nat.le_of_ble_eq_true rfl) (lv := [(0, .ref 253), (1, .int a1)]) rfl ?_
  unfold f_X12_letterTold
  refine s_aload_n (pc := 0) 0 dX12_letterTold_0 rfl rfl ?_
  refine s_iconst (pc := 1) (v := (0 : Int32)) dX12_letterTold_1 (by decide) ?_
  refine s_bipush (pc := 2) (v := (8 : Int32)) dX12_letterTold_2 (by decide) ?_
  refine s_iload_n (pc := 4) 1 dX12_letterTold_4 rfl rfl ?_
  refine s_callVI (pc := 5) (as := [.int (0 : Int32), .int (8 : Int32), .int a1]) (st := []) dX12_letterTold_5 lk_12_330 kd_253 (t_X12_isFull N (0 : Int32) (8 : Int32) a1 μ) (by omega) rfl (by decide) rfl (fun x1 μ_1 => ?_)
  refine s_if_eq (pc := 8) (tgt := 12) dX12_letterTold_8 (by decide) ?_ ?_
  · refine s_aload_n (pc := 12) 0 dX12_letterTold_12 rfl rfl ?_
    refine s_callVJ (pc := 13) (as := []) (st := []) dX12_letterTold_13 lk_12_334 kd_253 (t_X12_newName N μ_1) (by omega) rfl (by decide) rfl (fun x2 μ_2 => ?_)
    refine s_lstore_n (pc := 16) (lv' := [(2, .long x2), (0, .ref 253), (1, .int a1)]) dX12_letterTold_16 rfl (by decide) rfl ?_
    refine s_aload_n (pc := 17) 1 dX12_letterTold_17 rfl rfl ?_
    refine s_aload_n (pc := 18) 1 dX12_letterTold_18 rfl rfl ?_
    refine s_getR (pc := 19) (ci := 12) (k := 11) (r := 257) dX12_letterTold_19 fl_12_24 kd_253 rfl rs_253_11 ?_
    refine s_callVV (pc := 22) (as := [.ref 257]) (st := []) dX12_letterTold_22 lk_12_337 kd_253 (t_X12_asks N 257 μ_2) (by omega) rfl (by decide) rfl (fun _ μ_3 => ?_)
    refine s_aload_n (pc := 25) 1 dX12_letterTold_25 rfl rfl ?_
    refine s_iconst (pc := 26) (v := (0 : Int32)) dX12_letterTold_26 (by decide) ?_
    refine s_bipush (pc := 27) (v := (20 : Int32)) dX12_letterTold_27 (by decide) ?_
    refine s_callVI (pc := 29) (as := [.int (0 : Int32), .int (20 : Int32)]) (st := []) dX12_letterTold_29 lk_12_341 kd_253 (t_X12_number N (0 : Int32) (20 : Int32) μ_3) (by omega) rfl (by decide) rfl (fun x3 μ_4 => ?_)
    refine s_istore (pc := 32) (lv' := [(4, .int x3), (2, .long x2), (0, .ref 253), (1, .int a1)]) dX12_letterTold_32 (by decide) rfl ?_
    refine s_aload_n (pc := 34) 2 dX12_letterTold_34 rfl rfl ?_
    refine s_aload_n (pc := 35) 2 dX12_letterTold_35 rfl rfl ?_
    refine s_getR (pc := 36) (ci := 12) (k := 12) (r := 258) dX12_letterTold_36 fl_12_27 kd_253 rfl rs_253_12 ?_
    refine s_callVV (pc := 39) (as := [.ref 258]) (st := []) dX12_letterTold_39 lk_12_337 kd_253 (t_X12_asks N 258 μ_4) (by omega) rfl (by decide) rfl (fun _ μ_5 => ?_)
    refine s_aload_n (pc := 42) 2 dX12_letterTold_42 rfl rfl ?_
    refine s_iconst (pc := 43) (v := (0 : Int32)) dX12_letterTold_43 (by decide) ?_
    refine s_bipush (pc := 44) (v := (9 : Int32)) dX12_letterTold_44 (by decide) ?_
    refine s_callVI (pc := 46) (as := [.int (0 : Int32), .int (9 : Int32)]) (st := []) dX12_letterTold_46 lk_12_341 kd_253 (t_X12_number N (0 : Int32) (9 : Int32) μ_5) (by omega) rfl (by decide) rfl (fun x4 μ_6 => ?_)
    refine s_istore (pc := 49) (lv' := [(5, .int x4), (4, .int x3), (2, .long x2), (0, .ref 253), (1, .int a1)]) dX12_letterTold_49 (by decide) rfl ?_
    refine s_aload_n (pc := 51) 3 dX12_letterTold_51 rfl rfl ?_
    refine s_aload_n (pc := 52) 3 dX12_letterTold_52 rfl rfl ?_
    refine s_getR (pc := 53) (ci := 12) (k := 13) (r := 259) dX12_letterTold_53 fl_12_30 kd_253 rfl rs_253_13 ?_
    refine s_callVV (pc := 56) (as := [.ref 259]) (st := []) dX12_letterTold_56 lk_12_337 kd_253 (t_X12_asks N 259 μ_6) (by omega) rfl (by decide) rfl (fun _ μ_7 => ?_)
    refine s_aload_n (pc := 59) 3 dX12_letterTold_59 rfl rfl ?_
    refine s_iconst (pc := 60) (v := (0 : Int32)) dX12_letterTold_60 (by decide) ?_
    refine s_bipush (pc := 61) (v := (10 : Int32)) dX12_letterTold_61 (by decide) ?_
    refine s_callVI (pc := 63) (as := [.int (0 : Int32), .int (10 : Int32)]) (st := []) dX12_letterTold_63 lk_12_341 kd_253 (t_X12_number N (0 : Int32) (10 : Int32) μ_7) (by omega) rfl (by decide) rfl (fun x5 μ_8 => ?_)
    refine s_istore (pc := 66) (lv' := [(6, .int x5), (5, .int x4), (4, .int x3), (2, .long x2), (0, .ref 253), (1, .int a1)]) dX12_letterTold_66 (by decide) rfl ?_
    refine s_aload_n (pc := 68) 4 dX12_letterTold_68 rfl rfl ?_
    refine s_getI (pc := 69) (ci := 12) (k := 5) dX12_letterTold_69 fl_12_263 kd_253 rfl ?_
    refine s_if_eq (pc := 72) (tgt := 76) dX12_letterTold_72 (by decide) ?_ ?_
    · refine s_iconst (pc := 76) (v := (3 : Int32)) dX12_letterTold_76 (by decide) ?_
      refine s_aload_n (pc := 77) 4 dX12_letterTold_77 rfl rfl ?_
      refine s_iconst (pc := 78) (v := (0 : Int32)) dX12_letterTold_78 (by decide) ?_
      refine s_lload_n (pc := 79) 3 dX12_letterTold_79 rfl rfl ?_
      refine s_callVI (pc := 80) (as := [.int (0 : Int32), .long x2]) (st := [.int (3 : Int32)]) dX12_letterTold_80 lk_12_345 kd_253 (t_X12_adds N (0 : Int32) x2 μ_8) (by omega) rfl (Nat.le_of_ble_eq_true rfl) rfl (fun x6 μ_9 => ?_)
      refine s_imul (pc := 83) dX12_letterTold_83 ?_
      refine s_letI (fun x7 => ?_)
      refine s_istore (pc := 84) (lv' := [(7, .int x7), (6, .int x5), (5, .int x4), (4, .int x3), (2, .long x2), (0, .ref 253), (1, .int a1)]) dX12_letterTold_84 (by decide) rfl ?_
      refine s_aload_n (pc := 86) 5 dX12_letterTold_86 rfl rfl ?_
      refine s_getR (pc := 87) (ci := 12) (k := 41) (r := 286) dX12_letterTold_87 fl_12_112 kd_253 rfl rs_253_41 ?_
      refine s_iload (pc := 90) 0 dX12_letterTold_90 rfl ?_
      refine s_iload (pc := 92) 3 dX12_letterTold_92 rfl ?_
      refine s_iast (pc := 94) dX12_letterTold_94 kd_286 (fun μ_10 => ?_)
      refine s_aload_n (pc := 95) 5 dX12_letterTold_95 rfl rfl ?_
      refine s_getR (pc := 96) (ci := 12) (k := 41) (r := 286) dX12_letterTold_96 fl_12_112 kd_253 rfl rs_253_41 ?_
      refine s_iload (pc := 99) 0 dX12_letterTold_99 rfl ?_
      refine s_iconst (pc := 101) (v := (1 : Int32)) dX12_letterTold_101 (by decide) ?_
      refine s_iadd (pc := 102) dX12_letterTold_102 ?_
      refine s_iload (pc := 103) 2 dX12_letterTold_103 rfl ?_
      refine s_iast (pc := 105) dX12_letterTold_105 kd_286 (fun μ_11 => ?_)
      refine s_aload_n (pc := 106) 5 dX12_letterTold_106 rfl rfl ?_
      refine s_getR (pc := 107) (ci := 12) (k := 41) (r := 286) dX12_letterTold_107 fl_12_112 kd_253 rfl rs_253_41 ?_
      refine s_iload (pc := 110) 0 dX12_letterTold_110 rfl ?_
      refine s_iconst (pc := 112) (v := (2 : Int32)) dX12_letterTold_112 (by decide) ?_
      refine s_iadd (pc := 113) dX12_letterTold_113 ?_
      refine s_iload (pc := 114) 1 dX12_letterTold_114 rfl ?_
      refine s_iast (pc := 116) dX12_letterTold_116 kd_286 (fun μ_12 => ?_)
      exact s_vret (pc := 117) dX12_letterTold_117 rfl
    · exact s_vret (pc := 75) dX12_letterTold_75 rfl
  · exact s_vret (pc := 11) dX12_letterTold_11 rfl
def f_X12_giftTold (N : Nat) (a1 : Int32) (μ : z_S) : Option (Unit × z_S) :=
  z_bn (f_X12_isFull N (1 : Int32) (4 : Int32) a1 μ) fun x1 μ_1 => if x1 = 0 then (z_bn (f_X12_newName N μ_1) fun x2 μ_2 => z_bn (f_X12_asks N 261 μ_2) fun _ μ_3 => z_bn (f_X12_number N (0 : Int32) (3 : Int32) μ_3) fun x3 μ_4 => if (μ_4.1 253 5) = 0 then (z_bn (f_X12_adds N (1 : Int32) x2 μ_4) fun x4 μ_5 => z_in x4 8 <| z_bd (z_setI μ_5 287 x4.toNatClampNeg x3) fun μ_6 => some ((), μ_6)) else some ((), μ_4)) else some ((), μ_1)
theorem t_X12_giftTold (N : Nat) (a1 : Int32) (μ : z_S) : z_met false rV mX12_giftTold 5 [.ref 253, .int a1] μ (f_X12_giftTold N a1 μ) := by
  refine z_met.of (by decide +kernel) (by show _ ≤ _; first | decide | exact Nat.le_of_ble_eq_true rfl) (lv := [(0, .ref 253), (1, .int a1)]) rfl ?_
  unfold f_X12_giftTold
  refine s_aload_n (pc := 0) 0 dX12_giftTold_0 rfl rfl ?_
  refine s_iconst (pc := 1) (v := (1 : Int32)) dX12_giftTold_1 (by decide) ?_
  refine s_iconst (pc := 2) (v := (4 : Int32)) dX12_giftTold_2 (by decide) ?_
  refine s_iload_n (pc := 3) 1 dX12_giftTold_3 rfl rfl ?_
  refine s_callVI (pc := 4) (as := [.int (1 : Int32), .int (4 : Int32), .int a1]) (st := []) dX12_giftTold_4 lk_12_330 kd_253 (t_X12_isFull N (1 : Int32) (4 : Int32) a1 μ) (by omega) rfl (by decide) rfl (fun x1 μ_1 => ?_)
  refine s_if_eq (pc := 7) (tgt := 11) dX12_giftTold_7 (by decide) ?_ ?_
  · refine s_aload_n (pc := 11) 0 dX12_giftTold_11 rfl rfl ?_
    refine s_callVJ (pc := 12) (as := []) (st := []) dX12_giftTold_12 lk_12_334 kd_253 (t_X12_newName N μ_1) (by omega) rfl (by decide) rfl (fun x2 μ_2 => ?_)
    refine s_lstore_n (pc := 15) (lv' := [(2, .long x2), (0, .ref 253), (1, .int a1)]) dX12_giftTold_15 rfl (by decide) rfl ?_
    refine s_aload_n (pc := 16) 1 dX12_giftTold_16 rfl rfl ?_
    refine s_aload_n (pc := 17) 1 dX12_giftTold_17 rfl rfl ?_
    refine s_getR (pc := 18) (ci := 12) (k := 15) (r := 261) dX12_giftTold_18 fl_12_36 kd_253 rfl rs_253_15 ?_
    refine s_callVV (pc := 21) (as := [.ref 261]) (st := []) dX12_giftTold_21 lk_12_337 kd_253 (t_X12_asks N 261 μ_2) (by omega) rfl (by decide) rfl (fun _ μ_3 => ?_)
    refine s_aload_n (pc := 24) 1 dX12_giftTold_24 rfl rfl ?_
    refine s_iconst (pc := 25) (v := (0 : Int32)) dX12_giftTold_25 (by decide) ?_
    refine s_iconst (pc := 26) (v := (3 : Int32)) dX12_giftTold_26 (by decide) ?_
    refine s_callVI (pc := 27) (as := [.int (0 : Int32), .int (3 : Int32)]) (st := []) dX12_giftTold_27 lk_12_341 kd_253 (t_X12_number N (0 : Int32) (3 : Int32) μ_3) (by omega) rfl (by decide) rfl (fun x3 μ_4 => ?_)
    refine s_istore (pc := 30) (lv' := [(4, .int x3), (2, .long x2), (0, .ref 253), (1, .int a1)]) dX12_giftTold_30 (by decide) rfl ?_
    refine s_aload_n (pc := 32) 2 dX12_giftTold_32 rfl rfl ?_
    refine s_getI (pc := 33) (ci := 12) (k := 5) dX12_giftTold_33 fl_12_263 kd_253 rfl ?_
    refine s_if_ne (pc := 36) (tgt := 52) dX12_giftTold_36 (by decide) ?_ ?_
    · refine s_aload_n (pc := 39) 2 dX12_giftTold_39 rfl rfl ?_
      refine s_getR (pc := 40) (ci := 12) (k := 42) (r := 287) dX12_giftTold_40 fl_12_115 kd_253 rfl rs_253_42 ?_
      refine s_aload_n (pc := 43) 2 dX12_giftTold_43 rfl rfl ?_
      refine s_iconst (pc := 44) (v := (1 : Int32)) dX12_giftTold_44 (by decide) ?_
      refine s_lload_n (pc := 45) 1 dX12_giftTold_45 rfl rfl ?_
      refine s_callVI (pc := 46) (as := [.int (1 : Int32), .long x2]) (st := [.ref 287]) dX12_giftTold_46 lk_12_345 kd_253 (t_X12_adds N (1 : Int32) x2 μ_4) (by omega) rfl (Nat.le_of_ble_eq_true rfl) rfl (fun x4 μ_5 => ?_)
      refine s_iload (pc := 49) 0 dX12_giftTold_49 rfl ?_
      refine s_iast (pc := 51) dX12_giftTold_51 kd_287 (fun μ_6 => ?_)
      exact s_vret (pc := 52) dX12_giftTold_52 rfl
    · exact s_vret (pc := 52) dX12_giftTold_52 rfl
  · exact s_vret (pc := 10) dX12_giftTold_10 rfl
def f_X12_wishTold (N : Nat) (μ : z_S) : Option (Unit × z_S) :=
  z_bn (f_X12_oneOf N (0 : Int32) μ) fun x1 μ_1 => z_bn (f_X12_oneOf N (1 : Int32) μ_1) fun x2 μ_2 => z_bn (f_X12_number N (1 : Int32) (9 : Int32) μ_2) fun x3 μ_3 => if (μ_3.1 253 5) = 0 then (z_in (((4 : Int32) * x1) + x2) 64 <| z_bd (z_setI μ_3 288 (((4 : Int32) * x1) + x2).toNatClampNeg x3) fun μ_4 => some ((), μ_4)) else some ((), μ_3)
theorem t_X12_wishTold (N : Nat) (μ : z_S) : z_met false rV mX12_wishTold 5 [.ref 253] μ (f_X12_wishTold N μ) := by
  refine z_met.of (by decide +kernel) (by show _ ≤ _; first | decide | exact Nat.le_of_ble_eq_true rfl) (lv := [(0, .ref 253)]) rfl ?_
  unfold f_X12_wishTold
  refine s_aload_n (pc := 0) 0 dX12_wishTold_0 rfl rfl ?_
  refine s_iconst (pc := 1) (v := (0 : Int32)) dX12_wishTold_1 (by decide) ?_
  refine s_callVI (pc := 2) (as := [.int (0 : Int32)]) (st := []) dX12_wishTold_2 lk_12_348 kd_253 (t_X12_oneOf N (0 : Int32) μ) (by omega) rfl (by decide) rfl (fun x1 μ_1 => ?_)
  refine s_istore_n (pc := 5) (lv' := [(1, .int x1), (0, .ref 253)]) dX12_wishTold_5 rfl (by decide) rfl ?_
  refine s_aload_n (pc := 6) 1 dX12_wishTold_6 rfl rfl ?_
  refine s_iconst (pc := 7) (v := (1 : Int32)) dX12_wishTold_7 (by decide) ?_
  refine s_callVI (pc := 8) (as := [.int (1 : Int32)]) (st := []) dX12_wishTold_8 lk_12_348 kd_253 (t_X12_oneOf N (1 : Int32) μ_1) (by omega) rfl (by decide) rfl (fun x2 μ_2 => ?_)
  refine s_istore_n (pc := 11) (lv' := [(2, .int x2), (1, .int x1), (0, .ref 253)]) dX12_wishTold_11 rfl (by decide) rfl ?_
  refine s_aload_n (pc := 12) 2 dX12_wishTold_12 rfl rfl ?_
  refine s_iconst (pc := 13) (v := (1 : Int32)) dX12_wishTold_13 (by decide) ?_
  refine s_bipush (pc := 14) (v := (9 : Int32)) dX12_wishTold_14 (by decide) ?_
  refine s_callVI (pc := 16) (as := [.int (1 : Int32), .int (9 : Int32)]) (st := []) dX12_wishTold_16 lk_12_341 kd_253 (t_X12_number N (1 : Int32) (9 : Int32) μ_2) (by omega) rfl (by decide) rfl (fun x3 μ_3 => ?_)
  refine s_istore_n (pc := 19) (lv' := [(3, .int x3), (2, .int x2), (1, .int x1), (0, .ref 253)]) dX12_wishTold_19 rfl (by decide) rfl ?_
  refine s_aload_n (pc := 20) 3 dX12_wishTold_20 rfl rfl ?_
  refine s_getI (pc := 21) (ci := 12) (k := 5) dX12_wishTold_21 fl_12_263 kd_253 rfl ?_
  refine s_if_ne (pc := 24) (tgt := 38) dX12_wishTold_24 (by decide) ?_ ?_
  · refine s_aload_n (pc := 27) 3 dX12_wishTold_27 rfl rfl ?_
    refine s_getR (pc := 28) (ci := 12) (k := 43) (r := 288) dX12_wishTold_28 fl_12_118 kd_253 rfl rs_253_43 ?_
    refine s_iconst (pc := 31) (v := (4 : Int32)) dX12_wishTold_31 (by decide) ?_
    refine s_iload_n (pc := 32) 2 dX12_wishTold_32 rfl rfl ?_
    refine s_imul (pc := 33) dX12_wishTold_33 ?_
    refine s_iload_n (pc := 34) 1 dX12_wishTold_34 rfl rfl ?_
    refine s_iadd (pc := 35) dX12_wishTold_35 ?_
    refine s_iload_n (pc := 36) 0 dX12_wishTold_36 rfl rfl ?_
    refine s_iast (pc := 37) dX12_wishTold_37 kd_288 (fun μ_4 => ?_)
    exact s_vret (pc := 38) dX12_wishTold_38 rfl
  · exact s_vret (pc := 38) dX12_wishTold_38 rfl
def f_X12_nearTold_B59 (N : Nat)  (v2 : Int32) (v3 : Int32) (μ : z_S) : Option (Unit × z_S) :=
  if (μ.1 253 5) = 0 then (z_in v2 16 <| z_in v2 16 <| z_bd (z_setI μ 289 v2.toNatClampNeg ((μ.1 289 v2.toNatClampNeg) ||| ((1 : Int32) <<< (v3 &&& 31)))) fun μ_5 => z_in v3 16 <| z_in v3 16 <| z_bd (z_setI μ_5 289 v3.toNatClampNeg ((μ_5.1 289 v3.toNatClampNeg) ||| ((1 : Int32) <<< (v2 &&& 31)))) fun μ_6 => z_bd (z_setI μ_6 284 3 ((μ_6.1 284 3) + (1 : Int32))) fun μ_7 => some ((), μ_7)) else some ((), μ)
theorem t_X12_nearTold_B59 (N : Nat)     (v2 : Int32) (v3 : Int32)  (μ : z_S) : z_sim false rV mX12_nearTold 5 (f_X12_nearTold_B59 N   v2 v3 μ) 59 [(0, .ref 253), (2, .int v2), (3, .int v3)] [] μ := by
  unfold f_X12_nearTold_B59
  refine s_aload_n (pc := 59) 0 dX12_nearTold_59 rfl rfl ?_
  refine s_getI (pc := 60) (ci := 12) (k := 5) dX12_nearTold_60 fl_12_263 kd_253 rfl ?_
  refine s_if_eq (pc := 63) (tgt := 67) dX12_nearTold_63 (by decide) ?_ ?_
  · refine s_aload_n (pc := 67) 0 dX12_nearTold_67 rfl rfl ?_
    refine s_getR (pc := 68) (ci := 12) (k := 44) (r := 289) dX12_nearTold_68 fl_12_121 kd_253 rfl rs_253_44 ?_
    refine s_iload_n (pc := 71) 1 dX12_nearTold_71 rfl rfl ?_
    refine s_dup2 (pc := 72) dX12_nearTold_72 rfl rfl ?_
    refine s_iald (pc := 73) dX12_nearTold_73 kd_289 ?_
    refine s_iconst (pc := 74) (v := (1 : Int32)) dX12_nearTold_74 (by decide) ?_
    refine s_iload_n (pc := 75) 2 dX12_nearTold_75 rfl rfl ?_
    refine s_ishl (pc := 76) dX12_nearTold_76 ?_
    refine s_ior (pc := 77) dX12_nearTold_77 ?_
    refine s_iast (pc := 78) dX12_nearTold_78 kd_289 (fun μ_5 => ?_)
    refine s_aload_n (pc := 79) 0 dX12_nearTold_79 rfl rfl ?_
    refine s_getR (pc := 80) (ci := 12) (k := 44) (r := 289) dX12_nearTold_80 fl_12_121 kd_253 rfl rs_253_44 ?_
    refine s_iload_n (pc := 83) 2 dX12_nearTold_83 rfl rfl ?_
    refine s_dup2 (pc := 84) dX12_nearTold_84 rfl rfl ?_
    refine s_iald (pc := 85) dX12_nearTold_85 kd_289 ?_
    refine s_iconst (pc := 86) (v := (1 : Int32)) dX12_nearTold_86 (by decide) ?_
    refine s_iload_n (pc := 87) 1 dX12_nearTold_87 rfl rfl ?_
    refine s_ishl (pc := 88) dX12_nearTold_88 ?_
    refine s_ior (pc := 89) dX12_nearTold_89 ?_
    refine s_iast (pc := 90) dX12_nearTold_90 kd_289 (fun μ_6 => ?_)
    refine s_aload_n (pc := 91) 0 dX12_nearTold_91 rfl rfl ?_
    refine s_getR (pc := 92) (ci := 12) (k := 39) (r := 284) dX12_nearTold_92 fl_12_105 kd_253 rfl rs_253_39 ?_
    refine s_iconst (pc := 95) (v := (3 : Int32)) dX12_nearTold_95 (by decide) ?_
    refine s_dup2 (pc := 96) dX12_nearTold_96 rfl rfl ?_
    refine s_ialdK (pc := 97) (k := 3) dX12_nearTold_97 kd_284 (by decide) (by decide) (by decide) ?_
    refine s_iconst (pc := 98) (v := (1 : Int32)) dX12_nearTold_98 (by decide) ?_
    refine s_iadd (pc := 99) dX12_nearTold_99 ?_
    refine s_iastK (pc := 100) (k := 3) dX12_nearTold_100 kd_284 (by decide) (by decide) (by decide) (fun μ_7 => ?_)
    exact s_vret (pc := 101) dX12_nearTold_101 rfl
  · exact s_vret (pc := 66) dX12_nearTold_66 rfl
def f_X12_nearTold_B50 (N : Nat)  (v2 : Int32) (v3 : Int32) (μ : z_S) : Option (Unit × z_S) :=
  z_bn (f_X12_fail N (3 : Int32) (μ.1 253 38) μ) fun _ μ_4 => f_X12_nearTold_B59 N v2 v3 μ_4
theorem t_X12_nearTold_B50 (N : Nat)     (v2 : Int32) (v3 : Int32)  (μ : z_S) : z_sim false rV mX12_nearTold 5 (f_X12_nearTold_B50 N   v2 v3 μ) 50 [(0, .ref 253), (2, .int v2), (3, .int v3)] [] μ := by
  unfold f_X12_nearTold_B50
  refine s_aload_n (pc := 50) 0 dX12_nearTold_50 rfl rfl ?_
  refine s_iconst (pc := 51) (v := (3 : Int32)) dX12_nearTold_51 (by decide) ?_
  refine s_aload_n (pc := 52) 0 dX12_nearTold_52 rfl rfl ?_
  refine s_getI (pc := 53) (ci := 12) (k := 38) dX12_nearTold_53 fl_12_311 kd_253 rfl ?_
  refine s_callVV (pc := 56) (as := [.int (3 : Int32), .int (μ.1 253 38)]) (st := []) dX12_nearTold_56 lk_12_293 kd_253 (t_X12_fail N (3 : Int32) (μ.1 253 38) μ) (by omega) rfl (by decide) rfl (fun _ μ_4 => ?_)
  exact t_X12_nearTold_B59 N v2 v3 μ_4
def f_X12_nearTold (N : Nat) (a1 : Int32) (μ : z_S) : Option (Unit × z_S) :=
  z_bn (f_X12_isFull N (3 : Int32) (20 : Int32) a1 μ) fun x1 μ_1 => if x1 = 0 then (z_bn (f_X12_oneOf N (0 : Int32) μ_1) fun x2 μ_2 => z_bn (f_X12_oneOf N (0 : Int32) μ_2) fun x3 μ_3 => if (μ_3.1 253 5) = 0 then (if x2 = x3 then (f_X12_nearTold_B50 N x2 x3 μ_3) else z_in x2 16 <| if (((μ_3.1 289 x2.toNatClampNeg) >>> (x3 &&& 31)) &&& (1 : Int32)) = (1 : Int32) then (f_X12_nearTold_B50 N x2 x3 μ_3) else f_X12_nearTold_B59 N x2 x3 μ_3) else f_X12_nearTold_B59 N x2 x3 μ_3) else some ((), μ_1)
theorem t_X12_nearTold (N : Nat) (a1 : Int32) (μ : z_S) : z_met false rV mX12_nearTold 5 [.ref 253, .int a1] μ (f_X12_nearTold N a1 μ) := by
  refine z_met.of (by decide +kernel) (by show _ ≤ _; first | decide | exact Nat.le_of_ble_eq_true rfl) (lv := [(0, .ref 253), (1, .int a1)]) rfl ?_
  unfold f_X12_nearTold
  refine s_aload_n (pc := 0) 0 dX12_nearTold_0 rfl rfl ?_
  refine s_iconst (pc := 1) (v := (3 : Int32)) dX12_nearTold_1 (by decide) ?_
  refine s_bipush (pc := 2) (v := (20 : Int32)) dX12_nearTold_2 (by decide) ?_
  refine s_iload_n (pc := 4) 1 dX12_nearTold_4 rfl rfl ?_
  refine s_callVI (pc := 5) (as := [.int (3 : Int32), .int (20 : Int32), .int a1]) (st := []) dX12_nearTold_5 lk_12_330 kd_253 (t_X12_isFull N (3 : Int32) (20 : Int32) a1 μ) (by omega) rfl (by decide) rfl (fun x1 μ_1 => ?_)
  refine s_if_eq (pc := 8) (tgt := 12) dX12_nearTold_8 (by decide) ?_ ?_
  · refine s_aload_n (pc := 12) 0 dX12_nearTold_12 rfl rfl ?_
    refine s_iconst (pc := 13) (v := (0 : Int32)) dX12_nearTold_13 (by decide) ?_
    refine s_callVI (pc := 14) (as := [.int (0 : Int32)]) (st := []) dX12_nearTold_14 lk_12_348 kd_253 (t_X12_oneOf N (0 : Int32) μ_1) (by omega) rfl (by decide) rfl (fun x2 μ_2 => ?_)
    refine s_istore_n (pc := 17) (lv' := [(2, .int x2), (0, .ref 253), (1, .int a1)]) dX12_nearTold_17 rfl (by decide) rfl ?_
    refine s_aload_n (pc := 18) 1 dX12_nearTold_18 rfl rfl ?_
    refine s_iconst (pc := 19) (v := (0 : Int32)) dX12_nearTold_19 (by decide) ?_
    refine s_callVI (pc := 20) (as := [.int (0 : Int32)]) (st := []) dX12_nearTold_20 lk_12_348 kd_253 (t_X12_oneOf N (0 : Int32) μ_2) (by omega) rfl (by decide) rfl (fun x3 μ_3 => ?_)
    refine s_istore_n (pc := 23) (lv' := [(3, .int x3), (2, .int x2), (0, .ref 253), (1, .int a1)]) dX12_nearTold_23 rfl (by decide) rfl ?_
    refine s_aload_n (pc := 24) 2 dX12_nearTold_24 rfl rfl ?_
    refine s_getI (pc := 25) (ci := 12) (k := 5) dX12_nearTold_25 fl_12_263 kd_253 rfl ?_
    refine s_if_ne (pc := 28) (tgt := 59) dX12_nearTold_28 (by decide) ?_ ?_
    · refine s_iload_n (pc := 31) 1 dX12_nearTold_31 rfl rfl ?_
      refine s_iload_n (pc := 32) 0 dX12_nearTold_32 rfl rfl ?_
      refine s_icmp_eq (pc := 33) (tgt := 50) dX12_nearTold_33 (by decide) ?_ ?_
      · refine s_sub (lv' := [(0, .ref 253), (2, .int x2), (3, .int x3)]) [2, 1, 0] rfl ?_
        exact t_X12_nearTold_B50 N x2 x3 μ_3
      · refine s_aload_n (pc := 36) 2 dX12_nearTold_36 rfl rfl ?_
        refine s_getR (pc := 37) (ci := 12) (k := 44) (r := 289) dX12_nearTold_37 fl_12_121 kd_253 rfl rs_253_44 ?_
        refine s_iload_n (pc := 40) 1 dX12_nearTold_40 rfl rfl ?_
        refine s_iald (pc := 41) dX12_nearTold_41 kd_289 ?_
        refine s_iload_n (pc := 42) 0 dX12_nearTold_42 rfl rfl ?_
        refine s_ishr (pc := 43) dX12_nearTold_43 ?_
        refine s_iconst (pc := 44) (v := (1 : Int32)) dX12_nearTold_44 (by decide) ?_
        refine s_iand (pc := 45) dX12_nearTold_45 ?_
        refine s_iconst (pc := 46) (v := (1 : Int32)) dX12_nearTold_46 (by decide) ?_
        refine s_icmp_ne (pc := 47) (tgt := 59) dX12_nearTold_47 (by decide) ?_ ?_
        · refine s_sub (lv' := [(0, .ref 253), (2, .int x2), (3, .int x3)]) [2, 1, 0] rfl ?_
          exact t_X12_nearTold_B50 N x2 x3 μ_3
        · refine s_sub (lv' := [(0, .ref 253), (2, .int x2), (3, .int x3)]) [2, 1, 0] rfl ?_
          exact t_X12_nearTold_B59 N x2 x3 μ_3
    · refine s_sub (lv' := [(0, .ref 253), (2, .int x2), (3, .int x3)]) [2, 1, 0] rfl ?_
      exact t_X12_nearTold_B59 N x2 x3 μ_3
  · exact s_vret (pc := 11) dX12_nearTold_11 rfl
def f_X12_likeTold_B59 (N : Nat)  (v2 : Int32) (v3 : Int32) (μ : z_S) : Option (Unit × z_S) :=
  z_bn (f_X12_number N (0 : Int32) (10 : Int32) μ) fun x4 μ_5 => if (μ_5.1 253 5) = 0 then (z_in (((8 : Int32) * v2) + v3) 128 <| z_bd (z_setI μ_5 290 (((8 : Int32) * v2) + v3).toNatClampNeg (x4 + (1 : Int32))) fun μ_6 => z_in (((8 : Int32) * v3) + v2) 128 <| z_bd (z_setI μ_6 290 (((8 : Int32) * v3) + v2).toNatClampNeg (x4 + (1 : Int32))) fun μ_7 => z_bd (z_setI μ_7 284 4 ((μ_7.1 284 4) + (1 : Int32))) fun μ_8 => some ((), μ_8)) else some ((), μ_5)
theorem t_X12_likeTold_B59 (N : Nat)     (v2 : Int32) (v3 : Int32)  (μ : z_S) : z_sim false rV mX12_likeTold 5 (f_X12_likeTold_B59 N   v2 v3 μ) 59 [(0, .ref 253), (2, .int v2), (3, .int v3)] [] μ := by
  unfold f_X12_likeTold_B59
  refine s_aload_n (pc := 59) 0 dX12_likeTold_59 rfl rfl ?_
  refine s_iconst (pc := 60) (v := (0 : Int32)) dX12_likeTold_60 (by decide) ?_
  refine s_bipush (pc := 61) (v := (10 : Int32)) dX12_likeTold_61 (by decide) ?_
  refine s_callVI (pc := 63) (as := [.int (0 : Int32), .int (10 : Int32)]) (st := []) dX12_likeTold_63 lk_12_341 kd_253 (t_X12_number N (0 : Int32) (10 : Int32) μ) (by omega) rfl (by decide) rfl (fun x4 μ_5 => ?_)
  refine s_istore (pc := 66) (lv' := [(4, .int x4), (0, .ref 253), (2, .int v2), (3, .int v3)]) dX12_likeTold_66 (by decide) rfl ?_
  refine s_aload_n (pc := 68) 1 dX12_likeTold_68 rfl rfl ?_
  refine s_getI (pc := 69) (ci := 12) (k := 5) dX12_likeTold_69 fl_12_263 kd_253 rfl ?_
  refine s_if_eq (pc := 72) (tgt := 76) dX12_likeTold_72 (by decide) ?_ ?_
  · refine s_aload_n (pc := 76) 1 dX12_likeTold_76 rfl rfl ?_
    refine s_getR (pc := 77) (ci := 12) (k := 45) (r := 290) dX12_likeTold_77 fl_12_124 kd_253 rfl rs_253_45 ?_
    refine s_bipush (pc := 80) (v := (8 : Int32)) dX12_likeTold_80 (by decide) ?_
    refine s_iload_n (pc := 82) 2 dX12_likeTold_82 rfl rfl ?_
    refine s_imul (pc := 83) dX12_likeTold_83 ?_
    refine s_iload_n (pc := 84) 3 dX12_likeTold_84 rfl rfl ?_
    refine s_iadd (pc := 85) dX12_likeTold_85 ?_
    refine s_iload (pc := 86) 0 dX12_likeTold_86 rfl ?_
    refine s_iconst (pc := 88) (v := (1 : Int32)) dX12_likeTold_88 (by decide) ?_
    refine s_iadd (pc := 89) dX12_likeTold_89 ?_
    refine s_iast (pc := 90) dX12_likeTold_90 kd_290 (fun μ_6 => ?_)
    refine s_aload_n (pc := 91) 1 dX12_likeTold_91 rfl rfl ?_
    refine s_getR (pc := 92) (ci := 12) (k := 45) (r := 290) dX12_likeTold_92 fl_12_124 kd_253 rfl rs_253_45 ?_
    refine s_bipush (pc := 95) (v := (8 : Int32)) dX12_likeTold_95 (by decide) ?_
    refine s_iload_n (pc := 97) 3 dX12_likeTold_97 rfl rfl ?_
    refine s_imul (pc := 98) dX12_likeTold_98 ?_
    refine s_iload_n (pc := 99) 2 dX12_likeTold_99 rfl rfl ?_
    refine s_iadd (pc := 100) dX12_likeTold_100 ?_
    refine s_iload (pc := 101) 0 dX12_likeTold_101 rfl ?_
    refine s_iconst (pc := 103) (v := (1 : Int32)) dX12_likeTold_103 (by decide) ?_
    refine s_iadd (pc := 104) dX12_likeTold_104 ?_
    refine s_iast (pc := 105) dX12_likeTold_105 kd_290 (fun μ_7 => ?_)
    refine s_aload_n (pc := 106) 1 dX12_likeTold_106 rfl rfl ?_
    refine s_getR (pc := 107) (ci := 12) (k := 39) (r := 284) dX12_likeTold_107 fl_12_105 kd_253 rfl rs_253_39 ?_
    refine s_iconst (pc := 110) (v := (4 : Int32)) dX12_likeTold_110 (by decide) ?_
    refine s_dup2 (pc := 111) dX12_likeTold_111 rfl rfl ?_
    refine s_ialdK (pc := 112) (k := 4) dX12_likeTold_112 kd_284 (by decide) (by decide) (by decide) ?_
    refine s_iconst (pc := 113) (v := (1 : Int32)) dX12_likeTold_113 (by decide) ?_
    refine s_iadd (pc := 114) dX12_likeTold_114 ?_
    refine s_iastK (pc := 115) (k := 4) dX12_likeTold_115 kd_284 (by decide) (by decide) (by decide) (fun μ_8 => ?_)
    exact s_vret (pc := 116) dX12_likeTold_116 rfl
  · exact s_vret (pc := 75) dX12_likeTold_75 rfl
def f_X12_likeTold_B50 (N : Nat)  (v2 : Int32) (v3 : Int32) (μ : z_S) : Option (Unit × z_S) :=
  z_bn (f_X12_fail N (3 : Int32) (μ.1 253 38) μ) fun _ μ_4 => f_X12_likeTold_B59 N v2 v3 μ_4
theorem t_X12_likeTold_B50 (N : Nat)     (v2 : Int32) (v3 : Int32)  (μ : z_S) : z_sim false rV mX12_likeTold 5 (f_X12_likeTold_B50 N   v2 v3 μ) 50 [(0, .ref 253), (2, .int v2), (3, .int v3)] [] μ := by
  unfold f_X12_likeTold_B50
  refine s_aload_n (pc := 50) 0 dX12_likeTold_50 rfl rfl ?_
  refine s_iconst (pc := 51) (v := (3 : Int32)) dX12_likeTold_51 (by decide) ?_
  refine s_aload_n (pc := 52) 0 dX12_likeTold_52 rfl rfl ?_
  refine s_getI (pc := 53) (ci := 12) (k := 38) dX12_likeTold_53 fl_12_311 kd_253 rfl ?_
  refine s_callVV (pc := 56) (as := [.int (3 : Int32), .int (μ.1 253 38)]) (st := []) dX12_likeTold_56 lk_12_293 kd_253 (t_X12_fail N (3 : Int32) (μ.1 253 38) μ) (by omega) rfl (by decide) rfl (fun _ μ_4 => ?_)
  exact t_X12_likeTold_B59 N v2 v3 μ_4
def f_X12_likeTold (N : Nat) (a1 : Int32) (μ : z_S) : Option (Unit × z_S) :=
  z_bn (f_X12_isFull N (4 : Int32) (10 : Int32) a1 μ) fun x1 μ_1 => if x1 = 0 then (z_bn (f_X12_oneOf N (0 : Int32) μ_1) fun x2 μ_2 => z_bn (f_X12_oneOf N (0 : Int32) μ_2) fun x3 μ_3 => if (μ_3.1 253 5) = 0 then (if x2 = x3 then (f_X12_likeTold_B50 N x2 x3 μ_3) else z_in (((8 : Int32) * x2) + x3) 128 <| if 0 < (μ_3.1 290 (((8 : Int32) * x2) + x3).toNatClampNeg) then (f_X12_likeTold_B50 N x2 x3 μ_3) else f_X12_likeTold_B59 N x2 x3 μ_3) else f_X12_likeTold_B59 N x2 x3 μ_3) else some ((), μ_1)
theorem t_X12_likeTold (N : Nat) (a1 : Int32) (μ : z_S) : z_met false rV mX12_likeTold 5 [.ref 253, .int a1] μ (f_X12_likeTold N a1 μ) := by
  refine z_met.of (by decide +kernel) (by show _ ≤ _; first | decide | exact Nat.le_of_ble_eq_true rfl) (lv := [(0, .ref 253), (1, .int a1)]) rfl ?_
  unfold f_X12_likeTold
  refine s_aload_n (pc := 0) 0 dX12_likeTold_0 rfl rfl ?_
  refine s_iconst (pc := 1) (v := (4 : Int32)) dX12_likeTold_1 (by decide) ?_
  refine s_bipush (pc := 2) (v := (10 : Int32)) dX12_likeTold_2 (by decide) ?_
  refine s_iload_n (pc := 4) 1 dX12_likeTold_4 rfl rfl ?_
  refine s_callVI (pc := 5) (as := [.int (4 : Int32), .int (10 : Int32), .int a1]) (st := []) dX12_likeTold_5 lk_12_330 kd_253 (t_X12_isFull N (4 : Int32) (10 : Int32) a1 μ) (by omega) rfl (by decide) rfl (fun x1 μ_1 => ?_)
  refine s_if_eq (pc := 8) (tgt := 12) dX12_likeTold_8 (by decide) ?_ ?_
  · refine s_aload_n (pc := 12) 0 dX12_likeTold_12 rfl rfl ?_
    refine s_iconst (pc := 13) (v := (0 : Int32)) dX12_likeTold_13 (by decide) ?_
    refine s_callVI (pc := 14) (as := [.int (0 : Int32)]) (st := []) dX12_likeTold_14 lk_12_348 kd_253 (t_X12_oneOf N (0 : Int32) μ_1) (by omega) rfl (by decide) rfl (fun x2 μ_2 => ?_)
    refine s_istore_n (pc := 17) (lv' := [(2, .int x2), (0, .ref 253), (1, .int a1)]) dX12_likeTold_17 rfl (by decide) rfl ?_
    refine s_aload_n (pc := 18) 1 dX12_likeTold_18 rfl rfl ?_
    refine s_iconst (pc := 19) (v := (0 : Int32)) dX12_likeTold_19 (by decide) ?_
    refine s_callVI (pc := 20) (as := [.int (0 : Int32)]) (st := []) dX12_likeTold_20 lk_12_348 kd_253 (t_X12_oneOf N (0 : Int32) μ_2) (by omega) rfl (by decide) rfl (fun x3 μ_3 => ?_)
    refine s_istore_n (pc := 23) (lv' := [(3, .int x3), (2, .int x2), (0, .ref 253), (1, .int a1)]) dX12_likeTold_23 rfl (by decide) rfl ?_
    refine s_aload_n (pc := 24) 2 dX12_likeTold_24 rfl rfl ?_
    refine s_getI (pc := 25) (ci := 12) (k := 5) dX12_likeTold_25 fl_12_263 kd_253 rfl ?_
    refine s_if_ne (pc := 28) (tgt := 59) dX12_likeTold_28 (by decide) ?_ ?_
    · refine s_iload_n (pc := 31) 1 dX12_likeTold_31 rfl rfl ?_
      refine s_iload_n (pc := 32) 0 dX12_likeTold_32 rfl rfl ?_
      refine s_icmp_eq (pc := 33) (tgt := 50) dX12_likeTold_33 (by decide) ?_ ?_
      · refine s_sub (lv' := [(0, .ref 253), (2, .int x2), (3, .int x3)]) [2, 1, 0] rfl ?_
        exact t_X12_likeTold_B50 N x2 x3 μ_3
      · refine s_aload_n (pc := 36) 2 dX12_likeTold_36 rfl rfl ?_
        refine s_getR (pc := 37) (ci := 12) (k := 45) (r := 290) dX12_likeTold_37 fl_12_124 kd_253 rfl rs_253_45 ?_
        refine s_bipush (pc := 40) (v := (8 : Int32)) dX12_likeTold_40 (by decide) ?_
        refine s_iload_n (pc := 42) 1 dX12_likeTold_42 rfl rfl ?_
        refine s_imul (pc := 43) dX12_likeTold_43 ?_
        refine s_iload_n (pc := 44) 0 dX12_likeTold_44 rfl rfl ?_
        refine s_iadd (pc := 45) dX12_likeTold_45 ?_
        refine s_iald (pc := 46) dX12_likeTold_46 kd_290 ?_
        refine s_if_le (pc := 47) (tgt := 59) dX12_likeTold_47 (by decide) ?_ ?_
        · refine s_sub (lv' := [(0, .ref 253), (2, .int x2), (3, .int x3)]) [2, 1, 0] rfl ?_
          exact t_X12_likeTold_B50 N x2 x3 μ_3
        · refine s_sub (lv' := [(0, .ref 253), (2, .int x2), (3, .int x3)]) [2, 1, 0] rfl ?_
          exact t_X12_likeTold_B59 N x2 x3 μ_3
    · refine s_sub (lv' := [(0, .ref 253), (2, .int x2), (3, .int x3)]) [2, 1, 0] rfl ?_
      exact t_X12_likeTold_B59 N x2 x3 μ_3
  · exact s_vret (pc := 11) dX12_likeTold_11 rfl
def f_X12_helperTold (N : Nat) (a1 : Int32) (μ : z_S) : Option (Unit × z_S) :=
  z_bn (f_X12_isFull N (2 : Int32) (3 : Int32) a1 μ) fun x1 μ_1 => if x1 = 0 then (z_bn (f_X12_newName N μ_1) fun x2 μ_2 => z_bn (f_X12_asks N 266 μ_2) fun _ μ_3 => z_bn (f_X12_number N (1 : Int32) (240 : Int32) μ_3) fun x3 μ_4 => z_bn (f_X12_asks N 267 μ_4) fun _ μ_5 => z_bn (f_X12_number N (0 : Int32) (9 : Int32) μ_5) fun x4 μ_6 => z_bn (f_X12_asks N 268 μ_6) fun _ μ_7 => z_bn (f_X12_number N (0 : Int32) (10 : Int32) μ_7) fun x5 μ_8 => if (μ_8.1 253 5) = 0 then (z_bn (f_X12_adds N (2 : Int32) x2 μ_8) fun x6 μ_9 => z_bd ((3 : Int32) * x6) fun x7 => z_in x7 18 <| z_bd (z_setI μ_9 291 x7.toNatClampNeg x3) fun μ_10 => z_in (x7 + (1 : Int32)) 18 <| z_bd (z_setI μ_10 291 (x7 + (1 : Int32)).toNatClampNeg x4) fun μ_11 => z_in (x7 + (2 : Int32)) 18 <| z_bd (z_setI μ_11 291 (x7 + (2 : Int32)).toNatClampNeg x5) fun μ_12 => some ((), μ_12)) else some ((), μ_8)) else some ((), μ_1)
theorem t_X12_helperTold (N : Nat) (a1 : Int32) (μ : z_S) : z_met false rV mX12_helperTold 5 [.ref 253, .int a1] μ (f_X12_helperTold N a1 μ) := by
  refine z_met.of (by decide +kernel) (by show _ ≤ _; first | decide | exact Nat.le_of_ble_eq_true rfl) (lv := [(0, .ref 253), (1, .int a1)]) rfl ?_
  unfold f_X12_helperTold
  refine s_aload_n (pc := 0) 0 dX12_helperTold_0 rfl rfl ?_
  refine s_iconst (pc := 1) (v := (2 : Int32)) dX12_helperTold_1 (by decide) ?_
  refine s_iconst (pc := 2) (v := (3 : Int32)) dX12_helperTold_2 (by decide) ?_
  refine s_iload_n (pc := 3) 1 dX12_helperTold_3 rfl rfl ?_
  refine s_callVI (pc := 4) (as := [.int (2 : Int32), .int (3 : Int32), .int a1]) (st := []) dX12_helperTold_4 lk_12_330 kd_253 (t_X12_isFull N (2 : Int32) (3 : Int32) a1 μ) (by omega) rfl (by decide) rfl (fun x1 μ_1 => ?_)
  refine s_if_eq (pc := 7) (tgt := 11) dX12_helperTold_7 (by decide) ?_ ?_
  · refine s_aload_n (pc := 11) 0 dX12_helperTold_11 rfl rfl ?_
    refine s_callVJ (pc := 12) (as := []) (st := []) dX12_helperTold_12 lk_12_334 kd_253 (t_X12_newName N μ_1) (by omega) rfl (by decide) rfl (fun x2 μ_2 => ?_)
    refine s_lstore_n (pc := 15) (lv' := [(2, .long x2), (0, .ref 253), (1, .int a1)]) dX12_helperTold_15 rfl (by decide) rfl ?_
    refine s_aload_n (pc := 16) 1 dX12_helperTold_16 rfl rfl ?_
    refine s_aload_n (pc := 17) 1 dX12_helperTold_17 rfl rfl ?_
    refine s_getR (pc := 18) (ci := 12) (k := 20) (r := 266) dX12_helperTold_18 fl_12_51 kd_253 rfl rs_253_20 ?_
    refine s_callVV (pc := 21) (as := [.ref 266]) (st := []) dX12_helperTold_21 lk_12_337 kd_253 (t_X12_asks N 266 μ_2) (by omega) rfl (by decide) rfl (fun _ μ_3 => ?_)
    refine s_aload_n (pc := 24) 1 dX12_helperTold_24 rfl rfl ?_
    refine s_iconst (pc := 25) (v := (1 : Int32)) dX12_helperTold_25 (by decide) ?_
    refine s_sipush (pc := 26) (v := (240 : Int32)) dX12_helperTold_26 (by decide) ?_
    refine s_callVI (pc := 29) (as := [.int (1 : Int32), .int (240 : Int32)]) (st := []) dX12_helperTold_29 lk_12_341 kd_253 (t_X12_number N (1 : Int32) (240 : Int32) μ_3) (by omega) rfl (by decide) rfl (fun x3 μ_4 => ?_)
    refine s_istore (pc := 32) (lv' := [(4, .int x3), (2, .long x2), (0, .ref 253), (1, .int a1)]) dX12_helperTold_32 (by decide) rfl ?_
    refine s_aload_n (pc := 34) 2 dX12_helperTold_34 rfl rfl ?_
    refine s_aload_n (pc := 35) 2 dX12_helperTold_35 rfl rfl ?_
    refine s_getR (pc := 36) (ci := 12) (k := 21) (r := 267) dX12_helperTold_36 fl_12_54 kd_253 rfl rs_253_21 ?_
    refine s_callVV (pc := 39) (as := [.ref 267]) (st := []) dX12_helperTold_39 lk_12_337 kd_253 (t_X12_asks N 267 μ_4) (by omega) rfl (by decide) rfl (fun _ μ_5 => ?_)
    refine s_aload_n (pc := 42) 2 dX12_helperTold_42 rfl rfl ?_
    refine s_iconst (pc := 43) (v := (0 : Int32)) dX12_helperTold_43 (by decide) ?_
    refine s_bipush (pc := 44) (v := (9 : Int32)) dX12_helperTold_44 (by decide) ?_
    refine s_callVI (pc := 46) (as := [.int (0 : Int32), .int (9 : Int32)]) (st := []) dX12_helperTold_46 lk_12_341 kd_253 (t_X12_number N (0 : Int32) (9 : Int32) μ_5) (by omega) rfl (by decide) rfl (fun x4 μ_6 => ?_)
    refine s_istore (pc := 49) (lv' := [(5, .int x4), (4, .int x3), (2, .long x2), (0, .ref 253), (1, .int a1)]) dX12_helperTold_49 (by decide) rfl ?_
    refine s_aload_n (pc := 51) 3 dX12_helperTold_51 rfl rfl ?_
    refine s_aload_n (pc := 52) 3 dX12_helperTold_52 rfl rfl ?_
    refine s_getR (pc := 53) (ci := 12) (k := 22) (r := 268) dX12_helperTold_53 fl_12_57 kd_253 rfl rs_253_22 ?_
    refine s_callVV (pc := 56) (as := [.ref 268]) (st := []) dX12_helperTold_56 lk_12_337 kd_253 (t_X12_asks N 268 μ_6) (by omega) rfl (by decide) rfl (fun _ μ_7 => ?_)
    refine s_aload_n (pc := 59) 3 dX12_helperTold_59 rfl rfl ?_
    refine s_iconst (pc := 60) (v := (0 : Int32)) dX12_helperTold_60 (by decide) ?_
    refine s_bipush (pc := 61) (v := (10 : Int32)) dX12_helperTold_61 (by decide) ?_
    refine s_callVI (pc := 63) (as := [.int (0 : Int32), .int (10 : Int32)]) (st := []) dX12_helperTold_63 lk_12_341 kd_253 (t_X12_number N (0 : Int32) (10 : Int32) μ_7) (by omega) rfl (by decide) rfl (fun x5 μ_8 => ?_)
    refine s_istore (pc := 66) (lv' := [(6, .int x5), (5, .int x4), (4, .int x3), (2, .long x2), (0, .ref 253), (1, .int a1)]) dX12_helperTold_66 (by decide) rfl ?_
    refine s_aload_n (pc := 68) 4 dX12_helperTold_68 rfl rfl ?_
    refine s_getI (pc := 69) (ci := 12) (k := 5) dX12_helperTold_69 fl_12_263 kd_253 rfl ?_
    refine s_if_eq (pc := 72) (tgt := 76) dX12_helperTold_72 (by decide) ?_ ?_
    · refine s_iconst (pc := 76) (v := (3 : Int32)) dX12_helperTold_76 (by decide) ?_
      refine s_aload_n (pc := 77) 4 dX12_helperTold_77 rfl rfl ?_
      refine s_iconst (pc := 78) (v := (2 : Int32)) dX12_helperTold_78 (by decide) ?_
      refine s_lload_n (pc := 79) 3 dX12_helperTold_79 rfl rfl ?_
      refine s_callVI (pc := 80) (as := [.int (2 : Int32), .long x2]) (st := [.int (3 : Int32)]) dX12_helperTold_80 lk_12_345 kd_253 (t_X12_adds N (2 : Int32) x2 μ_8) (by omega) rfl (Nat.le_of_ble_eq_true rfl) rfl (fun x6 μ_9 => ?_)
      refine s_imul (pc := 83) dX12_helperTold_83 ?_
      refine s_letI (fun x7 => ?_)
      refine s_istore (pc := 84) (lv' := [(7, .int x7), (6, .int x5), (5, .int x4), (4, .int x3), (2, .long x2), (0, .ref 253), (1, .int a1)]) dX12_helperTold_84 (by decide) rfl ?_
      refine s_aload_n (pc := 86) 5 dX12_helperTold_86 rfl rfl ?_
      refine s_getR (pc := 87) (ci := 12) (k := 46) (r := 291) dX12_helperTold_87 fl_12_127 kd_253 rfl rs_253_46 ?_
      refine s_iload (pc := 90) 0 dX12_helperTold_90 rfl ?_
      refine s_iload (pc := 92) 3 dX12_helperTold_92 rfl ?_
      refine s_iast (pc := 94) dX12_helperTold_94 kd_291 (fun μ_10 => ?_)
      refine s_aload_n (pc := 95) 5 dX12_helperTold_95 rfl rfl ?_
      refine s_getR (pc := 96) (ci := 12) (k := 46) (r := 291) dX12_helperTold_96 fl_12_127 kd_253 rfl rs_253_46 ?_
      refine s_iload (pc := 99) 0 dX12_helperTold_99 rfl ?_
      refine s_iconst (pc := 101) (v := (1 : Int32)) dX12_helperTold_101 (by decide) ?_
      refine s_iadd (pc := 102) dX12_helperTold_102 ?_
      refine s_iload (pc := 103) 2 dX12_helperTold_103 rfl ?_
      refine s_iast (pc := 105) dX12_helperTold_105 kd_291 (fun μ_11 => ?_)
      refine s_aload_n (pc := 106) 5 dX12_helperTold_106 rfl rfl ?_
      refine s_getR (pc := 107) (ci := 12) (k := 46) (r := 291) dX12_helperTold_107 fl_12_127 kd_253 rfl rs_253_46 ?_
      refine s_iload (pc := 110) 0 dX12_helperTold_110 rfl ?_
      refine s_iconst (pc := 112) (v := (2 : Int32)) dX12_helperTold_112 (by decide) ?_
      refine s_iadd (pc := 113) dX12_helperTold_113 ?_
      refine s_iload (pc := 114) 1 dX12_helperTold_114 rfl ?_
      refine s_iast (pc := 116) dX12_helperTold_116 kd_291 (fun μ_12 => ?_)
      exact s_vret (pc := 117) dX12_helperTold_117 rfl
    · exact s_vret (pc := 75) dX12_helperTold_75 rfl
  · exact s_vret (pc := 10) dX12_helperTold_10 rfl
def f_X12_qWordHere (N : Nat) (μ : z_S) : Option (Int32 × z_S) :=
  z_bn (f_X12_isHere N 319 μ) fun x1 μ_1 => if x1 = 0 then (z_bn (f_X12_isHere N 320 μ_1) fun x2 μ_2 => if x2 = 0 then (z_bn (f_X12_isHere N 321 μ_2) fun x3 μ_3 => if x3 = 0 then (z_bn (f_X12_isHere N 322 μ_3) fun x4 μ_4 => if x4 = 0 then (z_bn (f_X12_isHere N 323 μ_4) fun x5 μ_5 => if x5 = 0 then (z_bn (f_X12_isHere N 324 μ_5) fun x6 μ_6 => if x6 = 0 then (z_bn (f_X12_isHere N 325 μ_6) fun x7 μ_7 => if x7 = 0 then (z_bn (f_X12_isHere N 326 μ_7) fun x8 μ_8 => if x8 = 0 then (z_bn (f_X12_isHere N 327 μ_8) fun x9 μ_9 => if x9 = 0 then (z_bn (f_X12_isHere N 328 μ_9) fun x10 μ_10 => if x10 = 0 then (z_bn (f_X12_isHere N 329 μ_10) fun x11 μ_11 => if x11 = 0 then (some ((-1 : Int32), μ_11)) else some ((10 : Int32), μ_11)) else some ((9 : Int32), μ_10)) else some ((8 : Int32), μ_9)) else some ((7 : Int32), μ_8)) else some ((6 : Int32), μ_7)) else some ((5 : Int32), μ_6)) else some ((4 : Int32), μ_5)) else some ((3 : Int32), μ_4)) else some ((2 : Int32), μ_3)) else some ((1 : Int32), μ_2)) else some ((0 : Int32), μ_1)
theorem t_X12_qWordHere (N : Nat) (μ : z_S) : z_met false rI mX12_qWordHere 2 [.ref 253] μ (f_X12_qWordHere N μ) := by
  refine z_met.of (by decide +kernel) (by show _ ≤ _; first | decide | exact Nat.le_of_ble_eq_true rfl) (lv := [(0, .ref 253)]) rfl ?_
  unfold f_X12_qWordHere
  refine s_aload_n (pc := 0) 0 dX12_qWordHere_0 rfl rfl ?_
  refine s_aload_n (pc := 1) 0 dX12_qWordHere_1 rfl rfl ?_
  refine s_getR (pc := 2) (ci := 12) (k := 83) (r := 319) dX12_qWordHere_2 fl_12_215 kd_253 rfl rs_253_83 ?_
  refine s_callVI (pc := 5) (as := [.ref 319]) (st := []) dX12_qWordHere_5 lk_12_286 kd_253 (t_X12_isHere N 319 μ) (by omega) rfl (by decide) rfl (fun x1 μ_1 => ?_)
  refine s_if_eq (pc := 8) (tgt := 13) dX12_qWordHere_8 (by decide) ?_ ?_
  · refine s_aload_n (pc := 13) 0 dX12_qWordHere_13 rfl rfl ?_
    refine s_aload_n (pc := 14) 0 dX12_qWordHere_14 rfl rfl ?_
    refine s_getR (pc := 15) (ci := 12) (k := 84) (r := 320) dX12_qWordHere_15 fl_12_218 kd_253 rfl rs_253_84 ?_
    refine s_callVI (pc := 18) (as := [.ref 320]) (st := []) dX12_qWordHere_18 lk_12_286 kd_253 (t_X12_isHere N 320 μ_1) (by omega) rfl (by decide) rfl (fun x2 μ_2 => ?_)
    refine s_if_eq (pc := 21) (tgt := 26) dX12_qWordHere_21 (by decide) ?_ ?_
    · refine s_aload_n (pc := 26) 0 dX12_qWordHere_26 rfl rfl ?_
      refine s_aload_n (pc := 27) 0 dX12_qWordHere_27 rfl rfl ?_
      refine s_getR (pc := 28) (ci := 12) (k := 85) (r := 321) dX12_qWordHere_28 fl_12_221 kd_253 rfl rs_253_85 ?_
      refine s_callVI (pc := 31) (as := [.ref 321]) (st := []) dX12_qWordHere_31 lk_12_286 kd_253 (t_X12_isHere N 321 μ_2) (by omega) rfl (by decide) rfl (fun x3 μ_3 => ?_)
      refine s_if_eq (pc := 34) (tgt := 39) dX12_qWordHere_34 (by decide) ?_ ?_
      · refine s_aload_n (pc := 39) 0 dX12_qWordHere_39 rfl rfl ?_
        refine s_aload_n (pc := 40) 0 dX12_qWordHere_40 rfl rfl ?_
        refine s_getR (pc := 41) (ci := 12) (k := 86) (r := 322) dX12_qWordHere_41 fl_12_224 kd_253 rfl rs_253_86 ?_
        refine s_callVI (pc := 44) (as := [.ref 322]) (st := []) dX12_qWordHere_44 lk_12_286 kd_253 (t_X12_isHere N 322 μ_3) (by omega) rfl (by decide) rfl (fun x4 μ_4 => ?_)
        refine s_if_eq (pc := 47) (tgt := 52) dX12_qWordHere_47 (by decide) ?_ ?_
        · refine s_aload_n (pc := 52) 0 dX12_qWordHere_52 rfl rfl ?_
          refine s_aload_n (pc := 53) 0 dX12_qWordHere_53 rfl rfl ?_
          refine s_getR (pc := 54) (ci := 12) (k := 87) (r := 323) dX12_qWordHere_54 fl_12_227 kd_253 rfl rs_253_87 ?_
          refine s_callVI (pc := 57) (as := [.ref 323]) (st := []) dX12_qWordHere_57 lk_12_286 kd_253 (t_X12_isHere N 323 μ_4) (by omega) rfl (by decide) rfl (fun x5 μ_5 => ?_)
          refine s_if_eq (pc := 60) (tgt := 65) dX12_qWordHere_60 (by decide) ?_ ?_
          · refine s_aload_n (pc := 65) 0 dX12_qWordHere_65 rfl rfl ?_
            refine s_aload_n (pc := 66) 0 dX12_qWordHere_66 rfl rfl ?_
            refine s_getR (pc := 67) (ci := 12) (k := 88) (r := 324) dX12_qWordHere_67 fl_12_230 kd_253 rfl rs_253_88 ?_
            refine s_callVI (pc := 70) (as := [.ref 324]) (st := []) dX12_qWordHere_70 lk_12_286 kd_253 (t_X12_isHere N 324 μ_5) (by omega) rfl (by decide) rfl (fun x6 μ_6 => ?_)
            refine s_if_eq (pc := 73) (tgt := 78) dX12_qWordHere_73 (by decide) ?_ ?_
            · refine s_aload_n (pc := 78) 0 dX12_qWordHere_78 rfl rfl ?_
              refine s_aload_n (pc := 79) 0 dX12_qWordHere_79 rfl rfl ?_
              refine s_getR (pc := 80) (ci := 12) (k := 89) (r := 325) dX12_qWordHere_80 fl_12_233 kd_253 rfl rs_253_89 ?_
              refine s_callVI (pc := 83) (as := [.ref 325]) (st := []) dX12_qWordHere_83 lk_12_286 kd_253 (t_X12_isHere N 325 μ_6) (by omega) rfl (by decide) rfl (fun x7 μ_7 => ?_)
              refine s_if_eq (pc := 86) (tgt := 92) dX12_qWordHere_86 (by decide) ?_ ?_
              · refine s_aload_n (pc := 92) 0 dX12_qWordHere_92 rfl rfl ?_
                refine s_aload_n (pc := 93) 0 dX12_qWordHere_93 rfl rfl ?_
                refine s_getR (pc := 94) (ci := 12) (k := 90) (r := 326) dX12_qWordHere_94 fl_12_236 kd_253 rfl rs_253_90 ?_
                refine s_callVI (pc := 97) (as := [.ref 326]) (st := []) dX12_qWordHere_97 lk_12_286 kd_253 (t_X12_isHere N 326 μ_7) (by omega) rfl (by decide) rfl (fun x8 μ_8 => ?_)
                refine s_if_eq (pc := 100) (tgt := 106) dX12_qWordHere_100 (by decide) ?_ ?_
                · refine s_aload_n (pc := 106) 0 dX12_qWordHere_106 rfl rfl ?_
                  refine s_aload_n (pc := 107) 0 dX12_qWordHere_107 rfl rfl ?_
                  refine s_getR (pc := 108) (ci := 12) (k := 91) (r := 327) dX12_qWordHere_108 fl_12_239 kd_253 rfl rs_253_91 ?_
                  refine s_callVI (pc := 111) (as := [.ref 327]) (st := []) dX12_qWordHere_111 lk_12_286 kd_253 (t_X12_isHere N 327 μ_8) (by omega) rfl (by decide) rfl (fun x9 μ_9 => ?_)
                  refine s_if_eq (pc := 114) (tgt := 120) dX12_qWordHere_114 (by decide) ?_ ?_
                  · refine s_aload_n (pc := 120) 0 dX12_qWordHere_120 rfl rfl ?_
                    refine s_aload_n (pc := 121) 0 dX12_qWordHere_121 rfl rfl ?_
                    refine s_getR (pc := 122) (ci := 12) (k := 92) (r := 328) dX12_qWordHere_122 fl_12_242 kd_253 rfl rs_253_92 ?_
                    refine s_callVI (pc := 125) (as := [.ref 328]) (st := []) dX12_qWordHere_125 lk_12_286 kd_253 (t_X12_isHere N 328 μ_9) (by omega) rfl (by decide) rfl (fun x10 μ_10 => ?_)
                    refine s_if_eq (pc := 128) (tgt := 134) dX12_qWordHere_128 (by decide) ?_ ?_
                    · refine s_aload_n (pc := 134) 0 dX12_qWordHere_134 rfl rfl ?_
                      refine s_aload_n (pc := 135) 0 dX12_qWordHere_135 rfl rfl ?_
                      refine s_getR (pc := 136) (ci := 12) (k := 93) (r := 329) dX12_qWordHere_136 fl_12_245 kd_253 rfl rs_253_93 ?_
                      refine s_callVI (pc := 139) (as := [.ref 329]) (st := []) dX12_qWordHere_139 lk_12_286 kd_253 (t_X12_isHere N 329 μ_10) (by omega) rfl (by decide) rfl (fun x11 μ_11 => ?_)
                      refine s_if_eq (pc := 142) (tgt := 148) dX12_qWordHere_142 (by decide) ?_ ?_
                      · refine s_iconst (pc := 148) (v := (-1 : Int32)) dX12_qWordHere_148 (by decide) ?_
                        exact s_iret (pc := 149) rfl dX12_qWordHere_149 rfl
                      · refine s_bipush (pc := 145) (v := (10 : Int32)) dX12_qWordHere_145 (by decide) ?_
                        exact s_iret (pc := 147) rfl dX12_qWordHere_147 rfl
                    · refine s_bipush (pc := 131) (v := (9 : Int32)) dX12_qWordHere_131 (by decide) ?_
                      exact s_iret (pc := 133) rfl dX12_qWordHere_133 rfl
                  · refine s_bipush (pc := 117) (v := (8 : Int32)) dX12_qWordHere_117 (by decide) ?_
                    exact s_iret (pc := 119) rfl dX12_qWordHere_119 rfl
                · refine s_bipush (pc := 103) (v := (7 : Int32)) dX12_qWordHere_103 (by decide) ?_
                  exact s_iret (pc := 105) rfl dX12_qWordHere_105 rfl
              · refine s_bipush (pc := 89) (v := (6 : Int32)) dX12_qWordHere_89 (by decide) ?_
                exact s_iret (pc := 91) rfl dX12_qWordHere_91 rfl
            · refine s_iconst (pc := 76) (v := (5 : Int32)) dX12_qWordHere_76 (by decide) ?_
              exact s_iret (pc := 77) rfl dX12_qWordHere_77 rfl
          · refine s_iconst (pc := 63) (v := (4 : Int32)) dX12_qWordHere_63 (by decide) ?_
            exact s_iret (pc := 64) rfl dX12_qWordHere_64 rfl
        · refine s_iconst (pc := 50) (v := (3 : Int32)) dX12_qWordHere_50 (by decide) ?_
          exact s_iret (pc := 51) rfl dX12_qWordHere_51 rfl
      · refine s_iconst (pc := 37) (v := (2 : Int32)) dX12_qWordHere_37 (by decide) ?_
        exact s_iret (pc := 38) rfl dX12_qWordHere_38 rfl
    · refine s_iconst (pc := 24) (v := (1 : Int32)) dX12_qWordHere_24 (by decide) ?_
      exact s_iret (pc := 25) rfl dX12_qWordHere_25 rfl
  · refine s_iconst (pc := 11) (v := (0 : Int32)) dX12_qWordHere_11 (by decide) ?_
    exact s_iret (pc := 12) rfl dX12_qWordHere_12 rfl
def f_X12_qWordOf (N : Nat) (a1 : Int32) (a2 : Int32) (μ : z_S) : Option (Int32 × z_S) :=
  z_bn (f_X12_qWordHere N μ) fun x1 μ_1 => if x1 < a1 then (some ((-1 : Int32), μ_1)) else if x1 < a2 then (z_bn (f_X12_isAllowed N x1 μ_1) fun x2 μ_2 => if x2 = 0 then (some ((-1 : Int32), μ_2)) else some (x1, μ_2)) else some ((-1 : Int32), μ_1)
theorem t_X12_qWordOf (N : Nat) (a1 : Int32) (a2 : Int32) (μ : z_S) : z_met false rI mX12_qWordOf 3 [.ref 253, .int a1, .int a2] μ (f_X12_qWordOf N a1 a2 μ) := by
  refine z_met.of (by decide +kernel) (by show _ ≤ _; first | decide | exact Nat.le_of_ble_eq_true rfl) (lv := [(0, .ref 253), (1, .int a1), (2, .int a2)]) rfl ?_
  unfold f_X12_qWordOf
  refine s_aload_n (pc := 0) 0 dX12_qWordOf_0 rfl rfl ?_
  refine s_callVI (pc := 1) (as := []) (st := []) dX12_qWordOf_1 lk_12_603 kd_253 (t_X12_qWordHere N μ) (by omega) rfl (by decide) rfl (fun x1 μ_1 => ?_)
  refine s_istore_n (pc := 4) (lv' := [(3, .int x1), (0, .ref 253), (1, .int a1), (2, .int a2)]) dX12_qWordOf_4 rfl (by decide) rfl ?_
  refine s_iload_n (pc := 5) 0 dX12_qWordOf_5 rfl rfl ?_
  refine s_iload_n (pc := 6) 2 dX12_qWordOf_6 rfl rfl ?_
  refine s_icmp_lt (pc := 7) (tgt := 27) dX12_qWordOf_7 (by decide) ?_ ?_
  · refine s_iconst (pc := 27) (v := (-1 : Int32)) dX12_qWordOf_27 (by decide) ?_
    exact s_iret (pc := 28) rfl dX12_qWordOf_28 rfl
  · refine s_iload_n (pc := 10) 0 dX12_qWordOf_10 rfl rfl ?_
    refine s_iload_n (pc := 11) 3 dX12_qWordOf_11 rfl rfl ?_
    refine s_icmp_ge (pc := 12) (tgt := 27) dX12_qWordOf_12 (by decide) ?_ ?_
    · refine s_aload_n (pc := 15) 1 dX12_qWordOf_15 rfl rfl ?_
      refine s_iload_n (pc := 16) 0 dX12_qWordOf_16 rfl rfl ?_
      refine s_callVI (pc := 17) (as := [.int x1]) (st := []) dX12_qWordOf_17 lk_12_606 kd_253 (t_X12_isAllowed N x1 μ_1) (by omega) rfl (by decide) rfl (fun x2 μ_2 => ?_)
      refine s_if_eq (pc := 20) (tgt := 27) dX12_qWordOf_20 (by decide) ?_ ?_
      · refine s_iconst (pc := 27) (v := (-1 : Int32)) dX12_qWordOf_27 (by decide) ?_
        exact s_iret (pc := 28) rfl dX12_qWordOf_28 rfl
      · refine s_iload_n (pc := 23) 0 dX12_qWordOf_23 rfl rfl ?_
        refine s_goto (pc := 24) (tgt := 28) dX12_qWordOf_24 (by decide) ?_
        exact s_iret (pc := 28) rfl dX12_qWordOf_28 rfl
    · refine s_iconst (pc := 27) (v := (-1 : Int32)) dX12_qWordOf_27 (by decide) ?_
      exact s_iret (pc := 28) rfl dX12_qWordOf_28 rfl
def f_X12_qOpens (N : Nat) (a1 : Int32) (a2 : Int32) (μ : z_S) : Option (Unit × z_S) :=
  if (μ.1 253 5) = 0 then (if (μ.1 253 98) = (6 : Int32) then (z_bn (f_X12_fail N (4 : Int32) a2 μ) fun _ μ_1 => some ((), μ_1)) else z_bd (z_setI μ 253 98 ((μ.1 253 98) + (1 : Int32))) fun μ_2 => z_in (μ_2.1 253 97) 1700 <| z_bd (z_setI μ_2 331 (μ_2.1 253 97).toNatClampNeg a1) fun μ_3 => z_bd (z_setI μ_3 253 97 ((μ_3.1 253 97) + (1 : Int32))) fun μ_4 => some ((), μ_4)) else some ((), μ)
theorem t_X12_qOpens (N : Nat) (a1 : Int32) (a2 : Int32) (μ : z_S) : z_met false rV mX12_qOpens 1 [.ref 253, .int a1, .int a2] μ (f_X12_qOpens N a1 a2 μ) := by
  refine z_met.of (by decide +kernel) (by show _ ≤ _; first | decide | exact Nat.le_of_ble_eq_true rfl) (lv := [(0, .ref 253), (1, .int a1), (2, .int a2)]) rfl ?_
  unfold f_X12_qOpens
  refine s_aload_n (pc := 0) 0 dX12_qOpens_0 rfl rfl ?_
  refine s_getI (pc := 1) (ci := 12) (k := 5) dX12_qOpens_1 fl_12_263 kd_253 rfl ?_
  refine s_if_eq (pc := 4) (tgt := 8) dX12_qOpens_4 (by decide) ?_ ?_
  · refine s_aload_n (pc := 8) 0 dX12_qOpens_8 rfl rfl ?_
    refine s_getI (pc := 9) (ci := 12) (k := 98) dX12_qOpens_9 fl_12_358 kd_253 rfl ?_
    refine s_bipush (pc := 12) (v := (6 : Int32)) dX12_qOpens_12 (by decide) ?_
    refine s_icmp_ne (pc := 14) (tgt := 24) dX12_qOpens_14 (by decide) ?_ ?_
    · refine s_aload_n (pc := 17) 0 dX12_qOpens_17 rfl rfl ?_
      refine s_iconst (pc := 18) (v := (4 : Int32)) dX12_qOpens_18 (by decide) ?_
      refine s_iload_n (pc := 19) 2 dX12_qOpens_19 rfl rfl ?_
      refine s_callVV (pc := 20) (as := [.int (4 : Int32), .int a2]) (st := []) dX12_qOpens_20 lk_12_293 kd_253 (t_X12_fail N (4 : Int32) a2 μ) (by omega) rfl (by decide) rfl (fun _ μ_1 => ?_)
      exact s_vret (pc := 23) dX12_qOpens_23 rfl
    · refine s_aload_n (pc := 24) 0 dX12_qOpens_24 rfl rfl ?_
      refine s_dup (pc := 25) dX12_qOpens_25 rfl ?_
      refine s_getI (pc := 26) (ci := 12) (k := 98) dX12_qOpens_26 fl_12_358 kd_253 rfl ?_
      refine s_iconst (pc := 29) (v := (1 : Int32)) dX12_qOpens_29 (by decide) ?_
      refine s_iadd (pc := 30) dX12_qOpens_30 ?_
      refine s_putI (pc := 31) (ci := 12) (k := 98) dX12_qOpens_31 fl_12_358 kd_253 rfl rfl (fun μ_2 => ?_)
      refine s_aload_n (pc := 34) 0 dX12_qOpens_34 rfl rfl ?_
      refine s_getR (pc := 35) (ci := 12) (k := 96) (r := 331) dX12_qOpens_35 fl_12_251 kd_253 rfl rs_253_96 ?_
      refine s_aload_n (pc := 38) 0 dX12_qOpens_38 rfl rfl ?_
      refine s_getI (pc := 39) (ci := 12) (k := 97) dX12_qOpens_39 fl_12_355 kd_253 rfl ?_
      refine s_iload_n (pc := 42) 1 dX12_qOpens_42 rfl rfl ?_
      refine s_iast (pc := 43) dX12_qOpens_43 kd_331 (fun μ_3 => ?_)
      refine s_aload_n (pc := 44) 0 dX12_qOpens_44 rfl rfl ?_
      refine s_dup (pc := 45) dX12_qOpens_45 rfl ?_
      refine s_getI (pc := 46) (ci := 12) (k := 97) dX12_qOpens_46 fl_12_355 kd_253 rfl ?_
      refine s_iconst (pc := 49) (v := (1 : Int32)) dX12_qOpens_49 (by decide) ?_
      refine s_iadd (pc := 50) dX12_qOpens_50 ?_
      refine s_putI (pc := 51) (ci := 12) (k := 97) dX12_qOpens_51 fl_12_355 kd_253 rfl rfl (fun μ_4 => ?_)
      exact s_vret (pc := 54) dX12_qOpens_54 rfl
  · exact s_vret (pc := 7) dX12_qOpens_7 rfl
def f_X12_qAsksWord (N : Nat) (a1 : Int32) (μ : z_S) : Option (Unit × z_S) :=
  z_bd a1 fun x1 => if x1 = 0 then (z_bn (f_X12_asks N 319 μ) fun _ μ_1 => some ((), μ_1)) else if x1 = 1 then (z_bn (f_X12_asks N 320 μ) fun _ μ_2 => some ((), μ_2)) else if x1 = 2 then (z_bn (f_X12_asks N 321 μ) fun _ μ_3 => some ((), μ_3)) else if x1 = 3 then (z_bn (f_X12_asks N 322 μ) fun _ μ_4 => some ((), μ_4)) else if x1 = 4 then (z_bn (f_X12_asks N 323 μ) fun _ μ_5 => some ((), μ_5)) else if x1 = 5 then (z_bn (f_X12_asks N 324 μ) fun _ μ_6 => some ((), μ_6)) else if x1 = 6 then (z_bn (f_X12_asks N 325 μ) fun _ μ_7 => some ((), μ_7)) else if x1 = 7 then (z_bn (f_X12_asks N 326 μ) fun _ μ_8 => some ((), μ_8)) else if x1 = 8 then (z_bn (f_X12_asks N 327 μ) fun _ μ_9 => some ((), μ_9)) else if x1 = 9 then (z_bn (f_X12_asks N 328 μ) fun _ μ_10 => some ((), μ_10)) else z_bn (f_X12_asks N 329 μ) fun _ μ_11 => some ((), μ_11)
theorem t_X12_qAsksWord (N : Nat) (a1 : Int32) (μ : z_S) : z_met false rV mX12_qAsksWord 4 [.ref 253, .int a1] μ (f_X12_qAsksWord N a1 μ) := by
  refine z_met.of (by decide +kernel) (by show _ ≤ _; first | decide | exact Nat.le_of_ble_eq_true rfl) (lv := [(0, .ref 253), (1, .int a1)]) rfl ?_
  unfold f_X12_qAsksWord
  refine s_iload_n (pc := 0) 1 dX12_qAsksWord_0 rfl rfl ?_
  refine s_letI (fun x1 => ?_)
  refine s_ite (fun hs1 => ?_) (fun hs1 => ?_)
  · subst hs1
    refine s_tswIn (pc := 1) (tgt := 56) dX12_qAsksWord_1 (by decide) (by decide) rfl (by decide) ?_
    refine s_aload_n (pc := 56) 0 dX12_qAsksWord_56 rfl rfl ?_
    refine s_aload_n (pc := 57) 0 dX12_qAsksWord_57 rfl rfl ?_
    refine s_getR (pc := 58) (ci := 12) (k := 83) (r := 319) dX12_qAsksWord_58 fl_12_215 kd_253 rfl rs_253_83 ?_
    refine s_callVV (pc := 61) (as := [.ref 319]) (st := []) dX12_qAsksWord_61 lk_12_337 kd_253 (t_X12_asks N 319 μ) (by omega) rfl (by decide) rfl (fun _ μ_1 => ?_)
    refine s_goto (pc := 64) (tgt := 174) dX12_qAsksWord_64 (by decide) ?_
    exact s_vret (pc := 174) dX12_qAsksWord_174 rfl
  refine s_ite (fun hs2 => ?_) (fun hs2 => ?_)
  · subst hs2
    refine s_tswIn (pc := 1) (tgt := 67) dX12_qAsksWord_1 (by decide) (by decide) rfl (by decide) ?_
    refine s_aload_n (pc := 67) 0 dX12_qAsksWord_67 rfl rfl ?_
    refine s_aload_n (pc := 68) 0 dX12_qAsksWord_68 rfl rfl ?_
    refine s_getR (pc := 69) (ci := 12) (k := 84) (r := 320) dX12_qAsksWord_69 fl_12_218 kd_253 rfl rs_253_84 ?_
    refine s_callVV (pc := 72) (as := [.ref 320]) (st := []) dX12_qAsksWord_72 lk_12_337 kd_253 (t_X12_asks N 320 μ) (by omega) rfl (by decide) rfl (fun _ μ_2 => ?_)
    refine s_goto (pc := 75) (tgt := 174) dX12_qAsksWord_75 (by decide) ?_
    exact s_vret (pc := 174) dX12_qAsksWord_174 rfl
  refine s_ite (fun hs3 => ?_) (fun hs3 => ?_)
  · subst hs3
    refine s_tswIn (pc := 1) (tgt := 78) dX12_qAsksWord_1 (by decide) (by decide) rfl (by decide) ?_
    refine s_aload_n (pc := 78) 0 dX12_qAsksWord_78 rfl rfl ?_
    refine s_aload_n (pc := 79) 0 dX12_qAsksWord_79 rfl rfl ?_
    refine s_getR (pc := 80) (ci := 12) (k := 85) (r := 321) dX12_qAsksWord_80 fl_12_221 kd_253 rfl rs_253_85 ?_
    refine s_callVV (pc := 83) (as := [.ref 321]) (st := []) dX12_qAsksWord_83 lk_12_337 kd_253 (t_X12_asks N 321 μ) (by omega) rfl (by decide) rfl (fun _ μ_3 => ?_)
    refine s_goto (pc := 86) (tgt := 174) dX12_qAsksWord_86 (by decide) ?_
    exact s_vret (pc := 174) dX12_qAsksWord_174 rfl
  refine s_ite (fun hs4 => ?_) (fun hs4 => ?_)
  · subst hs4
    refine s_tswIn (pc := 1) (tgt := 89) dX12_qAsksWord_1 (by decide) (by decide) rfl (by decide) ?_
    refine s_aload_n (pc := 89) 0 dX12_qAsksWord_89 rfl rfl ?_
    refine s_aload_n (pc := 90) 0 dX12_qAsksWord_90 rfl rfl ?_
    refine s_getR (pc := 91) (ci := 12) (k := 86) (r := 322) dX12_qAsksWord_91 fl_12_224 kd_253 rfl rs_253_86 ?_
    refine s_callVV (pc := 94) (as := [.ref 322]) (st := []) dX12_qAsksWord_94 lk_12_337 kd_253 (t_X12_asks N 322 μ) (by omega) rfl (by decide) rfl (fun _ μ_4 => ?_)
    refine s_goto (pc := 97) (tgt := 174) dX12_qAsksWord_97 (by decide) ?_
    exact s_vret (pc := 174) dX12_qAsksWord_174 rfl
  refine s_ite (fun hs5 => ?_) (fun hs5 => ?_)
  · subst hs5
    refine s_tswIn (pc := 1) (tgt := 100) dX12_qAsksWord_1 (by decide) (by decide) rfl (by decide) ?_
    refine s_aload_n (pc := 100) 0 dX12_qAsksWord_100 rfl rfl ?_
    refine s_aload_n (pc := 101) 0 dX12_qAsksWord_101 rfl rfl ?_
    refine s_getR (pc := 102) (ci := 12) (k := 87) (r := 323) dX12_qAsksWord_102 fl_12_227 kd_253 rfl rs_253_87 ?_
    refine s_callVV (pc := 105) (as := [.ref 323]) (st := []) dX12_qAsksWord_105 lk_12_337 kd_253 (t_X12_asks N 323 μ) (by omega) rfl (by decide) rfl (fun _ μ_5 => ?_)
    refine s_goto (pc := 108) (tgt := 174) dX12_qAsksWord_108 (by decide) ?_
    exact s_vret (pc := 174) dX12_qAsksWord_174 rfl
  refine s_ite (fun hs6 => ?_) (fun hs6 => ?_)
  · subst hs6
    refine s_tswIn (pc := 1) (tgt := 111) dX12_qAsksWord_1 (by decide) (by decide) rfl (by decide) ?_
    refine s_aload_n (pc := 111) 0 dX12_qAsksWord_111 rfl rfl ?_
    refine s_aload_n (pc := 112) 0 dX12_qAsksWord_112 rfl rfl ?_
    refine s_getR (pc := 113) (ci := 12) (k := 88) (r := 324) dX12_qAsksWord_113 fl_12_230 kd_253 rfl rs_253_88 ?_
    refine s_callVV (pc := 116) (as := [.ref 324]) (st := []) dX12_qAsksWord_116 lk_12_337 kd_253 (t_X12_asks N 324 μ) (by omega) rfl (by decide) rfl (fun _ μ_6 => ?_)
    refine s_goto (pc := 119) (tgt := 174) dX12_qAsksWord_119 (by decide) ?_
    exact s_vret (pc := 174) dX12_qAsksWord_174 rfl
  refine s_ite (fun hs7 => ?_) (fun hs7 => ?_)
  · subst hs7
    refine s_tswIn (pc := 1) (tgt := 122) dX12_qAsksWord_1 (by decide) (by decide) rfl (by decide) ?_
    refine s_aload_n (pc := 122) 0 dX12_qAsksWord_122 rfl rfl ?_
    refine s_aload_n (pc := 123) 0 dX12_qAsksWord_123 rfl rfl ?_
    refine s_getR (pc := 124) (ci := 12) (k := 89) (r := 325) dX12_qAsksWord_124 fl_12_233 kd_253 rfl rs_253_89 ?_
    refine s_callVV (pc := 127) (as := [.ref 325]) (st := []) dX12_qAsksWord_127 lk_12_337 kd_253 (t_X12_asks N 325 μ) (by omega) rfl (by decide) rfl (fun _ μ_7 => ?_)
    refine s_goto (pc := 130) (tgt := 174) dX12_qAsksWord_130 (by decide) ?_
    exact s_vret (pc := 174) dX12_qAsksWord_174 rfl
  refine s_ite (fun hs8 => ?_) (fun hs8 => ?_)
  · subst hs8
    refine s_tswIn (pc := 1) (tgt := 133) dX12_qAsksWord_1 (by decide) (by decide) rfl (by decide) ?_
    refine s_aload_n (pc := 133) 0 dX12_qAsksWord_133 rfl rfl ?_
    refine s_aload_n (pc := 134) 0 dX12_qAsksWord_134 rfl rfl ?_
    refine s_getR (pc := 135) (ci := 12) (k := 90) (r := 326) dX12_qAsksWord_135 fl_12_236 kd_253 rfl rs_253_90 ?_
    refine s_callVV (pc := 138) (as := [.ref 326]) (st := []) dX12_qAsksWord_138 lk_12_337 kd_253 (t_X12_asks N 326 μ) (by omega) rfl (by decide) rfl (fun _ μ_8 => ?_)
    refine s_goto (pc := 141) (tgt := 174) dX12_qAsksWord_141 (by decide) ?_
    exact s_vret (pc := 174) dX12_qAsksWord_174 rfl
  refine s_ite (fun hs9 => ?_) (fun hs9 => ?_)
  · subst hs9
    refine s_tswIn (pc := 1) (tgt := 144) dX12_qAsksWord_1 (by decide) (by decide) rfl (by decide) ?_
    refine s_aload_n (pc := 144) 0 dX12_qAsksWord_144 rfl rfl ?_
    refine s_aload_n (pc := 145) 0 dX12_qAsksWord_145 rfl rfl ?_
    refine s_getR (pc := 146) (ci := 12) (k := 91) (r := 327) dX12_qAsksWord_146 fl_12_239 kd_253 rfl rs_253_91 ?_
    refine s_callVV (pc := 149) (as := [.ref 327]) (st := []) dX12_qAsksWord_149 lk_12_337 kd_253 (t_X12_asks N 327 μ) (by omega) rfl (by decide) rfl (fun _ μ_9 => ?_)
    refine s_goto (pc := 152) (tgt := 174) dX12_qAsksWord_152 (by decide) ?_
    exact s_vret (pc := 174) dX12_qAsksWord_174 rfl
  refine s_ite (fun hs10 => ?_) (fun hs10 => ?_)
  · subst hs10
    refine s_tswIn (pc := 1) (tgt := 155) dX12_qAsksWord_1 (by decide) (by decide) rfl (by decide) ?_
    refine s_aload_n (pc := 155) 0 dX12_qAsksWord_155 rfl rfl ?_
    refine s_aload_n (pc := 156) 0 dX12_qAsksWord_156 rfl rfl ?_
    refine s_getR (pc := 157) (ci := 12) (k := 92) (r := 328) dX12_qAsksWord_157 fl_12_242 kd_253 rfl rs_253_92 ?_
    refine s_callVV (pc := 160) (as := [.ref 328]) (st := []) dX12_qAsksWord_160 lk_12_337 kd_253 (t_X12_asks N 328 μ) (by omega) rfl (by decide) rfl (fun _ μ_10 => ?_)
    refine s_goto (pc := 163) (tgt := 174) dX12_qAsksWord_163 (by decide) ?_
    exact s_vret (pc := 174) dX12_qAsksWord_174 rfl
  · have q_hs1 := lv_neT (a := 0) hs1 (by decide)
    have q_hs2 := lv_neT (a := 1) hs2 (by decide)
    have q_hs3 := lv_neT (a := 2) hs3 (by decide)
    have q_hs4 := lv_neT (a := 3) hs4 (by decide)
    have q_hs5 := lv_neT (a := 4) hs5 (by decide)
    have q_hs6 := lv_neT (a := 5) hs6 (by decide)
    have q_hs7 := lv_neT (a := 6) hs7 (by decide)
    have q_hs8 := lv_neT (a := 7) hs8 (by decide)
    have q_hs9 := lv_neT (a := 8) hs9 (by decide)
    have q_hs10 := lv_neT (a := 9) hs10 (by decide)
    refine s_tswOut (pc := 1) (tgt := 166) dX12_qAsksWord_1 (by omega) (by decide) ?_
    refine s_aload_n (pc := 166) 0 dX12_qAsksWord_166 rfl rfl ?_
    refine s_aload_n (pc := 167) 0 dX12_qAsksWord_167 rfl rfl ?_
    refine s_getR (pc := 168) (ci := 12) (k := 93) (r := 329) dX12_qAsksWord_168 fl_12_245 kd_253 rfl rs_253_93 ?_
    refine s_callVV (pc := 171) (as := [.ref 329]) (st := []) dX12_qAsksWord_171 lk_12_337 kd_253 (t_X12_asks N 329 μ) (by omega) rfl (by decide) rfl (fun _ μ_11 => ?_)
    exact s_vret (pc := 174) dX12_qAsksWord_174 rfl
def f_X12_qCode (N : Nat) (a1 : Int32) (μ : z_S) : Option (Unit × z_S) :=
  z_in (μ.1 253 95) 1700 <| z_bd (z_setI μ 330 (μ.1 253 95).toNatClampNeg a1) fun μ_1 => z_bd (z_setI μ_1 253 95 ((μ_1.1 253 95) + (1 : Int32))) fun μ_2 => some ((), μ_2)
theorem t_X12_qCode (N : Nat) (a1 : Int32) (μ : z_S) : z_met false rV mX12_qCode 0 [.ref 253, .int a1] μ (f_X12_qCode N a1 μ) := by
  refine z_met.of (by decide +kernel) (by show _ ≤ _; first | decide | exact Nat.le_of_ble_eq_true rfl) (lv := [(0, .ref 253), (1, .int a1)]) rfl ?_
  unfold f_X12_qCode
  refine s_aload_n (pc := 0) 0 dX12_qCode_0 rfl rfl ?_
  refine s_getR (pc := 1) (ci := 12) (k := 94) (r := 330) dX12_qCode_1 fl_12_248 kd_253 rfl rs_253_94 ?_
  refine s_aload_n (pc := 4) 0 dX12_qCode_4 rfl rfl ?_
  refine s_getI (pc := 5) (ci := 12) (k := 95) dX12_qCode_5 fl_12_352 kd_253 rfl ?_
  refine s_iload_n (pc := 8) 1 dX12_qCode_8 rfl rfl ?_
  refine s_iast (pc := 9) dX12_qCode_9 kd_330 (fun μ_1 => ?_)
  refine s_aload_n (pc := 10) 0 dX12_qCode_10 rfl rfl ?_
  refine s_dup (pc := 11) dX12_qCode_11 rfl ?_
  refine s_getI (pc := 12) (ci := 12) (k := 95) dX12_qCode_12 fl_12_352 kd_253 rfl ?_
  refine s_iconst (pc := 15) (v := (1 : Int32)) dX12_qCode_15 (by decide) ?_
  refine s_iadd (pc := 16) dX12_qCode_16 ?_
  refine s_putI (pc := 17) (ci := 12) (k := 95) dX12_qCode_17 fl_12_352 kd_253 rfl rfl (fun μ_2 => ?_)
  exact s_vret (pc := 20) dX12_qCode_20 rfl
def f_X12_qDrops (N : Nat) (μ : z_S) : Option (Unit × z_S) :=
  z_bd (z_setI μ 253 97 ((μ.1 253 97) - (1 : Int32))) fun μ_1 => z_in (μ_1.1 253 97) 1700 <| z_bn (f_X12_qCode N (μ_1.1 331 (μ_1.1 253 97).toNatClampNeg) μ_1) fun _ μ_2 => some ((), μ_2)
theorem t_X12_qDrops (N : Nat) (μ : z_S) : z_met false rV mX12_qDrops 1 [.ref 253] μ (f_X12_qDrops N μ) := by
  refine z_met.of (by decide +kernel) (by show _ ≤ _; first | decide | exact Nat.le_of_ble_eq_true rfl) (lv := [(0, .ref 253)]) rfl ?_
  unfold f_X12_qDrops
  refine s_aload_n (pc := 0) 0 dX12_qDrops_0 rfl rfl ?_
  refine s_dup (pc := 1) dX12_qDrops_1 rfl ?_
  refine s_getI (pc := 2) (ci := 12) (k := 97) dX12_qDrops_2 fl_12_355 kd_253 rfl ?_
  refine s_iconst (pc := 5) (v := (1 : Int32)) dX12_qDrops_5 (by decide) ?_
  refine s_isub (pc := 6) dX12_qDrops_6 ?_
  refine s_putI (pc := 7) (ci := 12) (k := 97) dX12_qDrops_7 fl_12_355 kd_253 rfl rfl (fun μ_1 => ?_)
  refine s_aload_n (pc := 10) 0 dX12_qDrops_10 rfl rfl ?_
  refine s_aload_n (pc := 11) 0 dX12_qDrops_11 rfl rfl ?_
  refine s_getR (pc := 12) (ci := 12) (k := 96) (r := 331) dX12_qDrops_12 fl_12_251 kd_253 rfl rs_253_96 ?_
  refine s_aload_n (pc := 15) 0 dX12_qDrops_15 rfl rfl ?_
  refine s_getI (pc := 16) (ci := 12) (k := 97) dX12_qDrops_16 fl_12_355 kd_253 rfl ?_
  refine s_iald (pc := 19) dX12_qDrops_19 kd_331 ?_
  refine s_callVV (pc := 20) (as := [.int (μ_1.1 331 (μ_1.1 253 97).toNatClampNeg)]) (st := []) dX12_qDrops_20 lk_12_594 kd_253 (t_X12_qCode N (μ_1.1 331 (μ_1.1 253 97).toNatClampNeg) μ_1) (by omega) rfl (by decide) rfl (fun _ μ_2 => ?_)
  exact s_vret (pc := 23) dX12_qDrops_23 rfl
def b_X12_qEndsPart_L0 (N : Nat) (kb : z_S → Option (Unit × z_S)) (μ : z_S) : Option (Unit × z_S) :=
  if (μ.1 253 5) = 0 then (if (μ.1 253 99) < (μ.1 253 97) then (z_in ((μ.1 253 97) - (1 : Int32)) 1700 <| if (μ.1 331 ((μ.1 253 97) - (1 : Int32)).toNatClampNeg) < (60 : Int32) then (some ((), μ)) else z_bd (z_setI μ 253 98 ((μ.1 253 98) - (1 : Int32))) fun μ_1 => z_bn (f_X12_qDrops N μ_1) fun _ μ_2 => kb μ_2) else some ((), μ)) else some ((), μ)
theorem tb_X12_qEndsPart_L0 (N : Nat) (kb : z_S → Option (Unit × z_S)) (hkb : ∀ (μ : z_S), z_sim false rV mX12_qEndsPart 2 (kb μ) 0 [(0, .ref 253)] [] μ) (μ : z_S) : z_sim false rV mX12_qEndsPart 2 (b_X12_qEndsPart_L0 N kb μ) 0 [(0, .ref 253)] [] μ := by
  unfold b_X12_qEndsPart_L0
  refine s_aload_n (pc := 0) 0 dX12_qEndsPart_0 rfl rfl ?_
  refine s_getI (pc := 1) (ci := 12) (k := 5) dX12_qEndsPart_1 fl_12_263 kd_253 rfl ?_
  refine s_if_ne (pc := 4) (tgt := 51) dX12_qEndsPart_4 (by decide) ?_ ?_
  · refine s_aload_n (pc := 7) 0 dX12_qEndsPart_7 rfl rfl ?_
    refine s_getI (pc := 8) (ci := 12) (k := 97) dX12_qEndsPart_8 fl_12_355 kd_253 rfl ?_
    refine s_aload_n (pc := 11) 0 dX12_qEndsPart_11 rfl rfl ?_
    refine s_getI (pc := 12) (ci := 12) (k := 99) dX12_qEndsPart_12 fl_12_361 kd_253 rfl ?_
    refine s_icmp_le (pc := 15) (tgt := 51) dX12_qEndsPart_15 (by decide) ?_ ?_
    · refine s_aload_n (pc := 18) 0 dX12_qEndsPart_18 rfl rfl ?_
      refine s_getR (pc := 19) (ci := 12) (k := 96) (r := 331) dX12_qEndsPart_19 fl_12_251 kd_253 rfl rs_253_96 ?_
      refine s_aload_n (pc := 22) 0 dX12_qEndsPart_22 rfl rfl ?_
      refine s_getI (pc := 23) (ci := 12) (k := 97) dX12_qEndsPart_23 fl_12_355 kd_253 rfl ?_
      refine s_iconst (pc := 26) (v := (1 : Int32)) dX12_qEndsPart_26 (by decide) ?_
      refine s_isub (pc := 27) dX12_qEndsPart_27 ?_
      refine s_iald (pc := 28) dX12_qEndsPart_28 kd_331 ?_
      refine s_bipush (pc := 29) (v := (60 : Int32)) dX12_qEndsPart_29 (by decide) ?_
      refine s_icmp_lt (pc := 31) (tgt := 51) dX12_qEndsPart_31 (by decide) ?_ ?_
      · exact s_vret (pc := 51) dX12_qEndsPart_51 rfl
      · refine s_aload_n (pc := 34) 0 dX12_qEndsPart_34 rfl rfl ?_
        refine s_dup (pc := 35) dX12_qEndsPart_35 rfl ?_
        refine s_getI (pc := 36) (ci := 12) (k := 98) dX12_qEndsPart_36 fl_12_358 kd_253 rfl ?_
        refine s_iconst (pc := 39) (v := (1 : Int32)) dX12_qEndsPart_39 (by decide) ?_
        refine s_isub (pc := 40) dX12_qEndsPart_40 ?_
        refine s_putI (pc := 41) (ci := 12) (k := 98) dX12_qEndsPart_41 fl_12_358 kd_253 rfl rfl (fun μ_1 => ?_)
        refine s_aload_n (pc := 44) 0 dX12_qEndsPart_44 rfl rfl ?_
        refine s_callVV (pc := 45) (as := []) (st := []) dX12_qEndsPart_45 lk_12_600 kd_253 (t_X12_qDrops N μ_1) (by omega) rfl (by decide) rfl (fun _ μ_2 => ?_)
        refine s_goto (pc := 48) (tgt := 0) dX12_qEndsPart_48 (by decide) ?_
        exact hkb μ_2
    · exact s_vret (pc := 51) dX12_qEndsPart_51 rfl
  · exact s_vret (pc := 51) dX12_qEndsPart_51 rfl
def f_X12_qEndsPart_L0 (N : Nat) : Nat → z_S → Option (Unit × z_S)
  | 0, _ => none
  | n + 1, μ => b_X12_qEndsPart_L0 N (f_X12_qEndsPart_L0 N n) μ
theorem t_X12_qEndsPart_L0 (N : Nat) : ∀ (n : Nat) (μ : z_S), z_sim false rV mX12_qEndsPart 2 (f_X12_qEndsPart_L0 N n μ) 0 [(0, .ref 253)] [] μ
  | 0, _ => s_none
  | n + 1, μ => tb_X12_qEndsPart_L0 N (f_X12_qEndsPart_L0 N n) (t_X12_qEndsPart_L0 N n) μ
def f_X12_qEndsPart (N : Nat) (μ : z_S) : Option (Unit × z_S) :=
  f_X12_qEndsPart_L0 N N μ
theorem t_X12_qEndsPart (N : Nat) (μ : z_S) : z_met false rV mX12_qEndsPart 2 [.ref 253] μ (f_X12_qEndsPart N μ) := by
  refine z_met.of (by decide +kernel) (by show _ ≤ _; first | decide | exact Nat.le_of_ble_eq_true rfl) (lv := [(0, .ref 253)]) rfl ?_
  unfold f_X12_qEndsPart
  refine t_X12_qEndsPart_L0 N N μ
def f_X12_qPartTold_B183 (N : Nat) (kb : Int32 → z_S → Option (Unit × z_S)) (e186 : z_S → Option (Unit × z_S)) (v1 : Int32) (μ : z_S) : Option (Unit × z_S) :=
  kb v1 μ
theorem t_X12_qPartTold_B183 (N : Nat)   (kb : Int32 → z_S → Option (Unit × z_S)) (e186 : z_S → Option (Unit × z_S)) (hkb : ∀ (a1 : Int32) (μ : z_S), z_sim false rV mX12_qPartTold 5 (kb a1 μ) 2 [(0, .ref 253), (1, .int a1)] [] μ) (he186 : ∀  (μ : z_S), z_sim false rV mX12_qPartTold 5 (e186 μ) 186 [(0, .ref 253)] [] μ) (v1 : Int32)  (μ : z_S) : z_sim false rV mX12_qPartTold 5 (f_X12_qPartTold_B183 N  kb e186 v1 μ) 183 [(0, .ref 253), (1, .int v1)] [] μ := by
  unfold f_X12_qPartTold_B183
  refine s_goto (pc := 183) (tgt := 2) dX12_qPartTold_183 (by decide) ?_
  exact hkb v1 μ
def f_X12_qPartTold_B144 (N : Nat) (kb : Int32 → z_S → Option (Unit × z_S)) (e186 : z_S → Option (Unit × z_S)) (v1 : Int32) (μ : z_S) : Option (Unit × z_S) :=
  z_bn (f_X12_asksSign N (40 : Int32) μ) fun _ μ_12 => f_X12_qPartTold_B183 N kb e186 v1 μ_12
theorem t_X12_qPartTold_B144 (N : Nat)   (kb : Int32 → z_S → Option (Unit × z_S)) (e186 : z_S → Option (Unit × z_S)) (hkb : ∀ (a1 : Int32) (μ : z_S), z_sim false rV mX12_qPartTold 5 (kb a1 μ) 2 [(0, .ref 253), (1, .int a1)] [] μ) (he186 : ∀  (μ : z_S), z_sim false rV mX12_qPartTold 5 (e186 μ) 186 [(0, .ref 253)] [] μ) (v1 : Int32)  (μ : z_S) : z_sim false rV mX12_qPartTold 5 (f_X12_qPartTold_B144 N  kb e186 v1 μ) 144 [(0, .ref 253), (1, .int v1)] [] μ := by
  unfold f_X12_qPartTold_B144
  refine s_aload_n (pc := 144) 0 dX12_qPartTold_144 rfl rfl ?_
  refine s_bipush (pc := 145) (v := (40 : Int32)) dX12_qPartTold_145 (by decide) ?_
  refine s_callVV (pc := 147) (as := [.int (40 : Int32)]) (st := []) dX12_qPartTold_147 lk_12_395 kd_253 (t_X12_asksSign N (40 : Int32) μ) (by omega) rfl (by decide) rfl (fun _ μ_12 => ?_)
  refine s_goto (pc := 150) (tgt := 183) dX12_qPartTold_150 (by decide) ?_
  exact t_X12_qPartTold_B183 N kb e186 hkb he186 v1 μ_12
def f_X12_qPartTold_B139 (N : Nat) (kb : Int32 → z_S → Option (Unit × z_S)) (e186 : z_S → Option (Unit × z_S)) (v1 : Int32) (v5 : Int32) (s0 : Int32) (μ : z_S) : Option (Unit × z_S) :=
  z_bn (f_X12_qOpens N s0 v5 μ) fun _ μ_13 => f_X12_qPartTold_B144 N kb e186 v1 μ_13
theorem t_X12_qPartTold_B139 (N : Nat)   (kb : Int32 → z_S → Option (Unit × z_S)) (e186 : z_S → Option (Unit × z_S)) (hkb : ∀ (a1 : Int32) (μ : z_S), z_sim false rV mX12_qPartTold 5 (kb a1 μ) 2 [(0, .ref 253), (1, .int a1)] [] μ) (he186 : ∀  (μ : z_S), z_sim false rV mX12_qPartTold 5 (e186 μ) 186 [(0, .ref 253)] [] μ) (v1 : Int32) (v5 : Int32) (s0 : Int32)  (μ : z_S) : z_sim false rV mX12_qPartTold 5 (f_X12_qPartTold_B139 N  kb e186 v1 v5 s0 μ) 139 [(0, .ref 253), (1, .int v1), (5, .int v5)] [.int s0, .ref 253] μ := by
  unfold f_X12_qPartTold_B139
  refine s_iload (pc := 139) 2 dX12_qPartTold_139 rfl ?_
  refine s_callVV (pc := 141) (as := [.int s0, .int v5]) (st := []) dX12_qPartTold_141 lk_12_612 kd_253 (t_X12_qOpens N s0 v5 μ) (by omega) rfl (by decide) rfl (fun _ μ_13 => ?_)
  refine s_sub (lv' := [(0, .ref 253), (1, .int v1)]) [0, 1] rfl ?_
  exact t_X12_qPartTold_B144 N kb e186 hkb he186 v1 μ_13
def f_X12_qPartTold_B118 (N : Nat) (kb : Int32 → z_S → Option (Unit × z_S)) (e186 : z_S → Option (Unit × z_S)) (v1 : Int32) (v4 : Int32) (s0 : Int32) (μ : z_S) : Option (Unit × z_S) :=
  if s0 = (-1 : Int32) then (f_X12_qPartTold_B144 N kb e186 v1 μ) else if v4 = 0 then (f_X12_qPartTold_B139 N kb e186 v1 s0 (22 : Int32) μ) else f_X12_qPartTold_B139 N kb e186 v1 s0 (21 : Int32) μ
theorem t_X12_qPartTold_B118 (N : Nat)   (kb : Int32 → z_S → Option (Unit × z_S)) (e186 : z_S → Option (Unit × z_S)) (hkb : ∀ (a1 : Int32) (μ : z_S), z_sim false rV mX12_qPartTold 5 (kb a1 μ) 2 [(0, .ref 253), (1, .int a1)] [] μ) (he186 : ∀  (μ : z_S), z_sim false rV mX12_qPartTold 5 (e186 μ) 186 [(0, .ref 253)] [] μ) (v1 : Int32) (v4 : Int32) (s0 : Int32)  (μ : z_S) : z_sim false rV mX12_qPartTold 5 (f_X12_qPartTold_B118 N  kb e186 v1 v4 s0 μ) 118 [(0, .ref 253), (1, .int v1), (4, .int v4)] [.int s0] μ := by
  unfold f_X12_qPartTold_B118
  refine s_istore (pc := 118) (lv' := [(5, .int s0), (0, .ref 253), (1, .int v1), (4, .int v4)]) dX12_qPartTold_118 (by decide) rfl ?_
  refine s_iload (pc := 120) 0 dX12_qPartTold_120 rfl ?_
  refine s_iconst (pc := 122) (v := (-1 : Int32)) dX12_qPartTold_122 (by decide) ?_
  refine s_icmp_eq (pc := 123) (tgt := 144) dX12_qPartTold_123 (by decide) ?_ ?_
  · refine s_sub (lv' := [(0, .ref 253), (1, .int v1)]) [1, 2] rfl ?_
    exact t_X12_qPartTold_B144 N kb e186 hkb he186 v1 μ
  · refine s_aload_n (pc := 126) 1 dX12_qPartTold_126 rfl rfl ?_
    refine s_iload (pc := 127) 3 dX12_qPartTold_127 rfl ?_
    refine s_if_eq (pc := 129) (tgt := 137) dX12_qPartTold_129 (by decide) ?_ ?_
    · refine s_bipush (pc := 137) (v := (22 : Int32)) dX12_qPartTold_137 (by decide) ?_
      refine s_sub (lv' := [(0, .ref 253), (1, .int v1), (5, .int s0)]) [1, 2, 0] rfl ?_
      exact t_X12_qPartTold_B139 N kb e186 hkb he186 v1 s0 (22 : Int32) μ
    · refine s_bipush (pc := 132) (v := (21 : Int32)) dX12_qPartTold_132 (by decide) ?_
      refine s_goto (pc := 134) (tgt := 139) dX12_qPartTold_134 (by decide) ?_
      refine s_sub (lv' := [(0, .ref 253), (1, .int v1), (5, .int s0)]) [1, 2, 0] rfl ?_
      exact t_X12_qPartTold_B139 N kb e186 hkb he186 v1 s0 (21 : Int32) μ
def f_X12_qPartTold_B101 (N : Nat) (kb : Int32 → z_S → Option (Unit × z_S)) (e186 : z_S → Option (Unit × z_S)) (v1 : Int32) (v4 : Int32) (μ : z_S) : Option (Unit × z_S) :=
  z_bn (f_X12_look N μ) fun x6 μ_11 => if x6 = (40 : Int32) then (f_X12_qPartTold_B118 N kb e186 v1 v4 (μ_11.1 253 2) μ_11) else f_X12_qPartTold_B118 N kb e186 v1 v4 (-1 : Int32) μ_11
theorem t_X12_qPartTold_B101 (N : Nat)   (kb : Int32 → z_S → Option (Unit × z_S)) (e186 : z_S → Option (Unit × z_S)) (hkb : ∀ (a1 : Int32) (μ : z_S), z_sim false rV mX12_qPartTold 5 (kb a1 μ) 2 [(0, .ref 253), (1, .int a1)] [] μ) (he186 : ∀  (μ : z_S), z_sim false rV mX12_qPartTold 5 (e186 μ) 186 [(0, .ref 253)] [] μ) (v1 : Int32) (v4 : Int32)  (μ : z_S) : z_sim false rV mX12_qPartTold 5 (f_X12_qPartTold_B101 N  kb e186 v1 v4 μ) 101 [(0, .ref 253), (1, .int v1), (4, .int v4)] [] μ := by
  unfold f_X12_qPartTold_B101
  refine s_aload_n (pc := 101) 0 dX12_qPartTold_101 rfl rfl ?_
  refine s_callVI (pc := 102) (as := []) (st := []) dX12_qPartTold_102 lk_12_275 kd_253 (t_X12_look N μ) (by omega) rfl (by decide) rfl (fun x6 μ_11 => ?_)
  refine s_bipush (pc := 105) (v := (40 : Int32)) dX12_qPartTold_105 (by decide) ?_
  refine s_icmp_ne (pc := 107) (tgt := 117) dX12_qPartTold_107 (by decide) ?_ ?_
  · refine s_aload_n (pc := 110) 0 dX12_qPartTold_110 rfl rfl ?_
    refine s_getI (pc := 111) (ci := 12) (k := 2) dX12_qPartTold_111 fl_12_269 kd_253 rfl ?_
    refine s_goto (pc := 114) (tgt := 118) dX12_qPartTold_114 (by decide) ?_
    exact t_X12_qPartTold_B118 N kb e186 hkb he186 v1 v4 (μ_11.1 253 2) μ_11
  · refine s_iconst (pc := 117) (v := (-1 : Int32)) dX12_qPartTold_117 (by decide) ?_
    exact t_X12_qPartTold_B118 N kb e186 hkb he186 v1 v4 (-1 : Int32) μ_11
def f_X12_qPartTold_B78 (N : Nat) (kb : Int32 → z_S → Option (Unit × z_S)) (e186 : z_S → Option (Unit × z_S)) (v1 : Int32) (μ : z_S) : Option (Unit × z_S) :=
  z_bn (f_X12_eats N 317 μ) fun x5 μ_9 => if x5 = 0 then (z_bn (f_X12_asks N 318 μ_9) fun _ μ_10 => f_X12_qPartTold_B101 N kb e186 v1 x5 μ_10) else f_X12_qPartTold_B101 N kb e186 v1 x5 μ_9
theorem t_X12_qPartTold_B78 (N : Nat)   (kb : Int32 → z_S → Option (Unit × z_S)) (e186 : z_S → Option (Unit × z_S)) (hkb : ∀ (a1 : Int32) (μ : z_S), z_sim false rV mX12_qPartTold 5 (kb a1 μ) 2 [(0, .ref 253), (1, .int a1)] [] μ) (he186 : ∀  (μ : z_S), z_sim false rV mX12_qPartTold 5 (e186 μ) 186 [(0, .ref 253)] [] μ) (v1 : Int32)  (μ : z_S) : z_sim false rV mX12_qPartTold 5 (f_X12_qPartTold_B78 N  kb e186 v1 μ) 78 [(0, .ref 253), (1, .int v1)] [] μ := by
  unfold f_X12_qPartTold_B78
  refine s_aload_n (pc := 78) 0 dX12_qPartTold_78 rfl rfl ?_
  refine s_aload_n (pc := 79) 0 dX12_qPartTold_79 rfl rfl ?_
  refine s_getR (pc := 80) (ci := 12) (k := 81) (r := 317) dX12_qPartTold_80 fl_12_209 kd_253 rfl rs_253_81 ?_
  refine s_callVI (pc := 83) (as := [.ref 317]) (st := []) dX12_qPartTold_83 lk_12_290 kd_253 (t_X12_eats N 317 μ) (by omega) rfl (by decide) rfl (fun x5 μ_9 => ?_)
  refine s_istore (pc := 86) (lv' := [(4, .int x5), (0, .ref 253), (1, .int v1)]) dX12_qPartTold_86 (by decide) rfl ?_
  refine s_iload (pc := 88) 0 dX12_qPartTold_88 rfl ?_
  refine s_if_ne (pc := 90) (tgt := 101) dX12_qPartTold_90 (by decide) ?_ ?_
  · refine s_aload_n (pc := 93) 1 dX12_qPartTold_93 rfl rfl ?_
    refine s_aload_n (pc := 94) 1 dX12_qPartTold_94 rfl rfl ?_
    refine s_getR (pc := 95) (ci := 12) (k := 82) (r := 318) dX12_qPartTold_95 fl_12_212 kd_253 rfl rs_253_82 ?_
    refine s_callVV (pc := 98) (as := [.ref 318]) (st := []) dX12_qPartTold_98 lk_12_337 kd_253 (t_X12_asks N 318 μ_9) (by omega) rfl (by decide) rfl (fun _ μ_10 => ?_)
    refine s_sub (lv' := [(0, .ref 253), (1, .int v1), (4, .int x5)]) [1, 2, 0] rfl ?_
    exact t_X12_qPartTold_B101 N kb e186 hkb he186 v1 x5 μ_10
  · refine s_sub (lv' := [(0, .ref 253), (1, .int v1), (4, .int x5)]) [1, 2, 0] rfl ?_
    exact t_X12_qPartTold_B101 N kb e186 hkb he186 v1 x5 μ_9
def b_X12_qPartTold_L2 (N : Nat) (kb : Int32 → z_S → Option (Unit × z_S)) (e186 : z_S → Option (Unit × z_S)) (v1 : Int32) (μ : z_S) : Option (Unit × z_S) :=
  if v1 = 0 then (e186 μ) else if (μ.1 253 5) = 0 then (z_bn (f_X12_look N μ) fun x1 μ_1 => z_bn (f_X12_qWordOf N (10 : Int32) (11 : Int32) μ_1) fun x2 μ_2 => if x1 = (40 : Int32) then (z_bn (f_X12_qOpens N (20 : Int32) (μ_2.1 253 2) μ_2) fun _ μ_3 => z_bd (z_setI μ_3 253 2 ((μ_3.1 253 2) + (1 : Int32))) fun μ_4 => f_X12_qPartTold_B183 N kb e186 v1 μ_4) else z_bn (f_X12_isHere N 317 μ_2) fun x3 μ_5 => if x3 = 0 then (z_bn (f_X12_isHere N 318 μ_5) fun x4 μ_6 => if x4 = 0 then (if x2 = (-1 : Int32) then (f_X12_qPartTold_B183 N kb e186 (0 : Int32) μ_6) else z_bn (f_X12_qOpens N (((60 : Int32) + x2) - (10 : Int32)) (μ_6.1 253 2) μ_6) fun _ μ_7 => z_bn (f_X12_qAsksWord N x2 μ_7) fun _ μ_8 => f_X12_qPartTold_B183 N kb e186 v1 μ_8) else f_X12_qPartTold_B78 N kb e186 v1 μ_6) else f_X12_qPartTold_B78 N kb e186 v1 μ_5) else e186 μ
theorem tb_X12_qPartTold_L2 (N : Nat) (kb : Int32 → z_S → Option (Unit × z_S)) (e186 : z_S → Option (Unit × z_S)) (hkb : ∀ (a1 : Int32) (μ : z_S), z_sim false rV mX12_qPartTold 5 (kb a1 μ) 2 [(0, .ref 253), (1, .int a1)] [] μ) (he186 : ∀ (μ : z_S), z_sim false rV mX12_qPartTold 5 (e186 μ) 186 [(0, .ref 253)] [] μ) (v1 : Int32) (μ : z_S) : z_sim false rV mX12_qPartTold 5 (b_X12_qPartTold_L2 N kb e186 v1 μ) 2 [(0, .ref 253), (1, .int v1)] [] μ := by
  unfold b_X12_qPartTold_L2
  refine s_iload_n (pc := 2) 1 dX12_qPartTold_2 rfl rfl ?_
  refine s_if_eq (pc := 3) (tgt := 186) dX12_qPartTold_3 (by decide) ?_ ?_
  · refine s_sub (lv' := [(0, .ref 253)]) [0] rfl ?_
    exact he186 μ
  · refine s_aload_n (pc := 6) 0 dX12_qPartTold_6 rfl rfl ?_
    refine s_getI (pc := 7) (ci := 12) (k := 5) dX12_qPartTold_7 fl_12_263 kd_253 rfl ?_
    refine s_if_ne (pc := 10) (tgt := 186) dX12_qPartTold_10 (by decide) ?_ ?_
    · refine s_aload_n (pc := 13) 0 dX12_qPartTold_13 rfl rfl ?_
      refine s_callVI (pc := 14) (as := []) (st := []) dX12_qPartTold_14 lk_12_275 kd_253 (t_X12_look N μ) (by omega) rfl (by decide) rfl (fun x1 μ_1 => ?_)
      refine s_istore_n (pc := 17) (lv' := [(2, .int x1), (0, .ref 253), (1, .int v1)]) dX12_qPartTold_17 rfl (by decide) rfl ?_
      refine s_aload_n (pc := 18) 1 dX12_qPartTold_18 rfl rfl ?_
      refine s_bipush (pc := 19) (v := (10 : Int32)) dX12_qPartTold_19 (by decide) ?_
      refine s_bipush (pc := 21) (v := (11 : Int32)) dX12_qPartTold_21 (by decide) ?_
      refine s_callVI (pc := 23) (as := [.int (10 : Int32), .int (11 : Int32)]) (st := []) dX12_qPartTold_23 lk_12_609 kd_253 (t_X12_qWordOf N (10 : Int32) (11 : Int32) μ_1) (by omega) rfl (by decide) rfl (fun x2 μ_2 => ?_)
      refine s_istore_n (pc := 26) (lv' := [(3, .int x2), (2, .int x1), (0, .ref 253), (1, .int v1)]) dX12_qPartTold_26 rfl (by decide) rfl ?_
      refine s_iload_n (pc := 27) 1 dX12_qPartTold_27 rfl rfl ?_
      refine s_bipush (pc := 28) (v := (40 : Int32)) dX12_qPartTold_28 (by decide) ?_
      refine s_icmp_ne (pc := 30) (tgt := 56) dX12_qPartTold_30 (by decide) ?_ ?_
      · refine s_aload_n (pc := 33) 2 dX12_qPartTold_33 rfl rfl ?_
        refine s_bipush (pc := 34) (v := (20 : Int32)) dX12_qPartTold_34 (by decide) ?_
        refine s_aload_n (pc := 36) 2 dX12_qPartTold_36 rfl rfl ?_
        refine s_getI (pc := 37) (ci := 12) (k := 2) dX12_qPartTold_37 fl_12_269 kd_253 rfl ?_
        refine s_callVV (pc := 40) (as := [.int (20 : Int32), .int (μ_2.1 253 2)]) (st := []) dX12_qPartTold_40 lk_12_612 kd_253 (t_X12_qOpens N (20 : Int32) (μ_2.1 253 2) μ_2) (by omega) rfl (by decide) rfl (fun _ μ_3 => ?_)
        refine s_aload_n (pc := 43) 2 dX12_qPartTold_43 rfl rfl ?_
        refine s_dup (pc := 44) dX12_qPartTold_44 rfl ?_
        refine s_getI (pc := 45) (ci := 12) (k := 2) dX12_qPartTold_45 fl_12_269 kd_253 rfl ?_
        refine s_iconst (pc := 48) (v := (1 : Int32)) dX12_qPartTold_48 (by decide) ?_
        refine s_iadd (pc := 49) dX12_qPartTold_49 ?_
        refine s_putI (pc := 50) (ci := 12) (k := 2) dX12_qPartTold_50 fl_12_269 kd_253 rfl rfl (fun μ_4 => ?_)
        refine s_goto (pc := 53) (tgt := 183) dX12_qPartTold_53 (by decide) ?_
        refine s_sub (lv' := [(0, .ref 253), (1, .int v1)]) [2, 3] rfl ?_
        exact t_X12_qPartTold_B183 N kb e186 hkb he186 v1 μ_4
      · refine s_aload_n (pc := 56) 2 dX12_qPartTold_56 rfl rfl ?_
        refine s_aload_n (pc := 57) 2 dX12_qPartTold_57 rfl rfl ?_
        refine s_getR (pc := 58) (ci := 12) (k := 81) (r := 317) dX12_qPartTold_58 fl_12_209 kd_253 rfl rs_253_81 ?_
        refine s_callVI (pc := 61) (as := [.ref 317]) (st := []) dX12_qPartTold_61 lk_12_286 kd_253 (t_X12_isHere N 317 μ_2) (by omega) rfl (by decide) rfl (fun x3 μ_5 => ?_)
        refine s_if_ne (pc := 64) (tgt := 78) dX12_qPartTold_64 (by decide) ?_ ?_
        · refine s_aload_n (pc := 67) 2 dX12_qPartTold_67 rfl rfl ?_
          refine s_aload_n (pc := 68) 2 dX12_qPartTold_68 rfl rfl ?_
          refine s_getR (pc := 69) (ci := 12) (k := 82) (r := 318) dX12_qPartTold_69 fl_12_212 kd_253 rfl rs_253_82 ?_
          refine s_callVI (pc := 72) (as := [.ref 318]) (st := []) dX12_qPartTold_72 lk_12_286 kd_253 (t_X12_isHere N 318 μ_5) (by omega) rfl (by decide) rfl (fun x4 μ_6 => ?_)
          refine s_if_eq (pc := 75) (tgt := 153) dX12_qPartTold_75 (by decide) ?_ ?_
          · refine s_iload_n (pc := 153) 0 dX12_qPartTold_153 rfl rfl ?_
            refine s_iconst (pc := 154) (v := (-1 : Int32)) dX12_qPartTold_154 (by decide) ?_
            refine s_icmp_eq (pc := 155) (tgt := 181) dX12_qPartTold_155 (by decide) ?_ ?_
            · refine s_iconst (pc := 181) (v := (0 : Int32)) dX12_qPartTold_181 (by decide) ?_
              refine s_istore_n (pc := 182) (lv' := [(1, .int (0 : Int32)), (3, .int x2), (2, .int x1), (0, .ref 253)]) dX12_qPartTold_182 rfl (by decide) rfl ?_
              refine s_sub (lv' := [(0, .ref 253), (1, .int (0 : Int32))]) [3, 0] rfl ?_
              exact t_X12_qPartTold_B183 N kb e186 hkb he186 (0 : Int32) μ_6
            · refine s_aload_n (pc := 158) 2 dX12_qPartTold_158 rfl rfl ?_
              refine s_bipush (pc := 159) (v := (60 : Int32)) dX12_qPartTold_159 (by decide) ?_
              refine s_iload_n (pc := 161) 0 dX12_qPartTold_161 rfl rfl ?_
              refine s_iadd (pc := 162) dX12_qPartTold_162 ?_
              refine s_bipush (pc := 163) (v := (10 : Int32)) dX12_qPartTold_163 (by decide) ?_
              refine s_isub (pc := 165) dX12_qPartTold_165 ?_
              refine s_aload_n (pc := 166) 2 dX12_qPartTold_166 rfl rfl ?_
              refine s_getI (pc := 167) (ci := 12) (k := 2) dX12_qPartTold_167 fl_12_269 kd_253 rfl ?_
              refine s_callVV (pc := 170) (as := [.int (((60 : Int32) + x2) - (10 : Int32)), .int (μ_6.1 253 2)]) (st := []) dX12_qPartTold_170 lk_12_612 kd_253 (t_X12_qOpens N (((60 : Int32) + x2) - (10 : Int32)) (μ_6.1 253 2) μ_6) (by omega) rfl (by decide) rfl (fun _ μ_7 => ?_)
              refine s_aload_n (pc := 173) 2 dX12_qPartTold_173 rfl rfl ?_
              refine s_iload_n (pc := 174) 0 dX12_qPartTold_174 rfl rfl ?_
              refine s_callVV (pc := 175) (as := [.int x2]) (st := []) dX12_qPartTold_175 lk_12_615 kd_253 (t_X12_qAsksWord N x2 μ_7) (by omega) rfl (by decide) rfl (fun _ μ_8 => ?_)
              refine s_goto (pc := 178) (tgt := 183) dX12_qPartTold_178 (by decide) ?_
              refine s_sub (lv' := [(0, .ref 253), (1, .int v1)]) [2, 3] rfl ?_
              exact t_X12_qPartTold_B183 N kb e186 hkb he186 v1 μ_8
          · refine s_sub (lv' := [(0, .ref 253), (1, .int v1)]) [2, 3] rfl ?_
            exact t_X12_qPartTold_B78 N kb e186 hkb he186 v1 μ_6
        · refine s_sub (lv' := [(0, .ref 253), (1, .int v1)]) [2, 3] rfl ?_
          exact t_X12_qPartTold_B78 N kb e186 hkb he186 v1 μ_5
    · refine s_sub (lv' := [(0, .ref 253)]) [0] rfl ?_
      exact he186 μ
def f_X12_qPartTold_L2 (N : Nat) (e186 : z_S → Option (Unit × z_S)) : Nat → Int32 → z_S → Option (Unit × z_S)
  | 0, _, _ => none
  | n + 1, v1, μ => b_X12_qPartTold_L2 N (f_X12_qPartTold_L2 N e186 n) e186 v1 μ
theorem t_X12_qPartTold_L2 (N : Nat) (e186 : z_S → Option (Unit × z_S)) (he186 : ∀ (μ : z_S), z_sim false rV mX12_qPartTold 5 (e186 μ) 186 [(0, .ref 253)] [] μ) : ∀ (n : Nat) (v1 : Int32) (μ : z_S), z_sim false rV mX12_qPartTold 5 (f_X12_qPartTold_L2 N e186 n v1 μ) 2 [(0, .ref 253), (1, .int v1)] [] μ
  | 0, _, _ => s_none
  | n + 1, v1, μ => tb_X12_qPartTold_L2 N (f_X12_qPartTold_L2 N e186 n) e186 (t_X12_qPartTold_L2 N e186 he186 n) he186 v1 μ
def f_X12_qPartTold_B237 (N : Nat)  (s0 : Int32) (μ : z_S) : Option (Unit × z_S) :=
  z_bn (f_X12_qCode N s0 μ) fun _ μ_16 => z_bn (f_X12_qEndsPart N μ_16) fun _ μ_17 => some ((), μ_17)
theorem t_X12_qPartTold_B237 (N : Nat)     (s0 : Int32)  (μ : z_S) : z_sim false rV mX12_qPartTold 5 (f_X12_qPartTold_B237 N   s0 μ) 237 [(0, .ref 253)] [.int s0, .ref 253] μ := by
  unfold f_X12_qPartTold_B237
  refine s_callVV (pc := 237) (as := [.int s0]) (st := []) dX12_qPartTold_237 lk_12_594 kd_253 (t_X12_qCode N s0 μ) (by omega) rfl (by decide) rfl (fun _ μ_16 => ?_)
  refine s_aload_n (pc := 240) 0 dX12_qPartTold_240 rfl rfl ?_
  refine s_callVV (pc := 241) (as := []) (st := []) dX12_qPartTold_241 lk_12_618 kd_253 (t_X12_qEndsPart N μ_16) (by omega) rfl (by decide) rfl (fun _ μ_17 => ?_)
  exact s_vret (pc := 244) dX12_qPartTold_244 rfl
def f_X12_qPartTold_B212 (N : Nat)  (v2 : Int32) (μ : z_S) : Option (Unit × z_S) :=
  if v2 = (-1 : Int32) then (z_bn (f_X12_number N (0 : Int32) (9999 : Int32) μ) fun x8 μ_15 => f_X12_qPartTold_B237 N ((1000 : Int32) + x8) μ_15) else f_X12_qPartTold_B237 N ((40 : Int32) + v2) μ
theorem t_X12_qPartTold_B212 (N : Nat)     (v2 : Int32)  (μ : z_S) : z_sim false rV mX12_qPartTold 5 (f_X12_qPartTold_B212 N   v2 μ) 212 [(0, .ref 253), (2, .int v2)] [] μ := by
  unfold f_X12_qPartTold_B212
  refine s_aload_n (pc := 212) 0 dX12_qPartTold_212 rfl rfl ?_
  refine s_iload_n (pc := 213) 1 dX12_qPartTold_213 rfl rfl ?_
  refine s_iconst (pc := 214) (v := (-1 : Int32)) dX12_qPartTold_214 (by decide) ?_
  refine s_icmp_eq (pc := 215) (tgt := 225) dX12_qPartTold_215 (by decide) ?_ ?_
  · refine s_sipush (pc := 225) (v := (1000 : Int32)) dX12_qPartTold_225 (by decide) ?_
    refine s_aload_n (pc := 228) 0 dX12_qPartTold_228 rfl rfl ?_
    refine s_iconst (pc := 229) (v := (0 : Int32)) dX12_qPartTold_229 (by decide) ?_
    refine s_sipush (pc := 230) (v := (9999 : Int32)) dX12_qPartTold_230 (by decide) ?_
    refine s_callVI (pc := 233) (as := [.int (0 : Int32), .int (9999 : Int32)]) (st := [.int (1000 : Int32), .ref 253]) dX12_qPartTold_233 lk_12_341 kd_253 (t_X12_number N (0 : Int32) (9999 : Int32) μ) (by omega) rfl (Nat.le_of_ble_eq_true rfl) rfl (fun x8 μ_15 => ?_)
    refine s_iadd (pc := 236) dX12_qPartTold_236 ?_
    refine s_sub (lv' := [(0, .ref 253)]) [0] rfl ?_
    exact t_X12_qPartTold_B237 N ((1000 : Int32) + x8) μ_15
  · refine s_bipush (pc := 218) (v := (40 : Int32)) dX12_qPartTold_218 (by decide) ?_
    refine s_iload_n (pc := 220) 1 dX12_qPartTold_220 rfl rfl ?_
    refine s_iadd (pc := 221) dX12_qPartTold_221 ?_
    refine s_goto (pc := 222) (tgt := 237) dX12_qPartTold_222 (by decide) ?_
    refine s_sub (lv' := [(0, .ref 253)]) [0] rfl ?_
    exact t_X12_qPartTold_B237 N ((40 : Int32) + v2) μ
def f_X12_qPartTold_B186 (N : Nat)   (μ : z_S) : Option (Unit × z_S) :=
  if (μ.1 253 5) = 0 then (z_bn (f_X12_qWordOf N (0 : Int32) (10 : Int32) μ) fun x7 μ_14 => if x7 = (-1 : Int32) then (f_X12_qPartTold_B212 N x7 μ_14) else z_bn (f_X12_qAsksWord N x7 μ_14) fun _ μ_18 => f_X12_qPartTold_B212 N x7 μ_18) else some ((), μ)
theorem t_X12_qPartTold_B186 (N : Nat)       (μ : z_S) : z_sim false rV mX12_qPartTold 5 (f_X12_qPartTold_B186 N    μ) 186 [(0, .ref 253)] [] μ := by
  unfold f_X12_qPartTold_B186
  refine s_aload_n (pc := 186) 0 dX12_qPartTold_186 rfl rfl ?_
  refine s_getI (pc := 187) (ci := 12) (k := 5) dX12_qPartTold_187 fl_12_263 kd_253 rfl ?_
  refine s_if_eq (pc := 190) (tgt := 194) dX12_qPartTold_190 (by decide) ?_ ?_
  · refine s_aload_n (pc := 194) 0 dX12_qPartTold_194 rfl rfl ?_
    refine s_iconst (pc := 195) (v := (0 : Int32)) dX12_qPartTold_195 (by decide) ?_
    refine s_bipush (pc := 196) (v := (10 : Int32)) dX12_qPartTold_196 (by decide) ?_
    refine s_callVI (pc := 198) (as := [.int (0 : Int32), .int (10 : Int32)]) (st := []) dX12_qPartTold_198 lk_12_609 kd_253 (t_X12_qWordOf N (0 : Int32) (10 : Int32) μ) (by omega) rfl (by decide) rfl (fun x7 μ_14 => ?_)
    refine s_istore_n (pc := 201) (lv' := [(2, .int x7), (0, .ref 253)]) dX12_qPartTold_201 rfl (by decide) rfl ?_
    refine s_iload_n (pc := 202) 0 dX12_qPartTold_202 rfl rfl ?_
    refine s_iconst (pc := 203) (v := (-1 : Int32)) dX12_qPartTold_203 (by decide) ?_
    refine s_icmp_eq (pc := 204) (tgt := 212) dX12_qPartTold_204 (by decide) ?_ ?_
    · refine s_sub (lv' := [(0, .ref 253), (2, .int x7)]) [1, 0] rfl ?_
      exact t_X12_qPartTold_B212 N x7 μ_14
    · refine s_aload_n (pc := 207) 1 dX12_qPartTold_207 rfl rfl ?_
      refine s_iload_n (pc := 208) 0 dX12_qPartTold_208 rfl rfl ?_
      refine s_callVV (pc := 209) (as := [.int x7]) (st := []) dX12_qPartTold_209 lk_12_615 kd_253 (t_X12_qAsksWord N x7 μ_14) (by omega) rfl (by decide) rfl (fun _ μ_18 => ?_)
      refine s_sub (lv' := [(0, .ref 253), (2, .int x7)]) [1, 0] rfl ?_
      exact t_X12_qPartTold_B212 N x7 μ_18
  · exact s_vret (pc := 193) dX12_qPartTold_193 rfl
def f_X12_qPartTold (N : Nat) (μ : z_S) : Option (Unit × z_S) :=
  f_X12_qPartTold_L2 N (fun μ186 => f_X12_qPartTold_B186 N μ186) N (1 : Int32) μ
theorem t_X12_qPartTold (N : Nat) (μ : z_S) : z_met false rV mX12_qPartTold 5 [.ref 253] μ (f_X12_qPartTold N μ) := by
  refine z_met.of (by decide +kernel) (by show _ ≤ _; first | decide | exact Nat.le_of_ble_eq_true rfl) (lv := [(0, .ref 253)]) rfl ?_
  unfold f_X12_qPartTold
  refine s_iconst (pc := 0) (v := (1 : Int32)) dX12_qPartTold_0 (by decide) ?_
  refine s_istore_n (pc := 1) (lv' := [(1, .int (1 : Int32)), (0, .ref 253)]) dX12_qPartTold_1 rfl (by decide) rfl ?_
  refine s_sub (lv' := [(0, .ref 253), (1, .int (1 : Int32))]) [1, 0] rfl ?_
  refine t_X12_qPartTold_L2 N _ ?_ N (1 : Int32) μ
  · intro μ186
    exact t_X12_qPartTold_B186 N μ186
def f_X12_qIsBracket (N : Nat) (a0 : Int32) (μ : z_S) : Option (Int32 × z_S) :=
  if a0 < (20 : Int32) then (some ((0 : Int32), μ)) else if (24 : Int32) < a0 then (some ((0 : Int32), μ)) else some ((1 : Int32), μ)
theorem t_X12_qIsBracket (N : Nat) (a0 : Int32) (μ : z_S) : z_met false rI mX12_qIsBracket 0 [.int a0] μ (f_X12_qIsBracket N a0 μ) := by
  refine z_met.of (by decide +kernel) (by show _ ≤ _; first | decide | exact Nat.le_of_ble_eq_true rfl) (lv := [(0, .int a0)]) rfl ?_
  unfold f_X12_qIsBracket
  refine s_iload_n (pc := 0) 0 dX12_qIsBracket_0 rfl rfl ?_
  refine s_bipush (pc := 1) (v := (20 : Int32)) dX12_qIsBracket_1 (by decide) ?_
  refine s_icmp_lt (pc := 3) (tgt := 16) dX12_qIsBracket_3 (by decide) ?_ ?_
  · refine s_iconst (pc := 16) (v := (0 : Int32)) dX12_qIsBracket_16 (by decide) ?_
    exact s_zret0 (pc := 17) dX12_qIsBracket_17 rfl rfl
  · refine s_iload_n (pc := 6) 0 dX12_qIsBracket_6 rfl rfl ?_
    refine s_bipush (pc := 7) (v := (24 : Int32)) dX12_qIsBracket_7 (by decide) ?_
    refine s_icmp_gt (pc := 9) (tgt := 16) dX12_qIsBracket_9 (by decide) ?_ ?_
    · refine s_iconst (pc := 16) (v := (0 : Int32)) dX12_qIsBracket_16 (by decide) ?_
      exact s_zret0 (pc := 17) dX12_qIsBracket_17 rfl rfl
    · refine s_iconst (pc := 12) (v := (1 : Int32)) dX12_qIsBracket_12 (by decide) ?_
      refine s_goto (pc := 13) (tgt := 17) dX12_qIsBracket_13 (by decide) ?_
      exact s_zret0 (pc := 17) dX12_qIsBracket_17 rfl rfl
def b_X12_qBracket_L7 (N : Nat) (kb : Int32 → z_S → Option (Int32 × z_S)) (e33 : Int32 → z_S → Option (Int32 × z_S)) (v1 : Int32) (μ : z_S) : Option (Int32 × z_S) :=
  if v1 < (μ.1 253 99) then (e33 v1 μ) else z_in v1 1700 <| z_bn (f_X12_qIsBracket N (μ.1 331 v1.toNatClampNeg) μ) fun x2 μ_1 => if x2 = 0 then (z_bd (v1 + (-1)) fun x3 => kb x3 μ_1) else e33 v1 μ_1
theorem tb_X12_qBracket_L7 (N : Nat) (kb : Int32 → z_S → Option (Int32 × z_S)) (e33 : Int32 → z_S → Option (Int32 × z_S)) (hkb : ∀ (a1 : Int32) (μ : z_S), z_sim false rI mX12_qBracket 1 (kb a1 μ) 7 [(0, .ref 253), (1, .int a1)] [] μ) (he33 : ∀ (a1 : Int32) (μ : z_S), z_sim false rI mX12_qBracket 1 (e33 a1 μ) 33 [(0, .ref 253), (1, .int a1)] [] μ) (v1 : Int32) (μ : z_S) : z_sim false rI mX12_qBracket 1 (b_X12_qBracket_L7 N kb e33 v1 μ) 7 [(0, .ref 253), (1, .int v1)] [] μ := by
  unfold b_X12_qBracket_L7
  refine s_iload_n (pc := 7) 1 dX12_qBracket_7 rfl rfl ?_
  refine s_aload_n (pc := 8) 0 dX12_qBracket_8 rfl rfl ?_
  refine s_getI (pc := 9) (ci := 12) (k := 99) dX12_qBracket_9 fl_12_361 kd_253 rfl ?_
  refine s_icmp_lt (pc := 12) (tgt := 33) dX12_qBracket_12 (by decide) ?_ ?_
  · exact he33 v1 μ
  · refine s_aload_n (pc := 15) 0 dX12_qBracket_15 rfl rfl ?_
    refine s_getR (pc := 16) (ci := 12) (k := 96) (r := 331) dX12_qBracket_16 fl_12_251 kd_253 rfl rs_253_96 ?_
    refine s_iload_n (pc := 19) 1 dX12_qBracket_19 rfl rfl ?_
    refine s_iald (pc := 20) dX12_qBracket_20 kd_331 ?_
    refine s_callSI (pc := 21) (as := [.int (μ.1 331 v1.toNatClampNeg)]) (st := []) dX12_qBracket_21 lk_12_597 (t_X12_qIsBracket N (μ.1 331 v1.toNatClampNeg) μ) (by omega) rfl (by decide) rfl (fun x2 μ_1 => ?_)
    refine s_if_ne (pc := 24) (tgt := 33) dX12_qBracket_24 (by decide) ?_ ?_
    · refine s_iincB (pc := 27) (lv' := fun x3 => [(1, .int x3), (0, .ref 253)]) (c := -1) 1 dX12_qBracket_27 rfl (by decide) (by decide) (fun _ => rfl) (fun x3 => ?_)
      refine s_goto (pc := 30) (tgt := 7) dX12_qBracket_30 (by decide) ?_
      refine s_sub (lv' := [(0, .ref 253), (1, .int x3)]) [1, 0] rfl ?_
      exact hkb x3 μ_1
    · exact he33 v1 μ_1
def f_X12_qBracket_L7 (N : Nat) (e33 : Int32 → z_S → Option (Int32 × z_S)) : Nat → Int32 → z_S → Option (Int32 × z_S)
  | 0, _, _ => none
  | n + 1, v1, μ => b_X12_qBracket_L7 N (f_X12_qBracket_L7 N e33 n) e33 v1 μ
theorem t_X12_qBracket_L7 (N : Nat) (e33 : Int32 → z_S → Option (Int32 × z_S)) (he33 : ∀ (a1 : Int32) (μ : z_S), z_sim false rI mX12_qBracket 1 (e33 a1 μ) 33 [(0, .ref 253), (1, .int a1)] [] μ) : ∀ (n : Nat) (v1 : Int32) (μ : z_S), z_sim false rI mX12_qBracket 1 (f_X12_qBracket_L7 N e33 n v1 μ) 7 [(0, .ref 253), (1, .int v1)] [] μ
  | 0, _, _ => s_none
  | n + 1, v1, μ => tb_X12_qBracket_L7 N (f_X12_qBracket_L7 N e33 n) e33 (t_X12_qBracket_L7 N e33 he33 n) he33 v1 μ
def f_X12_qBracket_B33 (N : Nat)  (v1 : Int32) (μ : z_S) : Option (Int32 × z_S) :=
  if v1 < (μ.1 253 99) then (some ((-1 : Int32), μ)) else z_in v1 1700 <| some ((μ.1 331 v1.toNatClampNeg), μ)
theorem t_X12_qBracket_B33 (N : Nat)     (v1 : Int32)  (μ : z_S) : z_sim false rI mX12_qBracket 1 (f_X12_qBracket_B33 N   v1 μ) 33 [(0, .ref 253), (1, .int v1)] [] μ := by
  unfold f_X12_qBracket_B33
  refine s_iload_n (pc := 33) 1 dX12_qBracket_33 rfl rfl ?_
  refine s_aload_n (pc := 34) 0 dX12_qBracket_34 rfl rfl ?_
  refine s_getI (pc := 35) (ci := 12) (k := 99) dX12_qBracket_35 fl_12_361 kd_253 rfl ?_
  refine s_icmp_lt (pc := 38) (tgt := 50) dX12_qBracket_38 (by decide) ?_ ?_
  · refine s_iconst (pc := 50) (v := (-1 : Int32)) dX12_qBracket_50 (by decide) ?_
    exact s_iret (pc := 51) rfl dX12_qBracket_51 rfl
  · refine s_aload_n (pc := 41) 0 dX12_qBracket_41 rfl rfl ?_
    refine s_getR (pc := 42) (ci := 12) (k := 96) (r := 331) dX12_qBracket_42 fl_12_251 kd_253 rfl rs_253_96 ?_
    refine s_iload_n (pc := 45) 1 dX12_qBracket_45 rfl rfl ?_
    refine s_iald (pc := 46) dX12_qBracket_46 kd_331 ?_
    refine s_goto (pc := 47) (tgt := 51) dX12_qBracket_47 (by decide) ?_
    exact s_iret (pc := 51) rfl dX12_qBracket_51 rfl
def f_X12_qBracket (N : Nat) (μ : z_S) : Option (Int32 × z_S) :=
  z_bd ((μ.1 253 97) - (1 : Int32)) fun x1 => f_X12_qBracket_L7 N (fun y33_1 μ33 => f_X12_qBracket_B33 N y33_1 μ33) N x1 μ
theorem t_X12_qBracket (N : Nat) (μ : z_S) : z_met false rI mX12_qBracket 1 [.ref 253] μ (f_X12_qBracket N μ) := by
  refine z_met.of (by decide +kernel) (by show _ ≤ _; first | decide | exact Nat.le_of_ble_eq_true rfl) (lv := [(0, .ref 253)]) rfl ?_
  unfold f_X12_qBracket
  refine s_aload_n (pc := 0) 0 dX12_qBracket_0 rfl rfl ?_
  refine s_getI (pc := 1) (ci := 12) (k := 97) dX12_qBracket_1 fl_12_355 kd_253 rfl ?_
  refine s_iconst (pc := 4) (v := (1 : Int32)) dX12_qBracket_4 (by decide) ?_
  refine s_isub (pc := 5) dX12_qBracket_5 ?_
  refine s_letI (fun x1 => ?_)
  refine s_istore_n (pc := 6) (lv' := [(1, .int x1), (0, .ref 253)]) dX12_qBracket_6 rfl (by decide) rfl ?_
  refine s_sub (lv' := [(0, .ref 253), (1, .int x1)]) [1, 0] rfl ?_
  refine t_X12_qBracket_L7 N _ ?_ N x1 μ
  · intro y33_1 μ33
    exact t_X12_qBracket_B33 N y33_1 μ33
def b_X12_qDropsToBracket_L0 (N : Nat) (kb : z_S → Option (Unit × z_S)) (μ : z_S) : Option (Unit × z_S) :=
  if (μ.1 253 99) < (μ.1 253 97) then (z_in ((μ.1 253 97) - (1 : Int32)) 1700 <| z_bn (f_X12_qIsBracket N (μ.1 331 ((μ.1 253 97) - (1 : Int32)).toNatClampNeg) μ) fun x1 μ_1 => if x1 = 0 then (z_bn (f_X12_qDrops N μ_1) fun _ μ_2 => kb μ_2) else some ((), μ_1)) else some ((), μ)
theorem tb_X12_qDropsToBracket_L0 (N : Nat) (kb : z_S → Option (Unit × z_S)) (hkb : ∀ (μ : z_S), z_sim false rV mX12_qDropsToBracket 2 (kb μ) 0 [(0, .ref 253)] [] μ) (μ : z_S) : z_sim false rV mX12_qDropsToBracket 2 (b_X12_qDropsToBracket_L0 N kb μ) 0 [(0, .ref 253)] [] μ := by
  unfold b_X12_qDropsToBracket_L0
  refine s_aload_n (pc := 0) 0 dX12_qDropsToBracket_0 rfl rfl ?_
  refine s_getI (pc := 1) (ci := 12) (k := 97) dX12_qDropsToBracket_1 fl_12_355 kd_253 rfl ?_
  refine s_aload_n (pc := 4) 0 dX12_qDropsToBracket_4 rfl rfl ?_
  refine s_getI (pc := 5) (ci := 12) (k := 99) dX12_qDropsToBracket_5 fl_12_361 kd_253 rfl ?_
  refine s_icmp_le (pc := 8) (tgt := 35) dX12_qDropsToBracket_8 (by decide) ?_ ?_
  · refine s_aload_n (pc := 11) 0 dX12_qDropsToBracket_11 rfl rfl ?_
    refine s_getR (pc := 12) (ci := 12) (k := 96) (r := 331) dX12_qDropsToBracket_12 fl_12_251 kd_253 rfl rs_253_96 ?_
    refine s_aload_n (pc := 15) 0 dX12_qDropsToBracket_15 rfl rfl ?_
    refine s_getI (pc := 16) (ci := 12) (k := 97) dX12_qDropsToBracket_16 fl_12_355 kd_253 rfl ?_
    refine s_iconst (pc := 19) (v := (1 : Int32)) dX12_qDropsToBracket_19 (by decide) ?_
    refine s_isub (pc := 20) dX12_qDropsToBracket_20 ?_
    refine s_iald (pc := 21) dX12_qDropsToBracket_21 kd_331 ?_
    refine s_callSI (pc := 22) (as := [.int (μ.1 331 ((μ.1 253 97) - (1 : Int32)).toNatClampNeg)]) (st := []) dX12_qDropsToBracket_22 lk_12_597 (t_X12_qIsBracket N (μ.1 331 ((μ.1 253 97) - (1 : Int32)).toNatClampNeg) μ) (by omega) rfl (by decide) rfl (fun x1 μ_1 => ?_)
    refine s_if_ne (pc := 25) (tgt := 35) dX12_qDropsToBracket_25 (by decide) ?_ ?_
    · refine s_aload_n (pc := 28) 0 dX12_qDropsToBracket_28 rfl rfl ?_
      refine s_callVV (pc := 29) (as := []) (st := []) dX12_qDropsToBracket_29 lk_12_600 kd_253 (t_X12_qDrops N μ_1) (by omega) rfl (by decide) rfl (fun _ μ_2 => ?_)
      refine s_goto (pc := 32) (tgt := 0) dX12_qDropsToBracket_32 (by decide) ?_
      exact hkb μ_2
    · exact s_vret (pc := 35) dX12_qDropsToBracket_35 rfl
  · exact s_vret (pc := 35) dX12_qDropsToBracket_35 rfl
def f_X12_qDropsToBracket_L0 (N : Nat) : Nat → z_S → Option (Unit × z_S)
  | 0, _ => none
  | n + 1, μ => b_X12_qDropsToBracket_L0 N (f_X12_qDropsToBracket_L0 N n) μ
theorem t_X12_qDropsToBracket_L0 (N : Nat) : ∀ (n : Nat) (μ : z_S), z_sim false rV mX12_qDropsToBracket 2 (f_X12_qDropsToBracket_L0 N n μ) 0 [(0, .ref 253)] [] μ
  | 0, _ => s_none
  | n + 1, μ => tb_X12_qDropsToBracket_L0 N (f_X12_qDropsToBracket_L0 N n) (t_X12_qDropsToBracket_L0 N n) μ
def f_X12_qDropsToBracket (N : Nat) (μ : z_S) : Option (Unit × z_S) :=
  f_X12_qDropsToBracket_L0 N N μ
theorem t_X12_qDropsToBracket (N : Nat) (μ : z_S) : z_met false rV mX12_qDropsToBracket 2 [.ref 253] μ (f_X12_qDropsToBracket N μ) := by
  refine z_met.of (by decide +kernel) (by show _ ≤ _; first | decide | exact Nat.le_of_ble_eq_true rfl) (lv := [(0, .ref 253)]) rfl ?_
  unfold f_X12_qDropsToBracket
  refine t_X12_qDropsToBracket_L0 N N μ
def f_X12_qIsOn (N : Nat) (a1 : Int32) (μ : z_S) : Option (Int32 × z_S) :=
  if 0 < (μ.1 253 97) then (z_in ((μ.1 253 97) - (1 : Int32)) 1700 <| if (μ.1 331 ((μ.1 253 97) - (1 : Int32)).toNatClampNeg) = a1 then (some ((1 : Int32), μ)) else some ((0 : Int32), μ)) else some ((0 : Int32), μ)
theorem t_X12_qIsOn (N : Nat) (a1 : Int32) (μ : z_S) : z_met false rI mX12_qIsOn 0 [.ref 253, .int a1] μ (f_X12_qIsOn N a1 μ) := by
  refine z_met.of (by decide +kernel) (by show _ ≤ _; first | decide | exact Nat.le_of_ble_eq_true rfl) (lv := [(0, .ref 253), (1, .int a1)]) rfl ?_
  unfold f_X12_qIsOn
  refine s_aload_n (pc := 0) 0 dX12_qIsOn_0 rfl rfl ?_
  refine s_getI (pc := 1) (ci := 12) (k := 97) dX12_qIsOn_1 fl_12_355 kd_253 rfl ?_
  refine s_if_le (pc := 4) (tgt := 26) dX12_qIsOn_4 (by decide) ?_ ?_
  · refine s_aload_n (pc := 7) 0 dX12_qIsOn_7 rfl rfl ?_
    refine s_getR (pc := 8) (ci := 12) (k := 96) (r := 331) dX12_qIsOn_8 fl_12_251 kd_253 rfl rs_253_96 ?_
    refine s_aload_n (pc := 11) 0 dX12_qIsOn_11 rfl rfl ?_
    refine s_getI (pc := 12) (ci := 12) (k := 97) dX12_qIsOn_12 fl_12_355 kd_253 rfl ?_
    refine s_iconst (pc := 15) (v := (1 : Int32)) dX12_qIsOn_15 (by decide) ?_
    refine s_isub (pc := 16) dX12_qIsOn_16 ?_
    refine s_iald (pc := 17) dX12_qIsOn_17 kd_331 ?_
    refine s_iload_n (pc := 18) 1 dX12_qIsOn_18 rfl rfl ?_
    refine s_icmp_ne (pc := 19) (tgt := 26) dX12_qIsOn_19 (by decide) ?_ ?_
    · refine s_iconst (pc := 22) (v := (1 : Int32)) dX12_qIsOn_22 (by decide) ?_
      refine s_goto (pc := 23) (tgt := 27) dX12_qIsOn_23 (by decide) ?_
      exact s_zret0 (pc := 27) dX12_qIsOn_27 rfl rfl
    · refine s_iconst (pc := 26) (v := (0 : Int32)) dX12_qIsOn_26 (by decide) ?_
      exact s_zret0 (pc := 27) dX12_qIsOn_27 rfl rfl
  · refine s_iconst (pc := 26) (v := (0 : Int32)) dX12_qIsOn_26 (by decide) ?_
    exact s_zret0 (pc := 27) dX12_qIsOn_27 rfl rfl
def f_X12_qGoesOn_B115 (N : Nat) (kb : z_S → Option (Int32 × z_S)) (e122 : z_S → Option (Int32 × z_S)) (μ : z_S) : Option (Int32 × z_S) :=
  z_bn (f_X12_qEndsPart N μ) fun _ μ_7 => kb μ_7
theorem t_X12_qGoesOn_B115 (N : Nat)   (kb : z_S → Option (Int32 × z_S)) (e122 : z_S → Option (Int32 × z_S)) (hkb : ∀  (μ : z_S), z_sim false rI mX12_qGoesOn 3 (kb μ) 0 [(0, .ref 253)] [] μ) (he122 : ∀  (μ : z_S), z_sim false rI mX12_qGoesOn 3 (e122 μ) 122 [(0, .ref 253)] [] μ)   (μ : z_S) : z_sim false rI mX12_qGoesOn 3 (f_X12_qGoesOn_B115 N  kb e122  μ) 115 [(0, .ref 253)] [] μ := by
  unfold f_X12_qGoesOn_B115
  refine s_aload_n (pc := 115) 0 dX12_qGoesOn_115 rfl rfl ?_
  refine s_callVV (pc := 116) (as := []) (st := []) dX12_qGoesOn_116 lk_12_618 kd_253 (t_X12_qEndsPart N μ) (by omega) rfl (by decide) rfl (fun _ μ_7 => ?_)
  refine s_goto (pc := 119) (tgt := 0) dX12_qGoesOn_119 (by decide) ?_
  exact hkb μ_7
def f_X12_qGoesOn_B112 (N : Nat) (kb : z_S → Option (Int32 × z_S)) (e122 : z_S → Option (Int32 × z_S)) (s0 : Int32) (μ : z_S) : Option (Int32 × z_S) :=
  z_bn (f_X12_qCode N s0 μ) fun _ μ_8 => f_X12_qGoesOn_B115 N kb e122 μ_8
theorem t_X12_qGoesOn_B112 (N : Nat)   (kb : z_S → Option (Int32 × z_S)) (e122 : z_S → Option (Int32 × z_S)) (hkb : ∀  (μ : z_S), z_sim false rI mX12_qGoesOn 3 (kb μ) 0 [(0, .ref 253)] [] μ) (he122 : ∀  (μ : z_S), z_sim false rI mX12_qGoesOn 3 (e122 μ) 122 [(0, .ref 253)] [] μ) (s0 : Int32)  (μ : z_S) : z_sim false rI mX12_qGoesOn 3 (f_X12_qGoesOn_B112 N  kb e122 s0 μ) 112 [(0, .ref 253)] [.int s0, .ref 253] μ := by
  unfold f_X12_qGoesOn_B112
  refine s_callVV (pc := 112) (as := [.int s0]) (st := []) dX12_qGoesOn_112 lk_12_594 kd_253 (t_X12_qCode N s0 μ) (by omega) rfl (by decide) rfl (fun _ μ_8 => ?_)
  exact t_X12_qGoesOn_B115 N kb e122 hkb he122 μ_8
def f_X12_qGoesOn_B43 (N : Nat) (kb : z_S → Option (Int32 × z_S)) (e122 : z_S → Option (Int32 × z_S)) (μ : z_S) : Option (Int32 × z_S) :=
  z_bd (z_setI μ 253 2 ((μ.1 253 2) + (1 : Int32))) fun μ_3 => z_bn (f_X12_qDropsToBracket N μ_3) fun _ μ_4 => z_bd (z_setI μ_4 253 97 ((μ_4.1 253 97) - (1 : Int32))) fun μ_5 => z_bd (z_setI μ_5 253 98 ((μ_5.1 253 98) - (1 : Int32))) fun μ_6 => z_in (μ_6.1 253 97) 1700 <| if (μ_6.1 331 (μ_6.1 253 97).toNatClampNeg) = (20 : Int32) then (f_X12_qGoesOn_B115 N kb e122 μ_6) else z_in (μ_6.1 253 97) 1700 <| if (μ_6.1 331 (μ_6.1 253 97).toNatClampNeg) = (23 : Int32) then (f_X12_qGoesOn_B112 N kb e122 (5 : Int32) μ_6) else f_X12_qGoesOn_B112 N kb e122 (6 : Int32) μ_6
theorem t_X12_qGoesOn_B43 (N : Nat)   (kb : z_S → Option (Int32 × z_S)) (e122 : z_S → Option (Int32 × z_S)) (hkb : ∀  (μ : z_S), z_sim false rI mX12_qGoesOn 3 (kb μ) 0 [(0, .ref 253)] [] μ) (he122 : ∀  (μ : z_S), z_sim false rI mX12_qGoesOn 3 (e122 μ) 122 [(0, .ref 253)] [] μ)   (μ : z_S) : z_sim false rI mX12_qGoesOn 3 (f_X12_qGoesOn_B43 N  kb e122  μ) 43 [(0, .ref 253)] [] μ := by
  unfold f_X12_qGoesOn_B43
  refine s_aload_n (pc := 43) 0 dX12_qGoesOn_43 rfl rfl ?_
  refine s_dup (pc := 44) dX12_qGoesOn_44 rfl ?_
  refine s_getI (pc := 45) (ci := 12) (k := 2) dX12_qGoesOn_45 fl_12_269 kd_253 rfl ?_
  refine s_iconst (pc := 48) (v := (1 : Int32)) dX12_qGoesOn_48 (by decide) ?_
  refine s_iadd (pc := 49) dX12_qGoesOn_49 ?_
  refine s_putI (pc := 50) (ci := 12) (k := 2) dX12_qGoesOn_50 fl_12_269 kd_253 rfl rfl (fun μ_3 => ?_)
  refine s_aload_n (pc := 53) 0 dX12_qGoesOn_53 rfl rfl ?_
  refine s_callVV (pc := 54) (as := []) (st := []) dX12_qGoesOn_54 lk_12_624 kd_253 (t_X12_qDropsToBracket N μ_3) (by omega) rfl (by decide) rfl (fun _ μ_4 => ?_)
  refine s_aload_n (pc := 57) 0 dX12_qGoesOn_57 rfl rfl ?_
  refine s_dup (pc := 58) dX12_qGoesOn_58 rfl ?_
  refine s_getI (pc := 59) (ci := 12) (k := 97) dX12_qGoesOn_59 fl_12_355 kd_253 rfl ?_
  refine s_iconst (pc := 62) (v := (1 : Int32)) dX12_qGoesOn_62 (by decide) ?_
  refine s_isub (pc := 63) dX12_qGoesOn_63 ?_
  refine s_putI (pc := 64) (ci := 12) (k := 97) dX12_qGoesOn_64 fl_12_355 kd_253 rfl rfl (fun μ_5 => ?_)
  refine s_aload_n (pc := 67) 0 dX12_qGoesOn_67 rfl rfl ?_
  refine s_dup (pc := 68) dX12_qGoesOn_68 rfl ?_
  refine s_getI (pc := 69) (ci := 12) (k := 98) dX12_qGoesOn_69 fl_12_358 kd_253 rfl ?_
  refine s_iconst (pc := 72) (v := (1 : Int32)) dX12_qGoesOn_72 (by decide) ?_
  refine s_isub (pc := 73) dX12_qGoesOn_73 ?_
  refine s_putI (pc := 74) (ci := 12) (k := 98) dX12_qGoesOn_74 fl_12_358 kd_253 rfl rfl (fun μ_6 => ?_)
  refine s_aload_n (pc := 77) 0 dX12_qGoesOn_77 rfl rfl ?_
  refine s_getR (pc := 78) (ci := 12) (k := 96) (r := 331) dX12_qGoesOn_78 fl_12_251 kd_253 rfl rs_253_96 ?_
  refine s_aload_n (pc := 81) 0 dX12_qGoesOn_81 rfl rfl ?_
  refine s_getI (pc := 82) (ci := 12) (k := 97) dX12_qGoesOn_82 fl_12_355 kd_253 rfl ?_
  refine s_iald (pc := 85) dX12_qGoesOn_85 kd_331 ?_
  refine s_bipush (pc := 86) (v := (20 : Int32)) dX12_qGoesOn_86 (by decide) ?_
  refine s_icmp_eq (pc := 88) (tgt := 115) dX12_qGoesOn_88 (by decide) ?_ ?_
  · exact t_X12_qGoesOn_B115 N kb e122 hkb he122 μ_6
  · refine s_aload_n (pc := 91) 0 dX12_qGoesOn_91 rfl rfl ?_
    refine s_aload_n (pc := 92) 0 dX12_qGoesOn_92 rfl rfl ?_
    refine s_getR (pc := 93) (ci := 12) (k := 96) (r := 331) dX12_qGoesOn_93 fl_12_251 kd_253 rfl rs_253_96 ?_
    refine s_aload_n (pc := 96) 0 dX12_qGoesOn_96 rfl rfl ?_
    refine s_getI (pc := 97) (ci := 12) (k := 97) dX12_qGoesOn_97 fl_12_355 kd_253 rfl ?_
    refine s_iald (pc := 100) dX12_qGoesOn_100 kd_331 ?_
    refine s_bipush (pc := 101) (v := (23 : Int32)) dX12_qGoesOn_101 (by decide) ?_
    refine s_icmp_ne (pc := 103) (tgt := 110) dX12_qGoesOn_103 (by decide) ?_ ?_
    · refine s_iconst (pc := 106) (v := (5 : Int32)) dX12_qGoesOn_106 (by decide) ?_
      refine s_goto (pc := 107) (tgt := 112) dX12_qGoesOn_107 (by decide) ?_
      exact t_X12_qGoesOn_B112 N kb e122 hkb he122 (5 : Int32) μ_6
    · refine s_bipush (pc := 110) (v := (6 : Int32)) dX12_qGoesOn_110 (by decide) ?_
      exact t_X12_qGoesOn_B112 N kb e122 hkb he122 (6 : Int32) μ_6
def b_X12_qGoesOn_L0 (N : Nat) (kb : z_S → Option (Int32 × z_S)) (e122 : z_S → Option (Int32 × z_S)) (μ : z_S) : Option (Int32 × z_S) :=
  if (μ.1 253 5) = 0 then (z_bn (f_X12_look N μ) fun x1 μ_1 => if x1 = (41 : Int32) then (z_bn (f_X12_qBracket N μ_1) fun x2 μ_2 => if x2 = (20 : Int32) then (f_X12_qGoesOn_B43 N kb e122 μ_2) else z_bn (f_X12_qBracket N μ_2) fun x3 μ_9 => if x3 = (23 : Int32) then (f_X12_qGoesOn_B43 N kb e122 μ_9) else z_bn (f_X12_qBracket N μ_9) fun x4 μ_10 => if x4 = (24 : Int32) then (f_X12_qGoesOn_B43 N kb e122 μ_10) else e122 μ_10) else e122 μ_1) else e122 μ
theorem tb_X12_qGoesOn_L0 (N : Nat) (kb : z_S → Option (Int32 × z_S)) (e122 : z_S → Option (Int32 × z_S)) (hkb : ∀ (μ : z_S), z_sim false rI mX12_qGoesOn 3 (kb μ) 0 [(0, .ref 253)] [] μ) (he122 : ∀ (μ : z_S), z_sim false rI mX12_qGoesOn 3 (e122 μ) 122 [(0, .ref 253)] [] μ) (μ : z_S) : z_sim false rI mX12_qGoesOn 3 (b_X12_qGoesOn_L0 N kb e122 μ) 0 [(0, .ref 253)] [] μ := by
  unfold b_X12_qGoesOn_L0
  refine s_aload_n (pc := 0) 0 dX12_qGoesOn_0 rfl rfl ?_
  refine s_getI (pc := 1) (ci := 12) (k := 5) dX12_qGoesOn_1 fl_12_263 kd_253 rfl ?_
  refine s_if_ne (pc := 4) (tgt := 122) dX12_qGoesOn_4 (by decide) ?_ ?_
  · refine s_aload_n (pc := 7) 0 dX12_qGoesOn_7 rfl rfl ?_
    refine s_callVI (pc := 8) (as := []) (st := []) dX12_qGoesOn_8 lk_12_275 kd_253 (t_X12_look N μ) (by omega) rfl (by decide) rfl (fun x1 μ_1 => ?_)
    refine s_bipush (pc := 11) (v := (41 : Int32)) dX12_qGoesOn_11 (by decide) ?_
    refine s_icmp_ne (pc := 13) (tgt := 122) dX12_qGoesOn_13 (by decide) ?_ ?_
    · refine s_aload_n (pc := 16) 0 dX12_qGoesOn_16 rfl rfl ?_
      refine s_callVI (pc := 17) (as := []) (st := []) dX12_qGoesOn_17 lk_12_621 kd_253 (t_X12_qBracket N μ_1) (by omega) rfl (by decide) rfl (fun x2 μ_2 => ?_)
      refine s_bipush (pc := 20) (v := (20 : Int32)) dX12_qGoesOn_20 (by decide) ?_
      refine s_icmp_eq (pc := 22) (tgt := 43) dX12_qGoesOn_22 (by decide) ?_ ?_
      · exact t_X12_qGoesOn_B43 N kb e122 hkb he122 μ_2
      · refine s_aload_n (pc := 25) 0 dX12_qGoesOn_25 rfl rfl ?_
        refine s_callVI (pc := 26) (as := []) (st := []) dX12_qGoesOn_26 lk_12_621 kd_253 (t_X12_qBracket N μ_2) (by omega) rfl (by decide) rfl (fun x3 μ_9 => ?_)
        refine s_bipush (pc := 29) (v := (23 : Int32)) dX12_qGoesOn_29 (by decide) ?_
        refine s_icmp_eq (pc := 31) (tgt := 43) dX12_qGoesOn_31 (by decide) ?_ ?_
        · exact t_X12_qGoesOn_B43 N kb e122 hkb he122 μ_9
        · refine s_aload_n (pc := 34) 0 dX12_qGoesOn_34 rfl rfl ?_
          refine s_callVI (pc := 35) (as := []) (st := []) dX12_qGoesOn_35 lk_12_621 kd_253 (t_X12_qBracket N μ_9) (by omega) rfl (by decide) rfl (fun x4 μ_10 => ?_)
          refine s_bipush (pc := 38) (v := (24 : Int32)) dX12_qGoesOn_38 (by decide) ?_
          refine s_icmp_ne (pc := 40) (tgt := 122) dX12_qGoesOn_40 (by decide) ?_ ?_
          · exact t_X12_qGoesOn_B43 N kb e122 hkb he122 μ_10
          · exact he122 μ_10
    · exact he122 μ_1
  · exact he122 μ
def f_X12_qGoesOn_L0 (N : Nat) (e122 : z_S → Option (Int32 × z_S)) : Nat → z_S → Option (Int32 × z_S)
  | 0, _ => none
  | n + 1, μ => b_X12_qGoesOn_L0 N (f_X12_qGoesOn_L0 N e122 n) e122 μ
theorem t_X12_qGoesOn_L0 (N : Nat) (e122 : z_S → Option (Int32 × z_S)) (he122 : ∀ (μ : z_S), z_sim false rI mX12_qGoesOn 3 (e122 μ) 122 [(0, .ref 253)] [] μ) : ∀ (n : Nat) (μ : z_S), z_sim false rI mX12_qGoesOn 3 (f_X12_qGoesOn_L0 N e122 n μ) 0 [(0, .ref 253)] [] μ
  | 0, _ => s_none
  | n + 1, μ => tb_X12_qGoesOn_L0 N (f_X12_qGoesOn_L0 N e122 n) e122 (t_X12_qGoesOn_L0 N e122 he122 n) he122 μ
def f_X12_qGoesOn_B326 (N : Nat)   (μ : z_S) : Option (Int32 × z_S) :=
  z_bn (f_X12_asksSign N (44 : Int32) μ) fun _ μ_16 => if (μ_16.1 253 5) = 0 then (z_bn (f_X12_qDropsToBracket N μ_16) fun _ μ_17 => z_bd ((μ_17.1 253 97) - (1 : Int32)) fun x10 => z_in x10 1700 <| z_in x10 1700 <| z_bd (z_setI μ_17 331 x10.toNatClampNeg ((μ_17.1 331 x10.toNatClampNeg) + (2 : Int32))) fun μ_18 => some ((1 : Int32), μ_18)) else some ((0 : Int32), μ_16)
theorem t_X12_qGoesOn_B326 (N : Nat)       (μ : z_S) : z_sim false rI mX12_qGoesOn 3 (f_X12_qGoesOn_B326 N    μ) 326 [(0, .ref 253)] [] μ := by
  unfold f_X12_qGoesOn_B326
  refine s_aload_n (pc := 326) 0 dX12_qGoesOn_326 rfl rfl ?_
  refine s_bipush (pc := 327) (v := (44 : Int32)) dX12_qGoesOn_327 (by decide) ?_
  refine s_callVV (pc := 329) (as := [.int (44 : Int32)]) (st := []) dX12_qGoesOn_329 lk_12_395 kd_253 (t_X12_asksSign N (44 : Int32) μ) (by omega) rfl (by decide) rfl (fun _ μ_16 => ?_)
  refine s_aload_n (pc := 332) 0 dX12_qGoesOn_332 rfl rfl ?_
  refine s_getI (pc := 333) (ci := 12) (k := 5) dX12_qGoesOn_333 fl_12_263 kd_253 rfl ?_
  refine s_if_eq (pc := 336) (tgt := 341) dX12_qGoesOn_336 (by decide) ?_ ?_
  · refine s_aload_n (pc := 341) 0 dX12_qGoesOn_341 rfl rfl ?_
    refine s_callVV (pc := 342) (as := []) (st := []) dX12_qGoesOn_342 lk_12_624 kd_253 (t_X12_qDropsToBracket N μ_16) (by omega) rfl (by decide) rfl (fun _ μ_17 => ?_)
    refine s_aload_n (pc := 345) 0 dX12_qGoesOn_345 rfl rfl ?_
    refine s_getR (pc := 346) (ci := 12) (k := 96) (r := 331) dX12_qGoesOn_346 fl_12_251 kd_253 rfl rs_253_96 ?_
    refine s_aload_n (pc := 349) 0 dX12_qGoesOn_349 rfl rfl ?_
    refine s_getI (pc := 350) (ci := 12) (k := 97) dX12_qGoesOn_350 fl_12_355 kd_253 rfl ?_
    refine s_iconst (pc := 353) (v := (1 : Int32)) dX12_qGoesOn_353 (by decide) ?_
    refine s_isub (pc := 354) dX12_qGoesOn_354 ?_
    refine s_letI (fun x10 => ?_)
    refine s_dup2 (pc := 355) dX12_qGoesOn_355 rfl rfl ?_
    refine s_iald (pc := 356) dX12_qGoesOn_356 kd_331 ?_
    refine s_iconst (pc := 357) (v := (2 : Int32)) dX12_qGoesOn_357 (by decide) ?_
    refine s_iadd (pc := 358) dX12_qGoesOn_358 ?_
    refine s_iast (pc := 359) dX12_qGoesOn_359 kd_331 (fun μ_18 => ?_)
    refine s_iconst (pc := 360) (v := (1 : Int32)) dX12_qGoesOn_360 (by decide) ?_
    exact s_zret0 (pc := 361) dX12_qGoesOn_361 rfl rfl
  · refine s_iconst (pc := 339) (v := (0 : Int32)) dX12_qGoesOn_339 (by decide) ?_
    exact s_zret0 (pc := 340) dX12_qGoesOn_340 rfl rfl
def f_X12_qGoesOn_B279 (N : Nat) (c1 : Int32) (kb : z_S → Option (Int32 × z_S)) (e286 : z_S → Option (Int32 × z_S)) (μ : z_S) : Option (Int32 × z_S) :=
  z_bn (f_X12_qDrops N μ) fun _ μ_26 => kb μ_26
theorem t_X12_qGoesOn_B279 (N : Nat) (c1 : Int32)  (kb : z_S → Option (Int32 × z_S)) (e286 : z_S → Option (Int32 × z_S)) (hkb : ∀  (μ : z_S), z_sim false rI mX12_qGoesOn 3 (kb μ) 247 [(0, .ref 253), (1, .int c1)] [] μ) (he286 : ∀  (μ : z_S), z_sim false rI mX12_qGoesOn 3 (e286 μ) 286 [(0, .ref 253), (1, .int c1)] [] μ)   (μ : z_S) : z_sim false rI mX12_qGoesOn 3 (f_X12_qGoesOn_B279 N c1 kb e286  μ) 279 [(0, .ref 253), (1, .int c1)] [] μ := by
  unfold f_X12_qGoesOn_B279
  refine s_aload_n (pc := 279) 0 dX12_qGoesOn_279 rfl rfl ?_
  refine s_callVV (pc := 280) (as := []) (st := []) dX12_qGoesOn_280 lk_12_600 kd_253 (t_X12_qDrops N μ) (by omega) rfl (by decide) rfl (fun _ μ_26 => ?_)
  refine s_goto (pc := 283) (tgt := 247) dX12_qGoesOn_283 (by decide) ?_
  exact hkb μ_26
def b_X12_qGoesOn_L247 (N : Nat) (c1 : Int32) (kb : z_S → Option (Int32 × z_S)) (e286 : z_S → Option (Int32 × z_S)) (μ : z_S) : Option (Int32 × z_S) :=
  z_bn (f_X12_qIsOn N (3 : Int32) μ) fun x13 μ_22 => if x13 = 0 then (z_bn (f_X12_qIsOn N (4 : Int32) μ_22) fun x14 μ_23 => if x14 = 0 then (z_bn (f_X12_qIsOn N (1 : Int32) μ_23) fun x15 μ_24 => if x15 = 0 then (z_bn (f_X12_qIsOn N (2 : Int32) μ_24) fun x16 μ_25 => if x16 = 0 then (e286 μ_25) else f_X12_qGoesOn_B279 N c1 kb e286 μ_25) else f_X12_qGoesOn_B279 N c1 kb e286 μ_24) else f_X12_qGoesOn_B279 N c1 kb e286 μ_23) else f_X12_qGoesOn_B279 N c1 kb e286 μ_22
theorem tb_X12_qGoesOn_L247 (N : Nat) (c1 : Int32) (kb : z_S → Option (Int32 × z_S)) (e286 : z_S → Option (Int32 × z_S)) (hkb : ∀ (μ : z_S), z_sim false rI mX12_qGoesOn 3 (kb μ) 247 [(0, .ref 253), (1, .int c1)] [] μ) (he286 : ∀ (μ : z_S), z_sim false rI mX12_qGoesOn 3 (e286 μ) 286 [(0, .ref 253), (1, .int c1)] [] μ) (μ : z_S) : z_sim false rI mX12_qGoesOn 3 (b_X12_qGoesOn_L247 N c1 kb e286 μ) 247 [(0, .ref 253), (1, .int c1)] [] μ := by
  unfold b_X12_qGoesOn_L247
  refine s_aload_n (pc := 247) 0 dX12_qGoesOn_247 rfl rfl ?_
  refine s_iconst (pc := 248) (v := (3 : Int32)) dX12_qGoesOn_248 (by decide) ?_
  refine s_callVI (pc := 249) (as := [.int (3 : Int32)]) (st := []) dX12_qGoesOn_249 lk_12_627 kd_253 (t_X12_qIsOn N (3 : Int32) μ) (by omega) rfl (by decide) rfl (fun x13 μ_22 => ?_)
  refine s_if_ne (pc := 252) (tgt := 279) dX12_qGoesOn_252 (by decide) ?_ ?_
  · refine s_aload_n (pc := 255) 0 dX12_qGoesOn_255 rfl rfl ?_
    refine s_iconst (pc := 256) (v := (4 : Int32)) dX12_qGoesOn_256 (by decide) ?_
    refine s_callVI (pc := 257) (as := [.int (4 : Int32)]) (st := []) dX12_qGoesOn_257 lk_12_627 kd_253 (t_X12_qIsOn N (4 : Int32) μ_22) (by omega) rfl (by decide) rfl (fun x14 μ_23 => ?_)
    refine s_if_ne (pc := 260) (tgt := 279) dX12_qGoesOn_260 (by decide) ?_ ?_
    · refine s_aload_n (pc := 263) 0 dX12_qGoesOn_263 rfl rfl ?_
      refine s_iconst (pc := 264) (v := (1 : Int32)) dX12_qGoesOn_264 (by decide) ?_
      refine s_callVI (pc := 265) (as := [.int (1 : Int32)]) (st := []) dX12_qGoesOn_265 lk_12_627 kd_253 (t_X12_qIsOn N (1 : Int32) μ_23) (by omega) rfl (by decide) rfl (fun x15 μ_24 => ?_)
      refine s_if_ne (pc := 268) (tgt := 279) dX12_qGoesOn_268 (by decide) ?_ ?_
      · refine s_aload_n (pc := 271) 0 dX12_qGoesOn_271 rfl rfl ?_
        refine s_iconst (pc := 272) (v := (2 : Int32)) dX12_qGoesOn_272 (by decide) ?_
        refine s_callVI (pc := 273) (as := [.int (2 : Int32)]) (st := []) dX12_qGoesOn_273 lk_12_627 kd_253 (t_X12_qIsOn N (2 : Int32) μ_24) (by omega) rfl (by decide) rfl (fun x16 μ_25 => ?_)
        refine s_if_eq (pc := 276) (tgt := 286) dX12_qGoesOn_276 (by decide) ?_ ?_
        · exact he286 μ_25
        · exact t_X12_qGoesOn_B279 N c1 kb e286 hkb he286 μ_25
      · exact t_X12_qGoesOn_B279 N c1 kb e286 hkb he286 μ_24
    · exact t_X12_qGoesOn_B279 N c1 kb e286 hkb he286 μ_23
  · exact t_X12_qGoesOn_B279 N c1 kb e286 hkb he286 μ_22
def f_X12_qGoesOn_L247 (N : Nat) (c1 : Int32) (e286 : z_S → Option (Int32 × z_S)) : Nat → z_S → Option (Int32 × z_S)
  | 0, _ => none
  | n + 1, μ => b_X12_qGoesOn_L247 N c1 (f_X12_qGoesOn_L247 N c1 e286 n) e286 μ
theorem t_X12_qGoesOn_L247 (N : Nat) (c1 : Int32) (e286 : z_S → Option (Int32 × z_S)) (he286 : ∀ (μ : z_S), z_sim false rI mX12_qGoesOn 3 (e286 μ) 286 [(0, .ref 253), (1, .int c1)] [] μ) : ∀ (n : Nat) (μ : z_S), z_sim false rI mX12_qGoesOn 3 (f_X12_qGoesOn_L247 N c1 e286 n μ) 247 [(0, .ref 253), (1, .int c1)] [] μ
  | 0, _ => s_none
  | n + 1, μ => tb_X12_qGoesOn_L247 N c1 (f_X12_qGoesOn_L247 N c1 e286 n) e286 (t_X12_qGoesOn_L247 N c1 e286 he286 n) he286 μ
