def b_X10_append_L3 (N : Nat) (c1 : Int32) (kb : Int32 → z_S → Option (Unit × z_S)) (v2 : Int32) (μ : z_S) : Option (Unit × z_S) :=
  if v2 < 0 then (some ((), μ)) else if (μ.1 1 1) < (1600 : Int32) then (z_bd (μ.1 1 1) fun x1 => z_bd (z_setI μ 1 1 (x1 + (1 : Int32))) fun μ_1 => z_in x1 1600 <| z_bd (z_setI μ_1 2 x1.toNatClampNeg ((c1 >>> (v2 &&& 31)) &&& (255 : Int32))) fun μ_2 => z_bd (v2 + (-8)) fun x2 => kb x2 μ_2) else some ((), μ)
theorem tb_X10_append_L3 (N : Nat) (c1 : Int32) (kb : Int32 → z_S → Option (Unit × z_S)) (hkb : ∀ (a2 : Int32) (μ : z_S), z_sim true rV mX10_append 0 (kb a2 μ) 3 [(0, .ref 1), (1, .int c1), (2, .int a2)] [] μ) (v2 : Int32) (μ : z_S) : z_sim true rV mX10_append 0 (b_X10_append_L3 N c1 kb v2 μ) 3 [(0, .ref 1), (1, .int c1), (2, .int v2)] [] μ := by
  unfold b_X10_append_L3
  refine s_iload_n (pc := 3) 2 dX10_append_3 rfl rfl ?_
  refine s_if_lt (pc := 4) (tgt := 48) dX10_append_4 (by decide) ?_ ?_
  · exact s_vret (pc := 48) dX10_append_48 rfl
  · refine s_aload_n (pc := 7) 0 dX10_append_7 rfl rfl ?_
    refine s_getI (pc := 8) (ci := 10) (k := 1) dX10_append_8 fl_10_38 kd_1 rfl ?_
    refine s_aload_n (pc := 11) 0 dX10_append_11 rfl rfl ?_
    refine s_getR (pc := 12) (ci := 10) (k := 0) (r := 2) dX10_append_12 fl_10_9 kd_1 rfl rs_1_0 ?_
    refine s_alen (pc := 15) (v := (1600 : Int32)) dX10_append_15 kd_2 (by decide) (by decide) (by decide) ?_
    refine s_icmp_ge (pc := 16) (tgt := 48) dX10_append_16 (by decide) ?_ ?_
    · refine s_aload_n (pc := 19) 0 dX10_append_19 rfl rfl ?_
      refine s_getR (pc := 20) (ci := 10) (k := 0) (r := 2) dX10_append_20 fl_10_9 kd_1 rfl rs_1_0 ?_
      refine s_aload_n (pc := 23) 0 dX10_append_23 rfl rfl ?_
      refine s_dup (pc := 24) dX10_append_24 rfl ?_
      refine s_getI (pc := 25) (ci := 10) (k := 1) dX10_append_25 fl_10_38 kd_1 rfl ?_
      refine s_letI (fun x1 => ?_)
      refine s_dup_x1 (pc := 28) dX10_append_28 rfl rfl ?_
      refine s_iconst (pc := 29) (v := (1 : Int32)) dX10_append_29 (by decide) ?_
      refine s_iadd (pc := 30) dX10_append_30 ?_
      refine s_putI (pc := 31) (ci := 10) (k := 1) dX10_append_31 fl_10_38 kd_1 rfl rfl (fun μ_1 => ?_)
      refine s_iload_n (pc := 34) 1 dX10_append_34 rfl rfl ?_
      refine s_iload_n (pc := 35) 2 dX10_append_35 rfl rfl ?_
      refine s_ishr (pc := 36) dX10_append_36 ?_
      refine s_sipush (pc := 37) (v := (255 : Int32)) dX10_append_37 (by decide) ?_
      refine s_iand (pc := 40) dX10_append_40 ?_
      refine s_iast (pc := 41) dX10_append_41 kd_2 (fun μ_2 => ?_)
      refine s_iincB (pc := 42) (lv' := fun x2 => [(2, .int x2), (0, .ref 1), (1, .int c1)]) (c := -8) 2 dX10_append_42 rfl (by decide) (by decide) (fun _ => rfl) (fun x2 => ?_)
      refine s_goto (pc := 45) (tgt := 3) dX10_append_45 (by decide) ?_
      refine s_sub (lv' := [(0, .ref 1), (1, .int c1), (2, .int x2)]) [1, 2, 0] rfl ?_
      exact hkb x2 μ_2
    · exact s_vret (pc := 48) dX10_append_48 rfl
def f_X10_append_L3 (N : Nat) (c1 : Int32) : Nat → Int32 → z_S → Option (Unit × z_S)
  | 0, _, _ => none
  | n + 1, v2, μ => b_X10_append_L3 N c1 (f_X10_append_L3 N c1 n) v2 μ
theorem t_X10_append_L3 (N : Nat) (c1 : Int32) : ∀ (n : Nat) (v2 : Int32) (μ : z_S), z_sim true rV mX10_append 0 (f_X10_append_L3 N c1 n v2 μ) 3 [(0, .ref 1), (1, .int c1), (2, .int v2)] [] μ
  | 0, _, _ => s_none
  | n + 1, v2, μ => tb_X10_append_L3 N c1 (f_X10_append_L3 N c1 n) (t_X10_append_L3 N c1 n) v2 μ
def f_X10_append (N : Nat) (a1 : Int32) (μ : z_S) : Option (Unit × z_S) :=
  f_X10_append_L3 N a1 N (24 : Int32) μ
theorem t_X10_append (N : Nat) (a1 : Int32) (μ : z_S) : z_met true rV mX10_append 0 [.ref 1, .int a1] μ (f_X10_append N a1 μ) := by
  refine z_met.of (by decide +kernel) (by show _ ≤ _; first | decide | exact Nat.le_of_ble_eq_true rfl) (lv := [(0, .ref 1), (1, .int a1)]) rfl ?_
  unfold f_X10_append
  refine s_bipush (pc := 0) (v := (24 : Int32)) dX10_append_0 (by decide) ?_
  refine s_istore_n (pc := 2) (lv' := [(2, .int (24 : Int32)), (0, .ref 1), (1, .int a1)]) dX10_append_2 rfl (by decide) rfl ?_
  refine s_sub (lv' := [(0, .ref 1), (1, .int a1), (2, .int (24 : Int32))]) [1, 2, 0] rfl ?_
  refine t_X10_append_L3 N a1 N (24 : Int32) μ
def f_X10_pairAt (N : Nat) (a1 : Int32) (μ : z_S) : Option (Int32 × z_S) :=
  z_in a1 1600 <| z_in (a1 + (1 : Int32)) 1600 <| some ((((256 : Int32) * (μ.1 2 a1.toNatClampNeg)) + (μ.1 2 (a1 + (1 : Int32)).toNatClampNeg)), μ)
theorem t_X10_pairAt (N : Nat) (a1 : Int32) (μ : z_S) : z_met true rI mX10_pairAt 0 [.ref 1, .int a1] μ (f_X10_pairAt N a1 μ) := by
  refine z_met.of (by decide +kernel) (by show _ ≤ _; first | decide | exact Nat.le_of_ble_eq_true rfl) (lv := [(0, .ref 1), (1, .int a1)]) rfl ?_
  unfold f_X10_pairAt
  refine s_sipush (pc := 0) (v := (256 : Int32)) dX10_pairAt_0 (by decide) ?_
  refine s_aload_n (pc := 3) 0 dX10_pairAt_3 rfl rfl ?_
  refine s_getR (pc := 4) (ci := 10) (k := 0) (r := 2) dX10_pairAt_4 fl_10_9 kd_1 rfl rs_1_0 ?_
  refine s_iload_n (pc := 7) 1 dX10_pairAt_7 rfl rfl ?_
  refine s_iald (pc := 8) dX10_pairAt_8 kd_2 ?_
  refine s_imul (pc := 9) dX10_pairAt_9 ?_
  refine s_aload_n (pc := 10) 0 dX10_pairAt_10 rfl rfl ?_
  refine s_getR (pc := 11) (ci := 10) (k := 0) (r := 2) dX10_pairAt_11 fl_10_9 kd_1 rfl rs_1_0 ?_
  refine s_iload_n (pc := 14) 1 dX10_pairAt_14 rfl rfl ?_
  refine s_iconst (pc := 15) (v := (1 : Int32)) dX10_pairAt_15 (by decide) ?_
  refine s_iadd (pc := 16) dX10_pairAt_16 ?_
  refine s_iald (pc := 17) dX10_pairAt_17 kd_2 ?_
  refine s_iadd (pc := 18) dX10_pairAt_18 ?_
  exact s_iret (pc := 19) rfl dX10_pairAt_19 rfl
def f_X10_readWord_B78 (N : Nat) (kb : Int32 → z_S → Option (Unit × z_S)) (e92 : Int32 → z_S → Option (Unit × z_S)) (s0 : Int32) (μ : z_S) : Option (Unit × z_S) :=
  z_bd (z_setI μ 1 9 ((μ.1 1 9) + (1 : Int32))) fun μ_1 => kb s0 μ_1
theorem t_X10_readWord_B78 (N : Nat)   (kb : Int32 → z_S → Option (Unit × z_S)) (e92 : Int32 → z_S → Option (Unit × z_S)) (hkb : ∀ (a1 : Int32) (μ : z_S), z_sim true rV mX10_readWord 0 (kb a1 μ) 2 [(0, .ref 1), (1, .int a1)] [] μ) (he92 : ∀ (a1 : Int32) (μ : z_S), z_sim true rV mX10_readWord 0 (e92 a1 μ) 92 [(0, .ref 1), (1, .int a1)] [] μ) (s0 : Int32)  (μ : z_S) : z_sim true rV mX10_readWord 0 (f_X10_readWord_B78 N  kb e92 s0 μ) 78 [(0, .ref 1)] [.int s0] μ := by
  unfold f_X10_readWord_B78
  refine s_istore_n (pc := 78) (lv' := [(1, .int s0), (0, .ref 1)]) dX10_readWord_78 rfl (by decide) rfl ?_
  refine s_aload_n (pc := 79) 1 dX10_readWord_79 rfl rfl ?_
  refine s_dup (pc := 80) dX10_readWord_80 rfl ?_
  refine s_getI (pc := 81) (ci := 10) (k := 9) dX10_readWord_81 fl_10_47 kd_1 rfl ?_
  refine s_iconst (pc := 84) (v := (1 : Int32)) dX10_readWord_84 (by decide) ?_
  refine s_iadd (pc := 85) dX10_readWord_85 ?_
  refine s_putI (pc := 86) (ci := 10) (k := 9) dX10_readWord_86 fl_10_47 kd_1 rfl rfl (fun μ_1 => ?_)
  refine s_goto (pc := 89) (tgt := 2) dX10_readWord_89 (by decide) ?_
  refine s_sub (lv' := [(0, .ref 1), (1, .int s0)]) [1, 0] rfl ?_
  exact hkb s0 μ_1
def b_X10_readWord_L2 (N : Nat) (kb : Int32 → z_S → Option (Unit × z_S)) (e92 : Int32 → z_S → Option (Unit × z_S)) (v1 : Int32) (μ : z_S) : Option (Unit × z_S) :=
  if (μ.1 1 9) < (μ.1 1 1) then (z_in (μ.1 1 9) 1600 <| if (μ.1 2 (μ.1 1 9).toNatClampNeg) < (97 : Int32) then (e92 v1 μ) else z_in (μ.1 1 9) 1600 <| if (122 : Int32) < (μ.1 2 (μ.1 1 9).toNatClampNeg) then (e92 v1 μ) else if (μ.1 1 9) < ((μ.1 1 5) + (6 : Int32)) then (z_in (μ.1 1 9) 1600 <| f_X10_readWord_B78 N kb e92 (((((32 : Int32) * v1) + (μ.1 2 (μ.1 1 9).toNatClampNeg)) - (97 : Int32)) + (1 : Int32)) μ) else f_X10_readWord_B78 N kb e92 (-1 : Int32) μ) else e92 v1 μ
theorem tb_X10_readWord_L2 (N : Nat) (kb : Int32 → z_S → Option (Unit × z_S)) (e92 : Int32 → z_S → Option (Unit × z_S)) (hkb : ∀ (a1 : Int32) (μ : z_S), z_sim true rV mX10_readWord 0 (kb a1 μ) 2 [(0, .ref 1), (1, .int a1)] [] μ) (he92 : ∀ (a1 : Int32) (μ : z_S), z_sim true rV mX10_readWord 0 (e92 a1 μ) 92 [(0, .ref 1), (1, .int a1)] [] μ) (v1 : Int32) (μ : z_S) : z_sim true rV mX10_readWord 0 (b_X10_readWord_L2 N kb e92 v1 μ) 2 [(0, .ref 1), (1, .int v1)] [] μ := by
  unfold b_X10_readWord_L2
  refine s_aload_n (pc := 2) 0 dX10_readWord_2 rfl rfl ?_
  refine s_getI (pc := 3) (ci := 10) (k := 9) dX10_readWord_3 fl_10_47 kd_1 rfl ?_
  refine s_aload_n (pc := 6) 0 dX10_readWord_6 rfl rfl ?_
  refine s_getI (pc := 7) (ci := 10) (k := 1) dX10_readWord_7 fl_10_38 kd_1 rfl ?_
  refine s_icmp_ge (pc := 10) (tgt := 92) dX10_readWord_10 (by decide) ?_ ?_
  · refine s_aload_n (pc := 13) 0 dX10_readWord_13 rfl rfl ?_
    refine s_getR (pc := 14) (ci := 10) (k := 0) (r := 2) dX10_readWord_14 fl_10_9 kd_1 rfl rs_1_0 ?_
    refine s_aload_n (pc := 17) 0 dX10_readWord_17 rfl rfl ?_
    refine s_getI (pc := 18) (ci := 10) (k := 9) dX10_readWord_18 fl_10_47 kd_1 rfl ?_
    refine s_iald (pc := 21) dX10_readWord_21 kd_2 ?_
    refine s_bipush (pc := 22) (v := (97 : Int32)) dX10_readWord_22 (by decide) ?_
    refine s_icmp_lt (pc := 24) (tgt := 92) dX10_readWord_24 (by decide) ?_ ?_
    · exact he92 v1 μ
    · refine s_aload_n (pc := 27) 0 dX10_readWord_27 rfl rfl ?_
      refine s_getR (pc := 28) (ci := 10) (k := 0) (r := 2) dX10_readWord_28 fl_10_9 kd_1 rfl rs_1_0 ?_
      refine s_aload_n (pc := 31) 0 dX10_readWord_31 rfl rfl ?_
      refine s_getI (pc := 32) (ci := 10) (k := 9) dX10_readWord_32 fl_10_47 kd_1 rfl ?_
      refine s_iald (pc := 35) dX10_readWord_35 kd_2 ?_
      refine s_bipush (pc := 36) (v := (122 : Int32)) dX10_readWord_36 (by decide) ?_
      refine s_icmp_gt (pc := 38) (tgt := 92) dX10_readWord_38 (by decide) ?_ ?_
      · exact he92 v1 μ
      · refine s_aload_n (pc := 41) 0 dX10_readWord_41 rfl rfl ?_
        refine s_getI (pc := 42) (ci := 10) (k := 9) dX10_readWord_42 fl_10_47 kd_1 rfl ?_
        refine s_aload_n (pc := 45) 0 dX10_readWord_45 rfl rfl ?_
        refine s_getI (pc := 46) (ci := 10) (k := 5) dX10_readWord_46 fl_10_53 kd_1 rfl ?_
        refine s_bipush (pc := 49) (v := (6 : Int32)) dX10_readWord_49 (by decide) ?_
        refine s_iadd (pc := 51) dX10_readWord_51 ?_
        refine s_icmp_ge (pc := 52) (tgt := 77) dX10_readWord_52 (by decide) ?_ ?_
        · refine s_bipush (pc := 55) (v := (32 : Int32)) dX10_readWord_55 (by decide) ?_
          refine s_iload_n (pc := 57) 1 dX10_readWord_57 rfl rfl ?_
          refine s_imul (pc := 58) dX10_readWord_58 ?_
          refine s_aload_n (pc := 59) 0 dX10_readWord_59 rfl rfl ?_
          refine s_getR (pc := 60) (ci := 10) (k := 0) (r := 2) dX10_readWord_60 fl_10_9 kd_1 rfl rs_1_0 ?_
          refine s_aload_n (pc := 63) 0 dX10_readWord_63 rfl rfl ?_
          refine s_getI (pc := 64) (ci := 10) (k := 9) dX10_readWord_64 fl_10_47 kd_1 rfl ?_
          refine s_iald (pc := 67) dX10_readWord_67 kd_2 ?_
          refine s_iadd (pc := 68) dX10_readWord_68 ?_
          refine s_bipush (pc := 69) (v := (97 : Int32)) dX10_readWord_69 (by decide) ?_
          refine s_isub (pc := 71) dX10_readWord_71 ?_
          refine s_iconst (pc := 72) (v := (1 : Int32)) dX10_readWord_72 (by decide) ?_
          refine s_iadd (pc := 73) dX10_readWord_73 ?_
          refine s_goto (pc := 74) (tgt := 78) dX10_readWord_74 (by decide) ?_
          refine s_sub (lv' := [(0, .ref 1)]) [0] rfl ?_
          exact t_X10_readWord_B78 N kb e92 hkb he92 (((((32 : Int32) * v1) + (μ.1 2 (μ.1 1 9).toNatClampNeg)) - (97 : Int32)) + (1 : Int32)) μ
        · refine s_iconst (pc := 77) (v := (-1 : Int32)) dX10_readWord_77 (by decide) ?_
          refine s_sub (lv' := [(0, .ref 1)]) [0] rfl ?_
          exact t_X10_readWord_B78 N kb e92 hkb he92 (-1 : Int32) μ
  · exact he92 v1 μ
def f_X10_readWord_L2 (N : Nat) (e92 : Int32 → z_S → Option (Unit × z_S)) : Nat → Int32 → z_S → Option (Unit × z_S)
  | 0, _, _ => none
  | n + 1, v1, μ => b_X10_readWord_L2 N (f_X10_readWord_L2 N e92 n) e92 v1 μ
theorem t_X10_readWord_L2 (N : Nat) (e92 : Int32 → z_S → Option (Unit × z_S)) (he92 : ∀ (a1 : Int32) (μ : z_S), z_sim true rV mX10_readWord 0 (e92 a1 μ) 92 [(0, .ref 1), (1, .int a1)] [] μ) : ∀ (n : Nat) (v1 : Int32) (μ : z_S), z_sim true rV mX10_readWord 0 (f_X10_readWord_L2 N e92 n v1 μ) 2 [(0, .ref 1), (1, .int v1)] [] μ
  | 0, _, _ => s_none
  | n + 1, v1, μ => tb_X10_readWord_L2 N (f_X10_readWord_L2 N e92 n) e92 (t_X10_readWord_L2 N e92 he92 n) he92 v1 μ
def f_X10_readWord_B156 (N : Nat) (kb : Int32 → z_S → Option (Unit × z_S)) (v2 : Int32) (s0 : Int32) (μ : z_S) : Option (Unit × z_S) :=
  z_bd (z_setI μ 1 7 s0) fun μ_3 => z_bd (v2 + 1) fun x1 => kb x1 μ_3
theorem t_X10_readWord_B156 (N : Nat)   (kb : Int32 → z_S → Option (Unit × z_S)) (hkb : ∀ (a2 : Int32) (μ : z_S), z_sim true rV mX10_readWord 0 (kb a2 μ) 120 [(0, .ref 1), (2, .int a2)] [] μ) (v2 : Int32) (s0 : Int32)  (μ : z_S) : z_sim true rV mX10_readWord 0 (f_X10_readWord_B156 N  kb v2 s0 μ) 156 [(0, .ref 1), (2, .int v2)] [.int s0, .ref 1] μ := by
  unfold f_X10_readWord_B156
  refine s_putI (pc := 156) (ci := 10) (k := 7) dX10_readWord_156 fl_10_59 kd_1 rfl rfl (fun μ_3 => ?_)
  refine s_iincB (pc := 159) (lv' := fun x1 => [(2, .int x1), (0, .ref 1)]) (c := 1) 1 dX10_readWord_159 rfl (by decide) (by decide) (fun _ => rfl) (fun x1 => ?_)
  refine s_goto (pc := 162) (tgt := 120) dX10_readWord_162 (by decide) ?_
  refine s_sub (lv' := [(0, .ref 1), (2, .int x1)]) [1, 0] rfl ?_
  exact hkb x1 μ_3
def b_X10_readWord_L120 (N : Nat) (kb : Int32 → z_S → Option (Unit × z_S)) (v2 : Int32) (μ : z_S) : Option (Unit × z_S) :=
  if v2 < (34 : Int32) then (if (μ.1 1 7) = (-1 : Int32) then (z_in v2 34 <| if (μ.1 3 v2.toNatClampNeg) = (μ.1 1 8) then (f_X10_readWord_B156 N kb v2 v2 μ) else f_X10_readWord_B156 N kb v2 (-1 : Int32) μ) else some ((), μ)) else some ((), μ)
theorem tb_X10_readWord_L120 (N : Nat) (kb : Int32 → z_S → Option (Unit × z_S)) (hkb : ∀ (a2 : Int32) (μ : z_S), z_sim true rV mX10_readWord 0 (kb a2 μ) 120 [(0, .ref 1), (2, .int a2)] [] μ) (v2 : Int32) (μ : z_S) : z_sim true rV mX10_readWord 0 (b_X10_readWord_L120 N kb v2 μ) 120 [(0, .ref 1), (2, .int v2)] [] μ := by
  unfold b_X10_readWord_L120
  refine s_iload_n (pc := 120) 1 dX10_readWord_120 rfl rfl ?_
  refine s_aload_n (pc := 121) 0 dX10_readWord_121 rfl rfl ?_
  refine s_getR (pc := 122) (ci := 10) (k := 10) (r := 3) dX10_readWord_122 fl_10_19 kd_1 rfl rs_1_10 ?_
  refine s_alen (pc := 125) (v := (34 : Int32)) dX10_readWord_125 kd_3 (by decide) (by decide) (by decide) ?_
  refine s_icmp_ge (pc := 126) (tgt := 165) dX10_readWord_126 (by decide) ?_ ?_
  · refine s_aload_n (pc := 129) 0 dX10_readWord_129 rfl rfl ?_
    refine s_getI (pc := 130) (ci := 10) (k := 7) dX10_readWord_130 fl_10_59 kd_1 rfl ?_
    refine s_iconst (pc := 133) (v := (-1 : Int32)) dX10_readWord_133 (by decide) ?_
    refine s_icmp_ne (pc := 134) (tgt := 165) dX10_readWord_134 (by decide) ?_ ?_
    · refine s_aload_n (pc := 137) 0 dX10_readWord_137 rfl rfl ?_
      refine s_aload_n (pc := 138) 0 dX10_readWord_138 rfl rfl ?_
      refine s_getR (pc := 139) (ci := 10) (k := 10) (r := 3) dX10_readWord_139 fl_10_19 kd_1 rfl rs_1_10 ?_
      refine s_iload_n (pc := 142) 1 dX10_readWord_142 rfl rfl ?_
      refine s_iald (pc := 143) dX10_readWord_143 kd_3 ?_
      refine s_aload_n (pc := 144) 0 dX10_readWord_144 rfl rfl ?_
      refine s_getI (pc := 145) (ci := 10) (k := 8) dX10_readWord_145 fl_10_68 kd_1 rfl ?_
      refine s_icmp_ne (pc := 148) (tgt := 155) dX10_readWord_148 (by decide) ?_ ?_
      · refine s_iload_n (pc := 151) 1 dX10_readWord_151 rfl rfl ?_
        refine s_goto (pc := 152) (tgt := 156) dX10_readWord_152 (by decide) ?_
        exact t_X10_readWord_B156 N kb hkb v2 v2 μ
      · refine s_iconst (pc := 155) (v := (-1 : Int32)) dX10_readWord_155 (by decide) ?_
        exact t_X10_readWord_B156 N kb hkb v2 (-1 : Int32) μ
    · exact s_vret (pc := 165) dX10_readWord_165 rfl
  · exact s_vret (pc := 165) dX10_readWord_165 rfl
def f_X10_readWord_L120 (N : Nat) : Nat → Int32 → z_S → Option (Unit × z_S)
  | 0, _, _ => none
  | n + 1, v2, μ => b_X10_readWord_L120 N (f_X10_readWord_L120 N n) v2 μ
theorem t_X10_readWord_L120 (N : Nat) : ∀ (n : Nat) (v2 : Int32) (μ : z_S), z_sim true rV mX10_readWord 0 (f_X10_readWord_L120 N n v2 μ) 120 [(0, .ref 1), (2, .int v2)] [] μ
  | 0, _, _ => s_none
  | n + 1, v2, μ => tb_X10_readWord_L120 N (f_X10_readWord_L120 N n) (t_X10_readWord_L120 N n) v2 μ
def f_X10_readWord_B92 (N : Nat)  (v1 : Int32) (μ : z_S) : Option (Unit × z_S) :=
  if v1 = (-1 : Int32) then (some ((), μ)) else z_bd (z_setI μ 1 8 (v1 <<< (((5 : Int32) * ((6 : Int32) - ((μ.1 1 9) - (μ.1 1 5)))) &&& 31))) fun μ_2 => f_X10_readWord_L120 N N (0 : Int32) μ_2
theorem t_X10_readWord_B92 (N : Nat)     (v1 : Int32)  (μ : z_S) : z_sim true rV mX10_readWord 0 (f_X10_readWord_B92 N   v1 μ) 92 [(0, .ref 1), (1, .int v1)] [] μ := by
  unfold f_X10_readWord_B92
  refine s_iload_n (pc := 92) 1 dX10_readWord_92 rfl rfl ?_
  refine s_iconst (pc := 93) (v := (-1 : Int32)) dX10_readWord_93 (by decide) ?_
  refine s_icmp_ne (pc := 94) (tgt := 98) dX10_readWord_94 (by decide) ?_ ?_
  · exact s_vret (pc := 97) dX10_readWord_97 rfl
  · refine s_aload_n (pc := 98) 0 dX10_readWord_98 rfl rfl ?_
    refine s_iload_n (pc := 99) 1 dX10_readWord_99 rfl rfl ?_
    refine s_iconst (pc := 100) (v := (5 : Int32)) dX10_readWord_100 (by decide) ?_
    refine s_bipush (pc := 101) (v := (6 : Int32)) dX10_readWord_101 (by decide) ?_
    refine s_aload_n (pc := 103) 0 dX10_readWord_103 rfl rfl ?_
    refine s_getI (pc := 104) (ci := 10) (k := 9) dX10_readWord_104 fl_10_47 kd_1 rfl ?_
    refine s_aload_n (pc := 107) 0 dX10_readWord_107 rfl rfl ?_
    refine s_getI (pc := 108) (ci := 10) (k := 5) dX10_readWord_108 fl_10_53 kd_1 rfl ?_
    refine s_isub (pc := 111) dX10_readWord_111 ?_
    refine s_isub (pc := 112) dX10_readWord_112 ?_
    refine s_imul (pc := 113) dX10_readWord_113 ?_
    refine s_ishl (pc := 114) dX10_readWord_114 ?_
    refine s_putI (pc := 115) (ci := 10) (k := 8) dX10_readWord_115 fl_10_68 kd_1 rfl rfl (fun μ_2 => ?_)
    refine s_iconst (pc := 118) (v := (0 : Int32)) dX10_readWord_118 (by decide) ?_
    refine s_istore_n (pc := 119) (lv' := [(2, .int (0 : Int32)), (0, .ref 1), (1, .int v1)]) dX10_readWord_119 rfl (by decide) rfl ?_
    refine s_sub (lv' := [(0, .ref 1), (2, .int (0 : Int32))]) [1, 0] rfl ?_
    refine t_X10_readWord_L120 N N (0 : Int32) μ_2
def f_X10_readWord (N : Nat) (μ : z_S) : Option (Unit × z_S) :=
  f_X10_readWord_L2 N (fun y92_1 μ92 => f_X10_readWord_B92 N y92_1 μ92) N (0 : Int32) μ
theorem t_X10_readWord (N : Nat) (μ : z_S) : z_met true rV mX10_readWord 0 [.ref 1] μ (f_X10_readWord N μ) := by
  refine z_met.of (by decide +kernel) (by show _ ≤ _; first | decide | exact Nat.le_of_ble_eq_true rfl) (lv := [(0, .ref 1)]) rfl ?_
  unfold f_X10_readWord
  refine s_iconst (pc := 0) (v := (0 : Int32)) dX10_readWord_0 (by decide) ?_
  refine s_istore_n (pc := 1) (lv' := [(1, .int (0 : Int32)), (0, .ref 1)]) dX10_readWord_1 rfl (by decide) rfl ?_
  refine s_sub (lv' := [(0, .ref 1), (1, .int (0 : Int32))]) [1, 0] rfl ?_
  refine t_X10_readWord_L2 N _ ?_ N (0 : Int32) μ
  · intro y92_1 μ92
    exact t_X10_readWord_B92 N y92_1 μ92
def f_X10_readDigits_B82 (N : Nat) (kb : z_S → Option (Unit × z_S)) (s0 : Int32) (μ : z_S) : Option (Unit × z_S) :=
  z_bd (z_setI μ 1 8 s0) fun μ_2 => z_bd (z_setI μ_2 1 9 ((μ_2.1 1 9) + (1 : Int32))) fun μ_3 => kb μ_3
theorem t_X10_readDigits_B82 (N : Nat)   (kb : z_S → Option (Unit × z_S)) (hkb : ∀  (μ : z_S), z_sim true rV mX10_readDigits 0 (kb μ) 5 [(0, .ref 1)] [] μ) (s0 : Int32)  (μ : z_S) : z_sim true rV mX10_readDigits 0 (f_X10_readDigits_B82 N  kb s0 μ) 82 [(0, .ref 1)] [.int s0, .ref 1] μ := by
  unfold f_X10_readDigits_B82
  refine s_putI (pc := 82) (ci := 10) (k := 8) dX10_readDigits_82 fl_10_68 kd_1 rfl rfl (fun μ_2 => ?_)
  refine s_aload_n (pc := 85) 0 dX10_readDigits_85 rfl rfl ?_
  refine s_dup (pc := 86) dX10_readDigits_86 rfl ?_
  refine s_getI (pc := 87) (ci := 10) (k := 9) dX10_readDigits_87 fl_10_47 kd_1 rfl ?_
  refine s_iconst (pc := 90) (v := (1 : Int32)) dX10_readDigits_90 (by decide) ?_
  refine s_iadd (pc := 91) dX10_readDigits_91 ?_
  refine s_putI (pc := 92) (ci := 10) (k := 9) dX10_readDigits_92 fl_10_47 kd_1 rfl rfl (fun μ_3 => ?_)
  refine s_goto (pc := 95) (tgt := 5) dX10_readDigits_95 (by decide) ?_
  exact hkb μ_3
def b_X10_readDigits_L5 (N : Nat) (kb : z_S → Option (Unit × z_S)) (μ : z_S) : Option (Unit × z_S) :=
  if (μ.1 1 9) < (μ.1 1 1) then (z_in (μ.1 1 9) 1600 <| if (μ.1 2 (μ.1 1 9).toNatClampNeg) < (48 : Int32) then (some ((), μ)) else z_in (μ.1 1 9) 1600 <| if (57 : Int32) < (μ.1 2 (μ.1 1 9).toNatClampNeg) then (some ((), μ)) else if (μ.1 1 9) < ((μ.1 1 5) + (4 : Int32)) then (z_in (μ.1 1 9) 1600 <| f_X10_readDigits_B82 N kb ((((10 : Int32) * (μ.1 1 8)) + (μ.1 2 (μ.1 1 9).toNatClampNeg)) - (48 : Int32)) μ) else f_X10_readDigits_B82 N kb (0 : Int32) μ) else some ((), μ)
theorem tb_X10_readDigits_L5 (N : Nat) (kb : z_S → Option (Unit × z_S)) (hkb : ∀ (μ : z_S), z_sim true rV mX10_readDigits 0 (kb μ) 5 [(0, .ref 1)] [] μ) (μ : z_S) : z_sim true rV mX10_readDigits 0 (b_X10_readDigits_L5 N kb μ) 5 [(0, .ref 1)] [] μ := by
  unfold b_X10_readDigits_L5
  refine s_aload_n (pc := 5) 0 dX10_readDigits_5 rfl rfl ?_
  refine s_getI (pc := 6) (ci := 10) (k := 9) dX10_readDigits_6 fl_10_47 kd_1 rfl ?_
  refine s_aload_n (pc := 9) 0 dX10_readDigits_9 rfl rfl ?_
  refine s_getI (pc := 10) (ci := 10) (k := 1) dX10_readDigits_10 fl_10_38 kd_1 rfl ?_
  refine s_icmp_ge (pc := 13) (tgt := 98) dX10_readDigits_13 (by decide) ?_ ?_
  · refine s_aload_n (pc := 16) 0 dX10_readDigits_16 rfl rfl ?_
    refine s_getR (pc := 17) (ci := 10) (k := 0) (r := 2) dX10_readDigits_17 fl_10_9 kd_1 rfl rs_1_0 ?_
    refine s_aload_n (pc := 20) 0 dX10_readDigits_20 rfl rfl ?_
    refine s_getI (pc := 21) (ci := 10) (k := 9) dX10_readDigits_21 fl_10_47 kd_1 rfl ?_
    refine s_iald (pc := 24) dX10_readDigits_24 kd_2 ?_
    refine s_bipush (pc := 25) (v := (48 : Int32)) dX10_readDigits_25 (by decide) ?_
    refine s_icmp_lt (pc := 27) (tgt := 98) dX10_readDigits_27 (by decide) ?_ ?_
    · exact s_vret (pc := 98) dX10_readDigits_98 rfl
    · refine s_aload_n (pc := 30) 0 dX10_readDigits_30 rfl rfl ?_
      refine s_getR (pc := 31) (ci := 10) (k := 0) (r := 2) dX10_readDigits_31 fl_10_9 kd_1 rfl rs_1_0 ?_
      refine s_aload_n (pc := 34) 0 dX10_readDigits_34 rfl rfl ?_
      refine s_getI (pc := 35) (ci := 10) (k := 9) dX10_readDigits_35 fl_10_47 kd_1 rfl ?_
      refine s_iald (pc := 38) dX10_readDigits_38 kd_2 ?_
      refine s_bipush (pc := 39) (v := (57 : Int32)) dX10_readDigits_39 (by decide) ?_
      refine s_icmp_gt (pc := 41) (tgt := 98) dX10_readDigits_41 (by decide) ?_ ?_
      · exact s_vret (pc := 98) dX10_readDigits_98 rfl
      · refine s_aload_n (pc := 44) 0 dX10_readDigits_44 rfl rfl ?_
        refine s_aload_n (pc := 45) 0 dX10_readDigits_45 rfl rfl ?_
        refine s_getI (pc := 46) (ci := 10) (k := 9) dX10_readDigits_46 fl_10_47 kd_1 rfl ?_
        refine s_aload_n (pc := 49) 0 dX10_readDigits_49 rfl rfl ?_
        refine s_getI (pc := 50) (ci := 10) (k := 5) dX10_readDigits_50 fl_10_53 kd_1 rfl ?_
        refine s_iconst (pc := 53) (v := (4 : Int32)) dX10_readDigits_53 (by decide) ?_
        refine s_iadd (pc := 54) dX10_readDigits_54 ?_
        refine s_icmp_ge (pc := 55) (tgt := 81) dX10_readDigits_55 (by decide) ?_ ?_
        · refine s_bipush (pc := 58) (v := (10 : Int32)) dX10_readDigits_58 (by decide) ?_
          refine s_aload_n (pc := 60) 0 dX10_readDigits_60 rfl rfl ?_
          refine s_getI (pc := 61) (ci := 10) (k := 8) dX10_readDigits_61 fl_10_68 kd_1 rfl ?_
          refine s_imul (pc := 64) dX10_readDigits_64 ?_
          refine s_aload_n (pc := 65) 0 dX10_readDigits_65 rfl rfl ?_
          refine s_getR (pc := 66) (ci := 10) (k := 0) (r := 2) dX10_readDigits_66 fl_10_9 kd_1 rfl rs_1_0 ?_
          refine s_aload_n (pc := 69) 0 dX10_readDigits_69 rfl rfl ?_
          refine s_getI (pc := 70) (ci := 10) (k := 9) dX10_readDigits_70 fl_10_47 kd_1 rfl ?_
          refine s_iald (pc := 73) dX10_readDigits_73 kd_2 ?_
          refine s_iadd (pc := 74) dX10_readDigits_74 ?_
          refine s_bipush (pc := 75) (v := (48 : Int32)) dX10_readDigits_75 (by decide) ?_
          refine s_isub (pc := 77) dX10_readDigits_77 ?_
          refine s_goto (pc := 78) (tgt := 82) dX10_readDigits_78 (by decide) ?_
          exact t_X10_readDigits_B82 N kb hkb ((((10 : Int32) * (μ.1 1 8)) + (μ.1 2 (μ.1 1 9).toNatClampNeg)) - (48 : Int32)) μ
        · refine s_iconst (pc := 81) (v := (0 : Int32)) dX10_readDigits_81 (by decide) ?_
          exact t_X10_readDigits_B82 N kb hkb (0 : Int32) μ
  · exact s_vret (pc := 98) dX10_readDigits_98 rfl
def f_X10_readDigits_L5 (N : Nat) : Nat → z_S → Option (Unit × z_S)
  | 0, _ => none
  | n + 1, μ => b_X10_readDigits_L5 N (f_X10_readDigits_L5 N n) μ
theorem t_X10_readDigits_L5 (N : Nat) : ∀ (n : Nat) (μ : z_S), z_sim true rV mX10_readDigits 0 (f_X10_readDigits_L5 N n μ) 5 [(0, .ref 1)] [] μ
  | 0, _ => s_none
  | n + 1, μ => tb_X10_readDigits_L5 N (f_X10_readDigits_L5 N n) (t_X10_readDigits_L5 N n) μ
def f_X10_readDigits (N : Nat) (μ : z_S) : Option (Unit × z_S) :=
  z_bd (z_setI μ 1 8 (0 : Int32)) fun μ_1 => f_X10_readDigits_L5 N N μ_1
theorem t_X10_readDigits (N : Nat) (μ : z_S) : z_met true rV mX10_readDigits 0 [.ref 1] μ (f_X10_readDigits N μ) := by
  refine z_met.of (by decide +kernel) (by show _ ≤ _; first | decide | exact Nat.le_of_ble_eq_true rfl) (lv := [(0, .ref 1)]) rfl ?_
  unfold f_X10_readDigits
  refine s_aload_n (pc := 0) 0 dX10_readDigits_0 rfl rfl ?_
  refine s_iconst (pc := 1) (v := (0 : Int32)) dX10_readDigits_1 (by decide) ?_
  refine s_putI (pc := 2) (ci := 10) (k := 8) dX10_readDigits_2 fl_10_68 kd_1 rfl rfl (fun μ_1 => ?_)
  refine t_X10_readDigits_L5 N N μ_1
def f_X10_next_B69 (N : Nat) (c1 : Int32) (kb : z_S → Option (Unit × z_S)) (e82 : z_S → Option (Unit × z_S)) (μ : z_S) : Option (Unit × z_S) :=
  z_bd (z_setI μ 1 5 ((μ.1 1 5) + (1 : Int32))) fun μ_2 => kb μ_2
theorem t_X10_next_B69 (N : Nat) (c1 : Int32)  (kb : z_S → Option (Unit × z_S)) (e82 : z_S → Option (Unit × z_S)) (hkb : ∀  (μ : z_S), z_sim true rV mX10_next 1 (kb μ) 30 [(0, .ref 1), (1, .int c1)] [] μ) (he82 : ∀  (μ : z_S), z_sim true rV mX10_next 1 (e82 μ) 82 [(0, .ref 1), (1, .int c1)] [] μ)   (μ : z_S) : z_sim true rV mX10_next 1 (f_X10_next_B69 N c1 kb e82  μ) 69 [(0, .ref 1), (1, .int c1)] [] μ := by
  unfold f_X10_next_B69
  refine s_aload_n (pc := 69) 0 dX10_next_69 rfl rfl ?_
  refine s_dup (pc := 70) dX10_next_70 rfl ?_
  refine s_getI (pc := 71) (ci := 10) (k := 5) dX10_next_71 fl_10_53 kd_1 rfl ?_
  refine s_iconst (pc := 74) (v := (1 : Int32)) dX10_next_74 (by decide) ?_
  refine s_iadd (pc := 75) dX10_next_75 ?_
  refine s_putI (pc := 76) (ci := 10) (k := 5) dX10_next_76 fl_10_53 kd_1 rfl rfl (fun μ_2 => ?_)
  refine s_goto (pc := 79) (tgt := 30) dX10_next_79 (by decide) ?_
  exact hkb μ_2
def b_X10_next_L30 (N : Nat) (c1 : Int32) (kb : z_S → Option (Unit × z_S)) (e82 : z_S → Option (Unit × z_S)) (μ : z_S) : Option (Unit × z_S) :=
  if (μ.1 1 5) < (μ.1 1 1) then (z_in (μ.1 1 5) 1600 <| if (μ.1 2 (μ.1 1 5).toNatClampNeg) = (32 : Int32) then (f_X10_next_B69 N c1 kb e82 μ) else z_in (μ.1 1 5) 1600 <| if (μ.1 2 (μ.1 1 5).toNatClampNeg) = (10 : Int32) then (f_X10_next_B69 N c1 kb e82 μ) else e82 μ) else e82 μ
theorem tb_X10_next_L30 (N : Nat) (c1 : Int32) (kb : z_S → Option (Unit × z_S)) (e82 : z_S → Option (Unit × z_S)) (hkb : ∀ (μ : z_S), z_sim true rV mX10_next 1 (kb μ) 30 [(0, .ref 1), (1, .int c1)] [] μ) (he82 : ∀ (μ : z_S), z_sim true rV mX10_next 1 (e82 μ) 82 [(0, .ref 1), (1, .int c1)] [] μ) (μ : z_S) : z_sim true rV mX10_next 1 (b_X10_next_L30 N c1 kb e82 μ) 30 [(0, .ref 1), (1, .int c1)] [] μ := by
  unfold b_X10_next_L30
  refine s_aload_n (pc := 30) 0 dX10_next_30 rfl rfl ?_
  refine s_getI (pc := 31) (ci := 10) (k := 5) dX10_next_31 fl_10_53 kd_1 rfl ?_
  refine s_aload_n (pc := 34) 0 dX10_next_34 rfl rfl ?_
  refine s_getI (pc := 35) (ci := 10) (k := 1) dX10_next_35 fl_10_38 kd_1 rfl ?_
  refine s_icmp_ge (pc := 38) (tgt := 82) dX10_next_38 (by decide) ?_ ?_
  · refine s_aload_n (pc := 41) 0 dX10_next_41 rfl rfl ?_
    refine s_getR (pc := 42) (ci := 10) (k := 0) (r := 2) dX10_next_42 fl_10_9 kd_1 rfl rs_1_0 ?_
    refine s_aload_n (pc := 45) 0 dX10_next_45 rfl rfl ?_
    refine s_getI (pc := 46) (ci := 10) (k := 5) dX10_next_46 fl_10_53 kd_1 rfl ?_
    refine s_iald (pc := 49) dX10_next_49 kd_2 ?_
    refine s_bipush (pc := 50) (v := (32 : Int32)) dX10_next_50 (by decide) ?_
    refine s_icmp_eq (pc := 52) (tgt := 69) dX10_next_52 (by decide) ?_ ?_
    · exact t_X10_next_B69 N c1 kb e82 hkb he82 μ
    · refine s_aload_n (pc := 55) 0 dX10_next_55 rfl rfl ?_
      refine s_getR (pc := 56) (ci := 10) (k := 0) (r := 2) dX10_next_56 fl_10_9 kd_1 rfl rs_1_0 ?_
      refine s_aload_n (pc := 59) 0 dX10_next_59 rfl rfl ?_
      refine s_getI (pc := 60) (ci := 10) (k := 5) dX10_next_60 fl_10_53 kd_1 rfl ?_
      refine s_iald (pc := 63) dX10_next_63 kd_2 ?_
      refine s_bipush (pc := 64) (v := (10 : Int32)) dX10_next_64 (by decide) ?_
      refine s_icmp_ne (pc := 66) (tgt := 82) dX10_next_66 (by decide) ?_ ?_
      · exact t_X10_next_B69 N c1 kb e82 hkb he82 μ
      · exact he82 μ
  · exact he82 μ
def f_X10_next_L30 (N : Nat) (c1 : Int32) (e82 : z_S → Option (Unit × z_S)) : Nat → z_S → Option (Unit × z_S)
  | 0, _ => none
  | n + 1, μ => b_X10_next_L30 N c1 (f_X10_next_L30 N c1 e82 n) e82 μ
theorem t_X10_next_L30 (N : Nat) (c1 : Int32) (e82 : z_S → Option (Unit × z_S)) (he82 : ∀ (μ : z_S), z_sim true rV mX10_next 1 (e82 μ) 82 [(0, .ref 1), (1, .int c1)] [] μ) : ∀ (n : Nat) (μ : z_S), z_sim true rV mX10_next 1 (f_X10_next_L30 N c1 e82 n μ) 30 [(0, .ref 1), (1, .int c1)] [] μ
  | 0, _ => s_none
  | n + 1, μ => tb_X10_next_L30 N c1 (f_X10_next_L30 N c1 e82 n) e82 (t_X10_next_L30 N c1 e82 he82 n) he82 μ
def f_X10_next_B239 (N : Nat)  (v3 : Int32) (μ : z_S) : Option (Unit × z_S) :=
  z_bd (z_setI μ 1 4 (3 : Int32)) fun μ_7 => z_bd (z_setI μ_7 1 6 v3) fun μ_8 => z_bd (z_setI μ_8 1 9 ((μ_8.1 1 9) + (1 : Int32))) fun μ_9 => some ((), μ_9)
theorem t_X10_next_B239 (N : Nat)     (v3 : Int32)  (μ : z_S) : z_sim true rV mX10_next 1 (f_X10_next_B239 N   v3 μ) 239 [(0, .ref 1), (3, .int v3)] [] μ := by
  unfold f_X10_next_B239
  refine s_aload_n (pc := 239) 0 dX10_next_239 rfl rfl ?_
  refine s_iconst (pc := 240) (v := (3 : Int32)) dX10_next_240 (by decide) ?_
  refine s_putI (pc := 241) (ci := 10) (k := 4) dX10_next_241 fl_10_44 kd_1 rfl rfl (fun μ_7 => ?_)
  refine s_aload_n (pc := 244) 0 dX10_next_244 rfl rfl ?_
  refine s_iload_n (pc := 245) 1 dX10_next_245 rfl rfl ?_
  refine s_putI (pc := 246) (ci := 10) (k := 6) dX10_next_246 fl_10_56 kd_1 rfl rfl (fun μ_8 => ?_)
  refine s_aload_n (pc := 249) 0 dX10_next_249 rfl rfl ?_
  refine s_dup (pc := 250) dX10_next_250 rfl ?_
  refine s_getI (pc := 251) (ci := 10) (k := 9) dX10_next_251 fl_10_47 kd_1 rfl ?_
  refine s_iconst (pc := 254) (v := (1 : Int32)) dX10_next_254 (by decide) ?_
  refine s_iadd (pc := 255) dX10_next_255 ?_
  refine s_putI (pc := 256) (ci := 10) (k := 9) dX10_next_256 fl_10_47 kd_1 rfl rfl (fun μ_9 => ?_)
  exact s_vret (pc := 259) dX10_next_259 rfl
def f_X10_next_B233 (N : Nat)  (s0 : Int32) (μ : z_S) : Option (Unit × z_S) :=
  z_bd (z_setI μ 1 4 s0) fun μ_11 => some ((), μ_11)
theorem t_X10_next_B233 (N : Nat)     (s0 : Int32)  (μ : z_S) : z_sim true rV mX10_next 1 (f_X10_next_B233 N   s0 μ) 233 [] [.int s0, .ref 1] μ := by
  unfold f_X10_next_B233
  refine s_putI (pc := 233) (ci := 10) (k := 4) dX10_next_233 fl_10_44 kd_1 rfl rfl (fun μ_11 => ?_)
  refine s_goto (pc := 236) (tgt := 259) dX10_next_236 (by decide) ?_
  exact s_vret (pc := 259) dX10_next_259 rfl
def f_X10_next_B207 (N : Nat)  (v2 : Int32) (v3 : Int32) (μ : z_S) : Option (Unit × z_S) :=
  if v3 < (48 : Int32) then (f_X10_next_B239 N v3 μ) else if (57 : Int32) < v3 then (f_X10_next_B239 N v3 μ) else z_bn (f_X10_readDigits N μ) fun _ μ_10 => if v2 = 0 then (f_X10_next_B233 N (2 : Int32) μ_10) else f_X10_next_B233 N (4 : Int32) μ_10
theorem t_X10_next_B207 (N : Nat)     (v2 : Int32) (v3 : Int32)  (μ : z_S) : z_sim true rV mX10_next 1 (f_X10_next_B207 N   v2 v3 μ) 207 [(0, .ref 1), (2, .int v2), (3, .int v3)] [] μ := by
  unfold f_X10_next_B207
  refine s_iload_n (pc := 207) 2 dX10_next_207 rfl rfl ?_
  refine s_bipush (pc := 208) (v := (48 : Int32)) dX10_next_208 (by decide) ?_
  refine s_icmp_lt (pc := 210) (tgt := 239) dX10_next_210 (by decide) ?_ ?_
  · refine s_sub (lv' := [(0, .ref 1), (3, .int v3)]) [0, 2] rfl ?_
    exact t_X10_next_B239 N v3 μ
  · refine s_iload_n (pc := 213) 2 dX10_next_213 rfl rfl ?_
    refine s_bipush (pc := 214) (v := (57 : Int32)) dX10_next_214 (by decide) ?_
    refine s_icmp_gt (pc := 216) (tgt := 239) dX10_next_216 (by decide) ?_ ?_
    · refine s_sub (lv' := [(0, .ref 1), (3, .int v3)]) [0, 2] rfl ?_
      exact t_X10_next_B239 N v3 μ
    · refine s_aload_n (pc := 219) 0 dX10_next_219 rfl rfl ?_
      refine s_callVV (pc := 220) (as := []) (st := []) dX10_next_220 lk_10_65 kd_1 (t_X10_readDigits N μ) (by omega) rfl (by decide) rfl (fun _ μ_10 => ?_)
      refine s_aload_n (pc := 223) 0 dX10_next_223 rfl rfl ?_
      refine s_iload_n (pc := 224) 1 dX10_next_224 rfl rfl ?_
      refine s_if_eq (pc := 225) (tgt := 232) dX10_next_225 (by decide) ?_ ?_
      · refine s_iconst (pc := 232) (v := (2 : Int32)) dX10_next_232 (by decide) ?_
        refine s_sub (lv' := []) [] rfl ?_
        exact t_X10_next_B233 N (2 : Int32) μ_10
      · refine s_iconst (pc := 228) (v := (4 : Int32)) dX10_next_228 (by decide) ?_
        refine s_goto (pc := 229) (tgt := 233) dX10_next_229 (by decide) ?_
        refine s_sub (lv' := []) [] rfl ?_
        exact t_X10_next_B233 N (4 : Int32) μ_10
def f_X10_next_B201 (N : Nat)  (s0 : Int32) (μ : z_S) : Option (Unit × z_S) :=
  z_bd (z_setI μ 1 7 s0) fun μ_14 => some ((), μ_14)
theorem t_X10_next_B201 (N : Nat)     (s0 : Int32)  (μ : z_S) : z_sim true rV mX10_next 1 (f_X10_next_B201 N   s0 μ) 201 [] [.int s0, .ref 1] μ := by
  unfold f_X10_next_B201
  refine s_putI (pc := 201) (ci := 10) (k := 7) dX10_next_201 fl_10_59 kd_1 rfl rfl (fun μ_14 => ?_)
  refine s_goto (pc := 204) (tgt := 259) dX10_next_204 (by decide) ?_
  exact s_vret (pc := 259) dX10_next_259 rfl
def f_X10_next_B185 (N : Nat)  (v2 : Int32) (s0 : Int32) (μ : z_S) : Option (Unit × z_S) :=
  z_bd (z_setI μ 1 4 s0) fun μ_13 => if v2 = 0 then (f_X10_next_B201 N (μ_13.1 1 7) μ_13) else f_X10_next_B201 N (-1 : Int32) μ_13
theorem t_X10_next_B185 (N : Nat)     (v2 : Int32) (s0 : Int32)  (μ : z_S) : z_sim true rV mX10_next 1 (f_X10_next_B185 N   v2 s0 μ) 185 [(0, .ref 1), (2, .int v2)] [.int s0, .ref 1] μ := by
  unfold f_X10_next_B185
  refine s_putI (pc := 185) (ci := 10) (k := 4) dX10_next_185 fl_10_44 kd_1 rfl rfl (fun μ_13 => ?_)
  refine s_aload_n (pc := 188) 0 dX10_next_188 rfl rfl ?_
  refine s_iload_n (pc := 189) 1 dX10_next_189 rfl rfl ?_
  refine s_if_eq (pc := 190) (tgt := 197) dX10_next_190 (by decide) ?_ ?_
  · refine s_aload_n (pc := 197) 0 dX10_next_197 rfl rfl ?_
    refine s_getI (pc := 198) (ci := 10) (k := 7) dX10_next_198 fl_10_59 kd_1 rfl ?_
    refine s_sub (lv' := []) [] rfl ?_
    exact t_X10_next_B201 N (μ_13.1 1 7) μ_13
  · refine s_iconst (pc := 193) (v := (-1 : Int32)) dX10_next_193 (by decide) ?_
    refine s_goto (pc := 194) (tgt := 201) dX10_next_194 (by decide) ?_
    refine s_sub (lv' := []) [] rfl ?_
    exact t_X10_next_B201 N (-1 : Int32) μ_13
def f_X10_next_B127 (N : Nat)  (v2 : Int32) (s0 : Int32) (μ : z_S) : Option (Unit × z_S) :=
  z_bd (z_setI μ 1 6 (-1 : Int32)) fun μ_3 => z_bd (z_setI μ_3 1 7 (-1 : Int32)) fun μ_4 => z_bd (z_setI μ_4 1 9 (μ_4.1 1 5)) fun μ_5 => if s0 = (-1 : Int32) then (z_bd (z_setI μ_5 1 4 (0 : Int32)) fun μ_6 => some ((), μ_6)) else if s0 < (97 : Int32) then (f_X10_next_B207 N v2 s0 μ_5) else if (122 : Int32) < s0 then (f_X10_next_B207 N v2 s0 μ_5) else z_bn (f_X10_readWord N μ_5) fun _ μ_12 => if v2 = 0 then (f_X10_next_B185 N v2 (1 : Int32) μ_12) else f_X10_next_B185 N v2 (4 : Int32) μ_12
theorem t_X10_next_B127 (N : Nat)     (v2 : Int32) (s0 : Int32)  (μ : z_S) : z_sim true rV mX10_next 1 (f_X10_next_B127 N   v2 s0 μ) 127 [(0, .ref 1), (2, .int v2)] [.int s0] μ := by
  unfold f_X10_next_B127
  refine s_istore_n (pc := 127) (lv' := [(3, .int s0), (0, .ref 1), (2, .int v2)]) dX10_next_127 rfl (by decide) rfl ?_
  refine s_aload_n (pc := 128) 1 dX10_next_128 rfl rfl ?_
  refine s_iconst (pc := 129) (v := (-1 : Int32)) dX10_next_129 (by decide) ?_
  refine s_putI (pc := 130) (ci := 10) (k := 6) dX10_next_130 fl_10_56 kd_1 rfl rfl (fun μ_3 => ?_)
  refine s_aload_n (pc := 133) 1 dX10_next_133 rfl rfl ?_
  refine s_iconst (pc := 134) (v := (-1 : Int32)) dX10_next_134 (by decide) ?_
  refine s_putI (pc := 135) (ci := 10) (k := 7) dX10_next_135 fl_10_59 kd_1 rfl rfl (fun μ_4 => ?_)
  refine s_aload_n (pc := 138) 1 dX10_next_138 rfl rfl ?_
  refine s_aload_n (pc := 139) 1 dX10_next_139 rfl rfl ?_
  refine s_getI (pc := 140) (ci := 10) (k := 5) dX10_next_140 fl_10_53 kd_1 rfl ?_
  refine s_putI (pc := 143) (ci := 10) (k := 9) dX10_next_143 fl_10_47 kd_1 rfl rfl (fun μ_5 => ?_)
  refine s_iload_n (pc := 146) 0 dX10_next_146 rfl rfl ?_
  refine s_iconst (pc := 147) (v := (-1 : Int32)) dX10_next_147 (by decide) ?_
  refine s_icmp_ne (pc := 148) (tgt := 159) dX10_next_148 (by decide) ?_ ?_
  · refine s_aload_n (pc := 151) 1 dX10_next_151 rfl rfl ?_
    refine s_iconst (pc := 152) (v := (0 : Int32)) dX10_next_152 (by decide) ?_
    refine s_putI (pc := 153) (ci := 10) (k := 4) dX10_next_153 fl_10_44 kd_1 rfl rfl (fun μ_6 => ?_)
    refine s_goto (pc := 156) (tgt := 259) dX10_next_156 (by decide) ?_
    exact s_vret (pc := 259) dX10_next_259 rfl
  · refine s_iload_n (pc := 159) 0 dX10_next_159 rfl rfl ?_
    refine s_bipush (pc := 160) (v := (97 : Int32)) dX10_next_160 (by decide) ?_
    refine s_icmp_lt (pc := 162) (tgt := 207) dX10_next_162 (by decide) ?_ ?_
    · refine s_sub (lv' := [(0, .ref 1), (2, .int v2), (3, .int s0)]) [1, 2, 0] rfl ?_
      exact t_X10_next_B207 N v2 s0 μ_5
    · refine s_iload_n (pc := 165) 0 dX10_next_165 rfl rfl ?_
      refine s_bipush (pc := 166) (v := (122 : Int32)) dX10_next_166 (by decide) ?_
      refine s_icmp_gt (pc := 168) (tgt := 207) dX10_next_168 (by decide) ?_ ?_
      · refine s_sub (lv' := [(0, .ref 1), (2, .int v2), (3, .int s0)]) [1, 2, 0] rfl ?_
        exact t_X10_next_B207 N v2 s0 μ_5
      · refine s_aload_n (pc := 171) 1 dX10_next_171 rfl rfl ?_
        refine s_callVV (pc := 172) (as := []) (st := []) dX10_next_172 lk_10_62 kd_1 (t_X10_readWord N μ_5) (by omega) rfl (by decide) rfl (fun _ μ_12 => ?_)
        refine s_aload_n (pc := 175) 1 dX10_next_175 rfl rfl ?_
        refine s_iload_n (pc := 176) 2 dX10_next_176 rfl rfl ?_
        refine s_if_eq (pc := 177) (tgt := 184) dX10_next_177 (by decide) ?_ ?_
        · refine s_iconst (pc := 184) (v := (1 : Int32)) dX10_next_184 (by decide) ?_
          refine s_sub (lv' := [(0, .ref 1), (2, .int v2)]) [1, 2] rfl ?_
          exact t_X10_next_B185 N v2 (1 : Int32) μ_12
        · refine s_iconst (pc := 180) (v := (4 : Int32)) dX10_next_180 (by decide) ?_
          refine s_goto (pc := 181) (tgt := 185) dX10_next_181 (by decide) ?_
          refine s_sub (lv' := [(0, .ref 1), (2, .int v2)]) [1, 2] rfl ?_
          exact t_X10_next_B185 N v2 (4 : Int32) μ_12
def f_X10_next_B102 (N : Nat)  (s0 : Int32) (μ : z_S) : Option (Unit × z_S) :=
  if (μ.1 1 5) < (μ.1 1 1) then (z_in (μ.1 1 5) 1600 <| f_X10_next_B127 N s0 (μ.1 2 (μ.1 1 5).toNatClampNeg) μ) else f_X10_next_B127 N s0 (-1 : Int32) μ
theorem t_X10_next_B102 (N : Nat)     (s0 : Int32)  (μ : z_S) : z_sim true rV mX10_next 1 (f_X10_next_B102 N   s0 μ) 102 [(0, .ref 1)] [.int s0] μ := by
  unfold f_X10_next_B102
  refine s_istore_n (pc := 102) (lv' := [(2, .int s0), (0, .ref 1)]) dX10_next_102 rfl (by decide) rfl ?_
  refine s_aload_n (pc := 103) 1 dX10_next_103 rfl rfl ?_
  refine s_getI (pc := 104) (ci := 10) (k := 5) dX10_next_104 fl_10_53 kd_1 rfl ?_
  refine s_aload_n (pc := 107) 1 dX10_next_107 rfl rfl ?_
  refine s_getI (pc := 108) (ci := 10) (k := 1) dX10_next_108 fl_10_38 kd_1 rfl ?_
  refine s_icmp_ge (pc := 111) (tgt := 126) dX10_next_111 (by decide) ?_ ?_
  · refine s_aload_n (pc := 114) 1 dX10_next_114 rfl rfl ?_
    refine s_getR (pc := 115) (ci := 10) (k := 0) (r := 2) dX10_next_115 fl_10_9 kd_1 rfl rs_1_0 ?_
    refine s_aload_n (pc := 118) 1 dX10_next_118 rfl rfl ?_
    refine s_getI (pc := 119) (ci := 10) (k := 5) dX10_next_119 fl_10_53 kd_1 rfl ?_
    refine s_iald (pc := 122) dX10_next_122 kd_2 ?_
    refine s_goto (pc := 123) (tgt := 127) dX10_next_123 (by decide) ?_
    refine s_sub (lv' := [(0, .ref 1), (2, .int s0)]) [1, 0] rfl ?_
    exact t_X10_next_B127 N s0 (μ.1 2 (μ.1 1 5).toNatClampNeg) μ
  · refine s_iconst (pc := 126) (v := (-1 : Int32)) dX10_next_126 (by decide) ?_
    refine s_sub (lv' := [(0, .ref 1), (2, .int s0)]) [1, 0] rfl ?_
    exact t_X10_next_B127 N s0 (-1 : Int32) μ
def f_X10_next_B101 (N : Nat)   (μ : z_S) : Option (Unit × z_S) :=
  f_X10_next_B102 N (0 : Int32) μ
theorem t_X10_next_B101 (N : Nat)       (μ : z_S) : z_sim true rV mX10_next 1 (f_X10_next_B101 N    μ) 101 [(0, .ref 1)] [] μ := by
  unfold f_X10_next_B101
  refine s_iconst (pc := 101) (v := (0 : Int32)) dX10_next_101 (by decide) ?_
  exact t_X10_next_B102 N (0 : Int32) μ
def f_X10_next_B82 (N : Nat)  (v1 : Int32) (μ : z_S) : Option (Unit × z_S) :=
  if v1 = 0 then (f_X10_next_B101 N μ) else if (μ.1 1 5) = (μ.1 1 9) then (f_X10_next_B102 N (1 : Int32) μ) else f_X10_next_B101 N μ
theorem t_X10_next_B82 (N : Nat)     (v1 : Int32)  (μ : z_S) : z_sim true rV mX10_next 1 (f_X10_next_B82 N   v1 μ) 82 [(0, .ref 1), (1, .int v1)] [] μ := by
  unfold f_X10_next_B82
  refine s_iload_n (pc := 82) 1 dX10_next_82 rfl rfl ?_
  refine s_if_eq (pc := 83) (tgt := 101) dX10_next_83 (by decide) ?_ ?_
  · refine s_sub (lv' := [(0, .ref 1)]) [0] rfl ?_
    exact t_X10_next_B101 N μ
  · refine s_aload_n (pc := 86) 0 dX10_next_86 rfl rfl ?_
    refine s_getI (pc := 87) (ci := 10) (k := 5) dX10_next_87 fl_10_53 kd_1 rfl ?_
    refine s_aload_n (pc := 90) 0 dX10_next_90 rfl rfl ?_
    refine s_getI (pc := 91) (ci := 10) (k := 9) dX10_next_91 fl_10_47 kd_1 rfl ?_
    refine s_icmp_ne (pc := 94) (tgt := 101) dX10_next_94 (by decide) ?_ ?_
    · refine s_iconst (pc := 97) (v := (1 : Int32)) dX10_next_97 (by decide) ?_
      refine s_goto (pc := 98) (tgt := 102) dX10_next_98 (by decide) ?_
      refine s_sub (lv' := [(0, .ref 1)]) [0] rfl ?_
      exact t_X10_next_B102 N (1 : Int32) μ
    · refine s_sub (lv' := [(0, .ref 1)]) [0] rfl ?_
      exact t_X10_next_B101 N μ
def f_X10_next_B21 (N : Nat)  (s0 : Int32) (μ : z_S) : Option (Unit × z_S) :=
  z_bd (z_setI μ 1 5 (μ.1 1 9)) fun μ_1 => f_X10_next_L30 N s0 (fun μ82 => f_X10_next_B82 N s0 μ82) N μ_1
theorem t_X10_next_B21 (N : Nat)     (s0 : Int32)  (μ : z_S) : z_sim true rV mX10_next 1 (f_X10_next_B21 N   s0 μ) 21 [(0, .ref 1)] [.int s0] μ := by
  unfold f_X10_next_B21
  refine s_istore_n (pc := 21) (lv' := [(1, .int s0), (0, .ref 1)]) dX10_next_21 rfl (by decide) rfl ?_
  refine s_aload_n (pc := 22) 1 dX10_next_22 rfl rfl ?_
  refine s_aload_n (pc := 23) 1 dX10_next_23 rfl rfl ?_
  refine s_getI (pc := 24) (ci := 10) (k := 9) dX10_next_24 fl_10_47 kd_1 rfl ?_
  refine s_putI (pc := 27) (ci := 10) (k := 5) dX10_next_27 fl_10_53 kd_1 rfl rfl (fun μ_1 => ?_)
  refine s_sub (lv' := [(0, .ref 1), (1, .int s0)]) [1, 0] rfl ?_
  refine t_X10_next_L30 N s0 _ ?_ N μ_1
  · intro μ82
    exact t_X10_next_B82 N s0 μ82
def f_X10_next_B16 (N : Nat)   (μ : z_S) : Option (Unit × z_S) :=
  f_X10_next_B21 N (1 : Int32) μ
theorem t_X10_next_B16 (N : Nat)       (μ : z_S) : z_sim true rV mX10_next 1 (f_X10_next_B16 N    μ) 16 [(0, .ref 1)] [] μ := by
  unfold f_X10_next_B16
  refine s_iconst (pc := 16) (v := (1 : Int32)) dX10_next_16 (by decide) ?_
  refine s_goto (pc := 17) (tgt := 21) dX10_next_17 (by decide) ?_
  exact t_X10_next_B21 N (1 : Int32) μ
def f_X10_next (N : Nat) (μ : z_S) : Option (Unit × z_S) :=
  if (μ.1 1 4) = (1 : Int32) then (f_X10_next_B16 N μ) else if (μ.1 1 4) = (2 : Int32) then (f_X10_next_B16 N μ) else f_X10_next_B21 N (0 : Int32) μ
theorem t_X10_next (N : Nat) (μ : z_S) : z_met true rV mX10_next 1 [.ref 1] μ (f_X10_next N μ) := by
  refine z_met.of (by decide +kernel) (by show _ ≤ _; first | decide | exact Nat.le_of_ble_eq_true rfl) (lv := [(0, .ref 1)]) rfl ?_
  unfold f_X10_next
  refine s_aload_n (pc := 0) 0 dX10_next_0 rfl rfl ?_
  refine s_getI (pc := 1) (ci := 10) (k := 4) dX10_next_1 fl_10_44 kd_1 rfl ?_
  refine s_iconst (pc := 4) (v := (1 : Int32)) dX10_next_4 (by decide) ?_
  refine s_icmp_eq (pc := 5) (tgt := 16) dX10_next_5 (by decide) ?_ ?_
  · exact t_X10_next_B16 N μ
  · refine s_aload_n (pc := 8) 0 dX10_next_8 rfl rfl ?_
    refine s_getI (pc := 9) (ci := 10) (k := 4) dX10_next_9 fl_10_44 kd_1 rfl ?_
    refine s_iconst (pc := 12) (v := (2 : Int32)) dX10_next_12 (by decide) ?_
    refine s_icmp_ne (pc := 13) (tgt := 20) dX10_next_13 (by decide) ?_ ?_
    · exact t_X10_next_B16 N μ
    · refine s_iconst (pc := 20) (v := (0 : Int32)) dX10_next_20 (by decide) ?_
      exact t_X10_next_B21 N (0 : Int32) μ
def f_X10_open (N : Nat) (μ : z_S) : Option (Unit × z_S) :=
  z_bd (z_setI μ 1 2 (0 : Int32)) fun μ_1 => z_bd (z_setI μ_1 1 3 (-1 : Int32)) fun μ_2 => z_bd (z_setI μ_2 1 4 (0 : Int32)) fun μ_3 => z_bd (z_setI μ_3 1 9 (0 : Int32)) fun μ_4 => z_bn (f_X10_next N μ_4) fun _ μ_5 => some ((), μ_5)
theorem t_X10_open (N : Nat) (μ : z_S) : z_met true rV mX10_open 2 [.ref 1] μ (f_X10_open N μ) := by
  refine z_met.of (by decide +kernel) (by show _ ≤ _; first | decide | exact Nat.le_of_ble_eq_true rfl) (lv := [(0, .ref 1)]) rfl ?_
  unfold f_X10_open
  refine s_aload_n (pc := 0) 0 dX10_open_0 rfl rfl ?_
  refine s_iconst (pc := 1) (v := (0 : Int32)) dX10_open_1 (by decide) ?_
  refine s_putI (pc := 2) (ci := 10) (k := 2) dX10_open_2 fl_10_41 kd_1 rfl rfl (fun μ_1 => ?_)
  refine s_aload_n (pc := 5) 0 dX10_open_5 rfl rfl ?_
  refine s_iconst (pc := 6) (v := (-1 : Int32)) dX10_open_6 (by decide) ?_
  refine s_putI (pc := 7) (ci := 10) (k := 3) dX10_open_7 fl_10_15 kd_1 rfl rfl (fun μ_2 => ?_)
  refine s_aload_n (pc := 10) 0 dX10_open_10 rfl rfl ?_
  refine s_iconst (pc := 11) (v := (0 : Int32)) dX10_open_11 (by decide) ?_
  refine s_putI (pc := 12) (ci := 10) (k := 4) dX10_open_12 fl_10_44 kd_1 rfl rfl (fun μ_3 => ?_)
  refine s_aload_n (pc := 15) 0 dX10_open_15 rfl rfl ?_
  refine s_iconst (pc := 16) (v := (0 : Int32)) dX10_open_16 (by decide) ?_
  refine s_putI (pc := 17) (ci := 10) (k := 9) dX10_open_17 fl_10_47 kd_1 rfl rfl (fun μ_4 => ?_)
  refine s_aload_n (pc := 20) 0 dX10_open_20 rfl rfl ?_
  refine s_callVV (pc := 21) (as := []) (st := []) dX10_open_21 lk_10_50 kd_1 (t_X10_next N μ_4) (by omega) rfl (by decide) rfl (fun _ μ_5 => ?_)
  exact s_vret (pc := 24) dX10_open_24 rfl
def f_X10_failAt (N : Nat) (a1 : Int32) (a2 : Int32) (μ : z_S) : Option (Int32 × z_S) :=
  if (μ.1 1 2) = 0 then (z_bd (z_setI μ 1 2 a1) fun μ_1 => z_bd (z_setI μ_1 1 3 a2) fun μ_2 => some ((0 : Int32), μ_2)) else some ((0 : Int32), μ)
theorem t_X10_failAt (N : Nat) (a1 : Int32) (a2 : Int32) (μ : z_S) : z_met true rI mX10_failAt 0 [.ref 1, .int a1, .int a2] μ (f_X10_failAt N a1 a2 μ) := by
  refine z_met.of (by decide +kernel) (by show _ ≤ _; first | decide | exact Nat.le_of_ble_eq_true rfl) (lv := [(0, .ref 1), (1, .int a1), (2, .int a2)]) rfl ?_
  unfold f_X10_failAt
  refine s_aload_n (pc := 0) 0 dX10_failAt_0 rfl rfl ?_
  refine s_getI (pc := 1) (ci := 10) (k := 2) dX10_failAt_1 fl_10_41 kd_1 rfl ?_
  refine s_if_ne (pc := 4) (tgt := 17) dX10_failAt_4 (by decide) ?_ ?_
  · refine s_aload_n (pc := 7) 0 dX10_failAt_7 rfl rfl ?_
    refine s_iload_n (pc := 8) 1 dX10_failAt_8 rfl rfl ?_
    refine s_putI (pc := 9) (ci := 10) (k := 2) dX10_failAt_9 fl_10_41 kd_1 rfl rfl (fun μ_1 => ?_)
    refine s_aload_n (pc := 12) 0 dX10_failAt_12 rfl rfl ?_
    refine s_iload_n (pc := 13) 2 dX10_failAt_13 rfl rfl ?_
    refine s_putI (pc := 14) (ci := 10) (k := 3) dX10_failAt_14 fl_10_15 kd_1 rfl rfl (fun μ_2 => ?_)
    refine s_iconst (pc := 17) (v := (0 : Int32)) dX10_failAt_17 (by decide) ?_
    exact s_zret0 (pc := 18) dX10_failAt_18 rfl rfl
  · refine s_iconst (pc := 17) (v := (0 : Int32)) dX10_failAt_17 (by decide) ?_
    exact s_zret0 (pc := 18) dX10_failAt_18 rfl rfl
def f_X10_fail (N : Nat) (a1 : Int32) (μ : z_S) : Option (Int32 × z_S) :=
  z_bn (f_X10_failAt N a1 (μ.1 1 5) μ) fun x1 μ_1 => z_zb x1 (some (x1, μ_1))
theorem t_X10_fail (N : Nat) (a1 : Int32) (μ : z_S) : z_met true rI mX10_fail 1 [.ref 1, .int a1] μ (f_X10_fail N a1 μ) := by
  refine z_met.of (by decide +kernel) (by show _ ≤ _; first | decide | exact Nat.le_of_ble_eq_true rfl) (lv := [(0, .ref 1), (1, .int a1)]) rfl ?_
  unfold f_X10_fail
  refine s_aload_n (pc := 0) 0 dX10_fail_0 rfl rfl ?_
  refine s_iload_n (pc := 1) 1 dX10_fail_1 rfl rfl ?_
  refine s_aload_n (pc := 2) 0 dX10_fail_2 rfl rfl ?_
  refine s_getI (pc := 3) (ci := 10) (k := 5) dX10_fail_3 fl_10_53 kd_1 rfl ?_
  refine s_callVI (pc := 6) (as := [.int a1, .int (μ.1 1 5)]) (st := []) dX10_fail_6 lk_10_71 kd_1 (t_X10_failAt N a1 (μ.1 1 5) μ) (by omega) rfl (by decide) rfl (fun x1 μ_1 => ?_)
  exact s_zret (pc := 9) dX10_fail_9 rfl
def f_X10_takeSign (N : Nat) (a1 : Int32) (μ : z_S) : Option (Int32 × z_S) :=
  if (μ.1 1 6) = a1 then (z_bn (f_X10_next N μ) fun _ μ_1 => some ((1 : Int32), μ_1)) else z_bn (f_X10_fail N (1 : Int32) μ) fun x1 μ_2 => z_zb x1 (some (x1, μ_2))
theorem t_X10_takeSign (N : Nat) (a1 : Int32) (μ : z_S) : z_met true rI mX10_takeSign 2 [.ref 1, .int a1] μ (f_X10_takeSign N a1 μ) := by
  refine z_met.of (by decide +kernel) (by show _ ≤ _; first | decide | exact Nat.le_of_ble_eq_true rfl) (lv := [(0, .ref 1), (1, .int a1)]) rfl ?_
  unfold f_X10_takeSign
  refine s_aload_n (pc := 0) 0 dX10_takeSign_0 rfl rfl ?_
  refine s_getI (pc := 1) (ci := 10) (k := 6) dX10_takeSign_1 fl_10_56 kd_1 rfl ?_
  refine s_iload_n (pc := 4) 1 dX10_takeSign_4 rfl rfl ?_
  refine s_icmp_eq (pc := 5) (tgt := 14) dX10_takeSign_5 (by decide) ?_ ?_
  · refine s_aload_n (pc := 14) 0 dX10_takeSign_14 rfl rfl ?_
    refine s_callVV (pc := 15) (as := []) (st := []) dX10_takeSign_15 lk_10_50 kd_1 (t_X10_next N μ) (by omega) rfl (by decide) rfl (fun _ μ_1 => ?_)
    refine s_iconst (pc := 18) (v := (1 : Int32)) dX10_takeSign_18 (by decide) ?_
    exact s_zret0 (pc := 19) dX10_takeSign_19 rfl rfl
  · refine s_aload_n (pc := 8) 0 dX10_takeSign_8 rfl rfl ?_
    refine s_iconst (pc := 9) (v := (1 : Int32)) dX10_takeSign_9 (by decide) ?_
    refine s_callVI (pc := 10) (as := [.int (1 : Int32)]) (st := []) dX10_takeSign_10 lk_10_75 kd_1 (t_X10_fail N (1 : Int32) μ) (by omega) rfl (by decide) rfl (fun x1 μ_2 => ?_)
    exact s_zret (pc := 13) dX10_takeSign_13 rfl
def f_X10_nameHere_B35 (N : Nat)   (μ : z_S) : Option (Int32 × z_S) :=
  z_bn (f_X10_failAt N (1 : Int32) (μ.1 1 5) μ) fun x2 μ_2 => some ((-1 : Int32), μ_2)
theorem t_X10_nameHere_B35 (N : Nat)       (μ : z_S) : z_sim true rI mX10_nameHere 1 (f_X10_nameHere_B35 N    μ) 35 [(0, .ref 1)] [] μ := by
  unfold f_X10_nameHere_B35
  refine s_aload_n (pc := 35) 0 dX10_nameHere_35 rfl rfl ?_
  refine s_iconst (pc := 36) (v := (1 : Int32)) dX10_nameHere_36 (by decide) ?_
  refine s_aload_n (pc := 37) 0 dX10_nameHere_37 rfl rfl ?_
  refine s_getI (pc := 38) (ci := 10) (k := 5) dX10_nameHere_38 fl_10_53 kd_1 rfl ?_
  refine s_callVI (pc := 41) (as := [.int (1 : Int32), .int (μ.1 1 5)]) (st := []) dX10_nameHere_41 lk_10_71 kd_1 (t_X10_failAt N (1 : Int32) (μ.1 1 5) μ) (by omega) rfl (by decide) rfl (fun x2 μ_2 => ?_)
  refine s_pop (pc := 44) dX10_nameHere_44 rfl ?_
  refine s_iconst (pc := 45) (v := (-1 : Int32)) dX10_nameHere_45 (by decide) ?_
  exact s_iret (pc := 46) rfl dX10_nameHere_46 rfl
def f_X10_nameHere_B22 (N : Nat)  (s0 : Int32) (μ : z_S) : Option (Int32 × z_S) :=
  if (μ.1 1 4) = (1 : Int32) then (if s0 = 0 then (if ((μ.1 1 5) + (6 : Int32)) < (μ.1 1 9) then (z_bn (f_X10_failAt N (1 : Int32) ((μ.1 1 5) + (6 : Int32)) μ) fun x1 μ_1 => some ((-1 : Int32), μ_1)) else some ((μ.1 1 8), μ)) else f_X10_nameHere_B35 N μ) else f_X10_nameHere_B35 N μ
theorem t_X10_nameHere_B22 (N : Nat)     (s0 : Int32)  (μ : z_S) : z_sim true rI mX10_nameHere 1 (f_X10_nameHere_B22 N   s0 μ) 22 [(0, .ref 1)] [.int s0] μ := by
  unfold f_X10_nameHere_B22
  refine s_istore_n (pc := 22) (lv' := [(1, .int s0), (0, .ref 1)]) dX10_nameHere_22 rfl (by decide) rfl ?_
  refine s_aload_n (pc := 23) 1 dX10_nameHere_23 rfl rfl ?_
  refine s_getI (pc := 24) (ci := 10) (k := 4) dX10_nameHere_24 fl_10_44 kd_1 rfl ?_
  refine s_iconst (pc := 27) (v := (1 : Int32)) dX10_nameHere_27 (by decide) ?_
  refine s_icmp_ne (pc := 28) (tgt := 35) dX10_nameHere_28 (by decide) ?_ ?_
  · refine s_iload_n (pc := 31) 0 dX10_nameHere_31 rfl rfl ?_
    refine s_if_eq (pc := 32) (tgt := 47) dX10_nameHere_32 (by decide) ?_ ?_
    · refine s_aload_n (pc := 47) 1 dX10_nameHere_47 rfl rfl ?_
      refine s_getI (pc := 48) (ci := 10) (k := 9) dX10_nameHere_48 fl_10_47 kd_1 rfl ?_
      refine s_aload_n (pc := 51) 1 dX10_nameHere_51 rfl rfl ?_
      refine s_getI (pc := 52) (ci := 10) (k := 5) dX10_nameHere_52 fl_10_53 kd_1 rfl ?_
      refine s_bipush (pc := 55) (v := (6 : Int32)) dX10_nameHere_55 (by decide) ?_
      refine s_iadd (pc := 57) dX10_nameHere_57 ?_
      refine s_icmp_le (pc := 58) (tgt := 76) dX10_nameHere_58 (by decide) ?_ ?_
      · refine s_aload_n (pc := 61) 1 dX10_nameHere_61 rfl rfl ?_
        refine s_iconst (pc := 62) (v := (1 : Int32)) dX10_nameHere_62 (by decide) ?_
        refine s_aload_n (pc := 63) 1 dX10_nameHere_63 rfl rfl ?_
        refine s_getI (pc := 64) (ci := 10) (k := 5) dX10_nameHere_64 fl_10_53 kd_1 rfl ?_
        refine s_bipush (pc := 67) (v := (6 : Int32)) dX10_nameHere_67 (by decide) ?_
        refine s_iadd (pc := 69) dX10_nameHere_69 ?_
        refine s_callVI (pc := 70) (as := [.int (1 : Int32), .int ((μ.1 1 5) + (6 : Int32))]) (st := []) dX10_nameHere_70 lk_10_71 kd_1 (t_X10_failAt N (1 : Int32) ((μ.1 1 5) + (6 : Int32)) μ) (by omega) rfl (by decide) rfl (fun x1 μ_1 => ?_)
        refine s_pop (pc := 73) dX10_nameHere_73 rfl ?_
        refine s_iconst (pc := 74) (v := (-1 : Int32)) dX10_nameHere_74 (by decide) ?_
        exact s_iret (pc := 75) rfl dX10_nameHere_75 rfl
      · refine s_aload_n (pc := 76) 1 dX10_nameHere_76 rfl rfl ?_
        refine s_getI (pc := 77) (ci := 10) (k := 8) dX10_nameHere_77 fl_10_68 kd_1 rfl ?_
        exact s_iret (pc := 80) rfl dX10_nameHere_80 rfl
    · refine s_sub (lv' := [(0, .ref 1)]) [1] rfl ?_
      exact t_X10_nameHere_B35 N μ
  · refine s_sub (lv' := [(0, .ref 1)]) [1] rfl ?_
    exact t_X10_nameHere_B35 N μ
def f_X10_nameHere_B21 (N : Nat)   (μ : z_S) : Option (Int32 × z_S) :=
  f_X10_nameHere_B22 N (0 : Int32) μ
theorem t_X10_nameHere_B21 (N : Nat)       (μ : z_S) : z_sim true rI mX10_nameHere 1 (f_X10_nameHere_B21 N    μ) 21 [(0, .ref 1)] [] μ := by
  unfold f_X10_nameHere_B21
  refine s_iconst (pc := 21) (v := (0 : Int32)) dX10_nameHere_21 (by decide) ?_
  exact t_X10_nameHere_B22 N (0 : Int32) μ
def f_X10_nameHere (N : Nat) (μ : z_S) : Option (Int32 × z_S) :=
  if (μ.1 1 7) = (-1 : Int32) then (f_X10_nameHere_B21 N μ) else if (μ.1 1 7) < (28 : Int32) then (f_X10_nameHere_B22 N (1 : Int32) μ) else f_X10_nameHere_B21 N μ
theorem t_X10_nameHere (N : Nat) (μ : z_S) : z_met true rI mX10_nameHere 1 [.ref 1] μ (f_X10_nameHere N μ) := by
  refine z_met.of (by decide +kernel) (by show _ ≤ _; first | decide | exact Nat.le_of_ble_eq_true rfl) (lv := [(0, .ref 1)]) rfl ?_
  unfold f_X10_nameHere
  refine s_aload_n (pc := 0) 0 dX10_nameHere_0 rfl rfl ?_
  refine s_getI (pc := 1) (ci := 10) (k := 7) dX10_nameHere_1 fl_10_59 kd_1 rfl ?_
  refine s_iconst (pc := 4) (v := (-1 : Int32)) dX10_nameHere_4 (by decide) ?_
  refine s_icmp_eq (pc := 5) (tgt := 21) dX10_nameHere_5 (by decide) ?_ ?_
  · exact t_X10_nameHere_B21 N μ
  · refine s_aload_n (pc := 8) 0 dX10_nameHere_8 rfl rfl ?_
    refine s_getI (pc := 9) (ci := 10) (k := 7) dX10_nameHere_9 fl_10_59 kd_1 rfl ?_
    refine s_bipush (pc := 12) (v := (28 : Int32)) dX10_nameHere_12 (by decide) ?_
    refine s_icmp_ge (pc := 14) (tgt := 21) dX10_nameHere_14 (by decide) ?_ ?_
    · refine s_iconst (pc := 17) (v := (1 : Int32)) dX10_nameHere_17 (by decide) ?_
      refine s_goto (pc := 18) (tgt := 22) dX10_nameHere_18 (by decide) ?_
      exact t_X10_nameHere_B22 N (1 : Int32) μ
    · exact t_X10_nameHere_B21 N μ
def f_X10_takeNumber_B58 (N : Nat)   (μ : z_S) : Option (Int32 × z_S) :=
  z_bn (f_X10_fail N (2 : Int32) μ) fun x3 μ_2 => some ((-1 : Int32), μ_2)
theorem t_X10_takeNumber_B58 (N : Nat)       (μ : z_S) : z_sim true rI mX10_takeNumber 2 (f_X10_takeNumber_B58 N    μ) 58 [(0, .ref 1)] [] μ := by
  unfold f_X10_takeNumber_B58
  refine s_aload_n (pc := 58) 0 dX10_takeNumber_58 rfl rfl ?_
  refine s_iconst (pc := 59) (v := (2 : Int32)) dX10_takeNumber_59 (by decide) ?_
  refine s_callVI (pc := 60) (as := [.int (2 : Int32)]) (st := []) dX10_takeNumber_60 lk_10_75 kd_1 (t_X10_fail N (2 : Int32) μ) (by omega) rfl (by decide) rfl (fun x3 μ_2 => ?_)
  refine s_pop (pc := 63) dX10_takeNumber_63 rfl ?_
  refine s_iconst (pc := 64) (v := (-1 : Int32)) dX10_takeNumber_64 (by decide) ?_
  exact s_iret (pc := 65) rfl dX10_takeNumber_65 rfl
def f_X10_takeNumber (N : Nat) (a1 : Int32) (a2 : Int32) (μ : z_S) : Option (Int32 × z_S) :=
  if (μ.1 1 4) = (2 : Int32) then (if ((μ.1 1 5) + (4 : Int32)) < (μ.1 1 9) then (z_bn (f_X10_failAt N (1 : Int32) ((μ.1 1 5) + (4 : Int32)) μ) fun x1 μ_1 => some ((-1 : Int32), μ_1)) else z_bd (μ.1 1 8) fun x2 => if x2 < a1 then (f_X10_takeNumber_B58 N μ) else if a2 < x2 then (f_X10_takeNumber_B58 N μ) else z_bn (f_X10_next N μ) fun _ μ_3 => some (x2, μ_3)) else z_bn (f_X10_fail N (1 : Int32) μ) fun x4 μ_4 => some ((-1 : Int32), μ_4)
theorem t_X10_takeNumber (N : Nat) (a1 : Int32) (a2 : Int32) (μ : z_S) : z_met true rI mX10_takeNumber 2 [.ref 1, .int a1, .int a2] μ (f_X10_takeNumber N a1 a2 μ) := by
  refine z_met.of (by decide +kernel) (by show _ ≤ _; first | decide | exact Nat.le_of_ble_eq_true rfl) (lv := [(0, .ref 1), (1, .int a1), (2, .int a2)]) rfl ?_
  unfold f_X10_takeNumber
  refine s_aload_n (pc := 0) 0 dX10_takeNumber_0 rfl rfl ?_
  refine s_getI (pc := 1) (ci := 10) (k := 4) dX10_takeNumber_1 fl_10_44 kd_1 rfl ?_
  refine s_iconst (pc := 4) (v := (2 : Int32)) dX10_takeNumber_4 (by decide) ?_
  refine s_icmp_eq (pc := 5) (tgt := 16) dX10_takeNumber_5 (by decide) ?_ ?_
  · refine s_aload_n (pc := 16) 0 dX10_takeNumber_16 rfl rfl ?_
    refine s_getI (pc := 17) (ci := 10) (k := 9) dX10_takeNumber_17 fl_10_47 kd_1 rfl ?_
    refine s_aload_n (pc := 20) 0 dX10_takeNumber_20 rfl rfl ?_
    refine s_getI (pc := 21) (ci := 10) (k := 5) dX10_takeNumber_21 fl_10_53 kd_1 rfl ?_
    refine s_iconst (pc := 24) (v := (4 : Int32)) dX10_takeNumber_24 (by decide) ?_
    refine s_iadd (pc := 25) dX10_takeNumber_25 ?_
    refine s_icmp_le (pc := 26) (tgt := 43) dX10_takeNumber_26 (by decide) ?_ ?_
    · refine s_aload_n (pc := 29) 0 dX10_takeNumber_29 rfl rfl ?_
      refine s_iconst (pc := 30) (v := (1 : Int32)) dX10_takeNumber_30 (by decide) ?_
      refine s_aload_n (pc := 31) 0 dX10_takeNumber_31 rfl rfl ?_
      refine s_getI (pc := 32) (ci := 10) (k := 5) dX10_takeNumber_32 fl_10_53 kd_1 rfl ?_
      refine s_iconst (pc := 35) (v := (4 : Int32)) dX10_takeNumber_35 (by decide) ?_
      refine s_iadd (pc := 36) dX10_takeNumber_36 ?_
      refine s_callVI (pc := 37) (as := [.int (1 : Int32), .int ((μ.1 1 5) + (4 : Int32))]) (st := []) dX10_takeNumber_37 lk_10_71 kd_1 (t_X10_failAt N (1 : Int32) ((μ.1 1 5) + (4 : Int32)) μ) (by omega) rfl (by decide) rfl (fun x1 μ_1 => ?_)
      refine s_pop (pc := 40) dX10_takeNumber_40 rfl ?_
      refine s_iconst (pc := 41) (v := (-1 : Int32)) dX10_takeNumber_41 (by decide) ?_
      exact s_iret (pc := 42) rfl dX10_takeNumber_42 rfl
    · refine s_aload_n (pc := 43) 0 dX10_takeNumber_43 rfl rfl ?_
      refine s_getI (pc := 44) (ci := 10) (k := 8) dX10_takeNumber_44 fl_10_68 kd_1 rfl ?_
      refine s_letI (fun x2 => ?_)
      refine s_istore_n (pc := 47) (lv' := [(3, .int x2), (0, .ref 1), (1, .int a1), (2, .int a2)]) dX10_takeNumber_47 rfl (by decide) rfl ?_
      refine s_iload_n (pc := 48) 0 dX10_takeNumber_48 rfl rfl ?_
      refine s_iload_n (pc := 49) 2 dX10_takeNumber_49 rfl rfl ?_
      refine s_icmp_lt (pc := 50) (tgt := 58) dX10_takeNumber_50 (by decide) ?_ ?_
      · refine s_sub (lv' := [(0, .ref 1)]) [1] rfl ?_
        exact t_X10_takeNumber_B58 N μ
      · refine s_iload_n (pc := 53) 0 dX10_takeNumber_53 rfl rfl ?_
        refine s_iload_n (pc := 54) 3 dX10_takeNumber_54 rfl rfl ?_
        refine s_icmp_le (pc := 55) (tgt := 66) dX10_takeNumber_55 (by decide) ?_ ?_
        · refine s_sub (lv' := [(0, .ref 1)]) [1] rfl ?_
          exact t_X10_takeNumber_B58 N μ
        · refine s_aload_n (pc := 66) 1 dX10_takeNumber_66 rfl rfl ?_
          refine s_callVV (pc := 67) (as := []) (st := []) dX10_takeNumber_67 lk_10_50 kd_1 (t_X10_next N μ) (by omega) rfl (by decide) rfl (fun _ μ_3 => ?_)
          refine s_iload_n (pc := 70) 0 dX10_takeNumber_70 rfl rfl ?_
          exact s_iret (pc := 71) rfl dX10_takeNumber_71 rfl
  · refine s_aload_n (pc := 8) 0 dX10_takeNumber_8 rfl rfl ?_
    refine s_iconst (pc := 9) (v := (1 : Int32)) dX10_takeNumber_9 (by decide) ?_
    refine s_callVI (pc := 10) (as := [.int (1 : Int32)]) (st := []) dX10_takeNumber_10 lk_10_75 kd_1 (t_X10_fail N (1 : Int32) μ) (by omega) rfl (by decide) rfl (fun x4 μ_4 => ?_)
    refine s_pop (pc := 13) dX10_takeNumber_13 rfl ?_
    refine s_iconst (pc := 14) (v := (-1 : Int32)) dX10_takeNumber_14 (by decide) ?_
    exact s_iret (pc := 15) rfl dX10_takeNumber_15 rfl
