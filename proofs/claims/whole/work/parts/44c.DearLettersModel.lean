def b_X12_laysWarmest_L136 (N : Nat) (c1 : Int32) (kb : Int32 → z_S → Option (Int32 × z_S)) (e163 : z_S → Option (Int32 × z_S)) (v5 : Int32) (μ : z_S) : Option (Int32 × z_S) :=
  if v5 < (8 : Int32) then (z_in v5 8 <| z_in v5 8 <| z_bd (z_setI μ 300 v5.toNatClampNeg (μ.1 298 v5.toNatClampNeg)) fun μ_14 => z_bd (v5 + 1) fun x10 => kb x10 μ_14) else e163 μ
theorem tb_X12_laysWarmest_L136 (N : Nat) (c1 : Int32) (kb : Int32 → z_S → Option (Int32 × z_S)) (e163 : z_S → Option (Int32 × z_S)) (hkb : ∀ (a5 : Int32) (μ : z_S), z_sim false rI mX12_laysWarmest 6 (kb a5 μ) 136 [(0, .ref 253), (1, .int c1), (5, .int a5)] [] μ) (he163 : ∀ (μ : z_S), z_sim false rI mX12_laysWarmest 6 (e163 μ) 163 [(0, .ref 253), (1, .int c1)] [] μ) (v5 : Int32) (μ : z_S) : z_sim false rI mX12_laysWarmest 6 (b_X12_laysWarmest_L136 N c1 kb e163 v5 μ) 136 [(0, .ref 253), (1, .int c1), (5, .int v5)] [] μ := by
  unfold b_X12_laysWarmest_L136
  refine s_iload (pc := 136) 2 dX12_laysWarmest_136 rfl ?_
  refine s_bipush (pc := 138) (v := (8 : Int32)) dX12_laysWarmest_138 (by decide) ?_
  refine s_icmp_ge (pc := 140) (tgt := 163) dX12_laysWarmest_140 (by decide) ?_ ?_
  · refine s_aload_n (pc := 143) 0 dX12_laysWarmest_143 rfl rfl ?_
    refine s_getR (pc := 144) (ci := 12) (k := 59) (r := 300) dX12_laysWarmest_144 fl_12_154 kd_253 rfl rs_253_59 ?_
    refine s_iload (pc := 147) 2 dX12_laysWarmest_147 rfl ?_
    refine s_aload_n (pc := 149) 0 dX12_laysWarmest_149 rfl rfl ?_
    refine s_getR (pc := 150) (ci := 12) (k := 57) (r := 298) dX12_laysWarmest_150 fl_12_148 kd_253 rfl rs_253_57 ?_
    refine s_iload (pc := 153) 2 dX12_laysWarmest_153 rfl ?_
    refine s_iald (pc := 155) dX12_laysWarmest_155 kd_298 ?_
    refine s_iast (pc := 156) dX12_laysWarmest_156 kd_300 (fun μ_14 => ?_)
    refine s_iincB (pc := 157) (lv' := fun x10 => [(5, .int x10), (0, .ref 253), (1, .int c1)]) (c := 1) 2 dX12_laysWarmest_157 rfl (by decide) (by decide) (fun _ => rfl) (fun x10 => ?_)
    refine s_goto (pc := 160) (tgt := 136) dX12_laysWarmest_160 (by decide) ?_
    refine s_sub (lv' := [(0, .ref 253), (1, .int c1), (5, .int x10)]) [1, 2, 0] rfl ?_
    exact hkb x10 μ_14
  · refine s_sub (lv' := [(0, .ref 253), (1, .int c1)]) [0, 1] rfl ?_
    exact he163 μ
def f_X12_laysWarmest_L136 (N : Nat) (c1 : Int32) (e163 : z_S → Option (Int32 × z_S)) : Nat → Int32 → z_S → Option (Int32 × z_S)
  | 0, _, _ => none
  | n + 1, v5, μ => b_X12_laysWarmest_L136 N c1 (f_X12_laysWarmest_L136 N c1 e163 n) e163 v5 μ
theorem t_X12_laysWarmest_L136 (N : Nat) (c1 : Int32) (e163 : z_S → Option (Int32 × z_S)) (he163 : ∀ (μ : z_S), z_sim false rI mX12_laysWarmest 6 (e163 μ) 163 [(0, .ref 253), (1, .int c1)] [] μ) : ∀ (n : Nat) (v5 : Int32) (μ : z_S), z_sim false rI mX12_laysWarmest 6 (f_X12_laysWarmest_L136 N c1 e163 n v5 μ) 136 [(0, .ref 253), (1, .int c1), (5, .int v5)] [] μ
  | 0, _, _ => s_none
  | n + 1, v5, μ => tb_X12_laysWarmest_L136 N c1 (f_X12_laysWarmest_L136 N c1 e163 n) e163 (t_X12_laysWarmest_L136 N c1 e163 he163 n) he163 v5 μ
def f_X12_laysWarmest_B126 (N : Nat) (kb : Int32 → z_S → Option (Int32 × z_S)) (v2 : Int32) (v3 : Int64) (μ : z_S) : Option (Int32 × z_S) :=
  z_bd (z_setJ μ 253 63 v3) fun μ_13 => f_X12_laysWarmest_L136 N v2 (fun μ163 => kb v2 μ163) N (0 : Int32) μ_13
theorem t_X12_laysWarmest_B126 (N : Nat)   (kb : Int32 → z_S → Option (Int32 × z_S)) (hkb : ∀ (a1 : Int32) (μ : z_S), z_sim false rI mX12_laysWarmest 6 (kb a1 μ) 77 [(0, .ref 253), (1, .int a1)] [] μ) (v2 : Int32) (v3 : Int64)  (μ : z_S) : z_sim false rI mX12_laysWarmest 6 (f_X12_laysWarmest_B126 N  kb v2 v3 μ) 126 [(0, .ref 253), (2, .int v2), (3, .long v3)] [] μ := by
  unfold f_X12_laysWarmest_B126
  refine s_iload_n (pc := 126) 1 dX12_laysWarmest_126 rfl rfl ?_
  refine s_istore_n (pc := 127) (lv' := [(1, .int v2), (0, .ref 253), (2, .int v2), (3, .long v3)]) dX12_laysWarmest_127 rfl (by decide) rfl ?_
  refine s_aload_n (pc := 128) 1 dX12_laysWarmest_128 rfl rfl ?_
  refine s_lload_n (pc := 129) 3 dX12_laysWarmest_129 rfl rfl ?_
  refine s_putJ (pc := 130) (ci := 12) (k := 63) dX12_laysWarmest_130 fl_12_470 kd_253 rfl rfl (fun μ_13 => ?_)
  refine s_iconst (pc := 133) (v := (0 : Int32)) dX12_laysWarmest_133 (by decide) ?_
  refine s_istore (pc := 134) (lv' := [(5, .int (0 : Int32)), (1, .int v2), (0, .ref 253), (2, .int v2), (3, .long v3)]) dX12_laysWarmest_134 (by decide) rfl ?_
  refine s_sub (lv' := [(0, .ref 253), (1, .int v2), (5, .int (0 : Int32))]) [2, 1, 0] rfl ?_
  refine t_X12_laysWarmest_L136 N v2 _ ?_ N (0 : Int32) μ_13
  · intro μ163
    refine s_goto (pc := 163) (tgt := 77) dX12_laysWarmest_163 (by decide) ?_
    exact hkb v2 μ163
def b_X12_laysWarmest_L77 (N : Nat) (kb : Int32 → z_S → Option (Int32 × z_S)) (v1 : Int32) (μ : z_S) : Option (Int32 × z_S) :=
  z_bn (f_X12_isNextRow N μ) fun x6 μ_9 => if x6 = 0 then (some (v1, μ_9)) else z_bn (f_X12_answeredIn N μ_9) fun x7 μ_10 => if x7 < v1 then (kb v1 μ_10) else z_bn (f_X12_canRow N μ_10) fun x8 μ_11 => if x8 = 0 then (kb v1 μ_11) else z_bn (f_X12_warmIn N μ_11) fun x9 μ_12 => if x7 = v1 then (if (μ_12.2.1 253 63) < x9 then (f_X12_laysWarmest_B126 N kb x7 x9 μ_12) else kb v1 μ_12) else f_X12_laysWarmest_B126 N kb x7 x9 μ_12
theorem tb_X12_laysWarmest_L77 (N : Nat) (kb : Int32 → z_S → Option (Int32 × z_S)) (hkb : ∀ (a1 : Int32) (μ : z_S), z_sim false rI mX12_laysWarmest 6 (kb a1 μ) 77 [(0, .ref 253), (1, .int a1)] [] μ) (v1 : Int32) (μ : z_S) : z_sim false rI mX12_laysWarmest 6 (b_X12_laysWarmest_L77 N kb v1 μ) 77 [(0, .ref 253), (1, .int v1)] [] μ := by
  unfold b_X12_laysWarmest_L77
  refine s_aload_n (pc := 77) 0 dX12_laysWarmest_77 rfl rfl ?_
  refine s_callVI (pc := 78) (as := []) (st := []) dX12_laysWarmest_78 lk_12_473 kd_253 (t_X12_isNextRow N μ) (by omega) rfl (by decide) rfl (fun x6 μ_9 => ?_)
  refine s_if_eq (pc := 81) (tgt := 166) dX12_laysWarmest_81 (by decide) ?_ ?_
  · refine s_iload_n (pc := 166) 1 dX12_laysWarmest_166 rfl rfl ?_
    exact s_iret (pc := 167) rfl dX12_laysWarmest_167 rfl
  · refine s_aload_n (pc := 84) 0 dX12_laysWarmest_84 rfl rfl ?_
    refine s_callVI (pc := 85) (as := []) (st := []) dX12_laysWarmest_85 lk_12_476 kd_253 (t_X12_answeredIn N μ_9) (by omega) rfl (by decide) rfl (fun x7 μ_10 => ?_)
    refine s_istore_n (pc := 88) (lv' := [(2, .int x7), (0, .ref 253), (1, .int v1)]) dX12_laysWarmest_88 rfl (by decide) rfl ?_
    refine s_iload_n (pc := 89) 0 dX12_laysWarmest_89 rfl rfl ?_
    refine s_iload_n (pc := 90) 2 dX12_laysWarmest_90 rfl rfl ?_
    refine s_icmp_lt (pc := 91) (tgt := 77) dX12_laysWarmest_91 (by decide) ?_ ?_
    · refine s_sub (lv' := [(0, .ref 253), (1, .int v1)]) [1, 2] rfl ?_
      exact hkb v1 μ_10
    · refine s_aload_n (pc := 94) 1 dX12_laysWarmest_94 rfl rfl ?_
      refine s_callVI (pc := 95) (as := []) (st := []) dX12_laysWarmest_95 lk_12_479 kd_253 (t_X12_canRow N μ_10) (by omega) rfl (by decide) rfl (fun x8 μ_11 => ?_)
      refine s_if_ne (pc := 98) (tgt := 104) dX12_laysWarmest_98 (by decide) ?_ ?_
      · refine s_goto (pc := 101) (tgt := 77) dX12_laysWarmest_101 (by decide) ?_
        refine s_sub (lv' := [(0, .ref 253), (1, .int v1)]) [1, 2] rfl ?_
        exact hkb v1 μ_11
      · refine s_aload_n (pc := 104) 1 dX12_laysWarmest_104 rfl rfl ?_
        refine s_callVJ (pc := 105) (as := []) (st := []) dX12_laysWarmest_105 lk_12_482 kd_253 (t_X12_warmIn N μ_11) (by omega) rfl (by decide) rfl (fun x9 μ_12 => ?_)
        refine s_lstore_n (pc := 108) (lv' := [(3, .long x9), (2, .int x7), (0, .ref 253), (1, .int v1)]) dX12_laysWarmest_108 rfl (by decide) rfl ?_
        refine s_iload_n (pc := 109) 1 dX12_laysWarmest_109 rfl rfl ?_
        refine s_iload_n (pc := 110) 3 dX12_laysWarmest_110 rfl rfl ?_
        refine s_icmp_ne (pc := 111) (tgt := 126) dX12_laysWarmest_111 (by decide) ?_ ?_
        · refine s_lload_n (pc := 114) 0 dX12_laysWarmest_114 rfl rfl ?_
          refine s_aload_n (pc := 115) 2 dX12_laysWarmest_115 rfl rfl ?_
          refine s_getJ (pc := 116) (ci := 12) (k := 63) dX12_laysWarmest_116 fl_12_470 kd_253 rfl ?_
          refine s_lcmp_gt (pc := 119) (tgt := 126) dX12_laysWarmest_119 dX12_laysWarmest_120 (by decide) ?_ ?_
          · refine s_sub (lv' := [(0, .ref 253), (2, .int x7), (3, .long x9)]) [2, 1, 0] rfl ?_
            exact t_X12_laysWarmest_B126 N kb hkb x7 x9 μ_12
          · refine s_goto (pc := 123) (tgt := 77) dX12_laysWarmest_123 (by decide) ?_
            refine s_sub (lv' := [(0, .ref 253), (1, .int v1)]) [2, 3] rfl ?_
            exact hkb v1 μ_12
        · refine s_sub (lv' := [(0, .ref 253), (2, .int x7), (3, .long x9)]) [2, 1, 0] rfl ?_
          exact t_X12_laysWarmest_B126 N kb hkb x7 x9 μ_12
def f_X12_laysWarmest_L77 (N : Nat) : Nat → Int32 → z_S → Option (Int32 × z_S)
  | 0, _, _ => none
  | n + 1, v1, μ => b_X12_laysWarmest_L77 N (f_X12_laysWarmest_L77 N n) v1 μ
theorem t_X12_laysWarmest_L77 (N : Nat) : ∀ (n : Nat) (v1 : Int32) (μ : z_S), z_sim false rI mX12_laysWarmest 6 (f_X12_laysWarmest_L77 N n v1 μ) 77 [(0, .ref 253), (1, .int v1)] [] μ
  | 0, _, _ => s_none
  | n + 1, v1, μ => tb_X12_laysWarmest_L77 N (f_X12_laysWarmest_L77 N n) (t_X12_laysWarmest_L77 N n) v1 μ
def f_X12_laysWarmest (N : Nat) (μ : z_S) : Option (Int32 × z_S) :=
  z_bn (f_X12_laysTimes N μ) fun _ μ_1 => f_X12_laysWarmest_L6 N (fun μ32 => f_X12_laysWarmest_L34 N (fun μ70 => z_bd (z_setJ μ70 253 63 (0 : Int64)) fun μ_8 => f_X12_laysWarmest_L77 N N (0 : Int32) μ_8) N (0 : Int32) μ32) N (0 : Int32) μ_1
theorem t_X12_laysWarmest (N : Nat) (μ : z_S) : z_met false rI mX12_laysWarmest 6 [.ref 253] μ (f_X12_laysWarmest N μ) := by
  refine z_met.of (by decide +kernel) (by show _ ≤ _; first | decide | exact Nat.le_of_ble_eq_true rfl) (lv := [(0, .ref 253)]) rfl ?_
  unfold f_X12_laysWarmest
  refine s_aload_n (pc := 0) 0 dX12_laysWarmest_0 rfl rfl ?_
  refine s_callVV (pc := 1) (as := []) (st := []) dX12_laysWarmest_1 lk_12_467 kd_253 (t_X12_laysTimes N μ) (by omega) rfl (by decide) rfl (fun _ μ_1 => ?_)
  refine s_iconst (pc := 4) (v := (0 : Int32)) dX12_laysWarmest_4 (by decide) ?_
  refine s_istore_n (pc := 5) (lv' := [(1, .int (0 : Int32)), (0, .ref 253)]) dX12_laysWarmest_5 rfl (by decide) rfl ?_
  refine s_sub (lv' := [(0, .ref 253), (1, .int (0 : Int32))]) [1, 0] rfl ?_
  refine t_X12_laysWarmest_L6 N _ ?_ N (0 : Int32) μ_1
  · intro μ32
    refine s_iconst (pc := 32) (v := (0 : Int32)) dX12_laysWarmest_32 (by decide) ?_
    refine s_istore_n (pc := 33) (lv' := [(1, .int (0 : Int32)), (0, .ref 253)]) dX12_laysWarmest_33 rfl (by decide) rfl ?_
    refine s_sub (lv' := [(0, .ref 253), (1, .int (0 : Int32))]) [1, 0] rfl ?_
    refine t_X12_laysWarmest_L34 N _ ?_ N (0 : Int32) μ32
    · intro μ70
      refine s_iconst (pc := 70) (v := (0 : Int32)) dX12_laysWarmest_70 (by decide) ?_
      refine s_istore_n (pc := 71) (lv' := [(1, .int (0 : Int32)), (0, .ref 253)]) dX12_laysWarmest_71 rfl (by decide) rfl ?_
      refine s_aload_n (pc := 72) 1 dX12_laysWarmest_72 rfl rfl ?_
      refine s_lconst (pc := 73) (v := (0 : Int64)) dX12_laysWarmest_73 (by decide) ?_
      refine s_putJ (pc := 74) (ci := 12) (k := 63) dX12_laysWarmest_74 fl_12_470 kd_253 rfl rfl (fun μ_8 => ?_)
      refine s_sub (lv' := [(0, .ref 253), (1, .int (0 : Int32))]) [1, 0] rfl ?_
      refine t_X12_laysWarmest_L77 N N (0 : Int32) μ_8
def f_X12_eveningGoes_B37 (N : Nat) (c1 : Int32) (kb : Int32 → z_S → Option (Int32 × z_S)) (e43 : z_S → Option (Int32 × z_S)) (v2 : Int32) (μ : z_S) : Option (Int32 × z_S) :=
  z_bd (v2 + 1) fun x3 => kb x3 μ
theorem t_X12_eveningGoes_B37 (N : Nat) (c1 : Int32)  (kb : Int32 → z_S → Option (Int32 × z_S)) (e43 : z_S → Option (Int32 × z_S)) (hkb : ∀ (a2 : Int32) (μ : z_S), z_sim false rI mX12_eveningGoes 7 (kb a2 μ) 7 [(0, .ref 253), (1, .int c1), (2, .int a2)] [] μ) (he43 : ∀  (μ : z_S), z_sim false rI mX12_eveningGoes 7 (e43 μ) 43 [(0, .ref 253), (1, .int c1)] [] μ) (v2 : Int32)  (μ : z_S) : z_sim false rI mX12_eveningGoes 7 (f_X12_eveningGoes_B37 N c1 kb e43 v2 μ) 37 [(0, .ref 253), (1, .int c1), (2, .int v2)] [] μ := by
  unfold f_X12_eveningGoes_B37
  refine s_iincB (pc := 37) (lv' := fun x3 => [(2, .int x3), (0, .ref 253), (1, .int c1)]) (c := 1) 2 dX12_eveningGoes_37 rfl (by decide) (by decide) (fun _ => rfl) (fun x3 => ?_)
  refine s_goto (pc := 40) (tgt := 7) dX12_eveningGoes_40 (by decide) ?_
  refine s_sub (lv' := [(0, .ref 253), (1, .int c1), (2, .int x3)]) [1, 2, 0] rfl ?_
  exact hkb x3 μ
def b_X12_eveningGoes_L7 (N : Nat) (c1 : Int32) (kb : Int32 → z_S → Option (Int32 × z_S)) (e43 : z_S → Option (Int32 × z_S)) (v2 : Int32) (μ : z_S) : Option (Int32 × z_S) :=
  z_bn (f_X12_letterMany N μ) fun x2 μ_2 => if v2 < x2 then (z_in v2 8 <| if 0 < (μ_2.1 300 v2.toNatClampNeg) then (z_in v2 8 <| z_bn (f_X12_isAnswered N v2 ((μ_2.1 300 v2.toNatClampNeg) - (1 : Int32)) μ_2) fun _ μ_3 => f_X12_eveningGoes_B37 N c1 kb e43 v2 μ_3) else f_X12_eveningGoes_B37 N c1 kb e43 v2 μ_2) else e43 μ_2
theorem tb_X12_eveningGoes_L7 (N : Nat) (c1 : Int32) (kb : Int32 → z_S → Option (Int32 × z_S)) (e43 : z_S → Option (Int32 × z_S)) (hkb : ∀ (a2 : Int32) (μ : z_S), z_sim false rI mX12_eveningGoes 7 (kb a2 μ) 7 [(0, .ref 253), (1, .int c1), (2, .int a2)] [] μ) (he43 : ∀ (μ : z_S), z_sim false rI mX12_eveningGoes 7 (e43 μ) 43 [(0, .ref 253), (1, .int c1)] [] μ) (v2 : Int32) (μ : z_S) : z_sim false rI mX12_eveningGoes 7 (b_X12_eveningGoes_L7 N c1 kb e43 v2 μ) 7 [(0, .ref 253), (1, .int c1), (2, .int v2)] [] μ := by
  unfold b_X12_eveningGoes_L7
  refine s_iload_n (pc := 7) 2 dX12_eveningGoes_7 rfl rfl ?_
  refine s_aload_n (pc := 8) 0 dX12_eveningGoes_8 rfl rfl ?_
  refine s_callVI (pc := 9) (as := []) (st := [.int v2]) dX12_eveningGoes_9 lk_12_419 kd_253 (t_X12_letterMany N μ) (by omega) rfl (Nat.le_of_ble_eq_true rfl) rfl (fun x2 μ_2 => ?_)
  refine s_icmp_ge (pc := 12) (tgt := 43) dX12_eveningGoes_12 (by decide) ?_ ?_
  · refine s_aload_n (pc := 15) 0 dX12_eveningGoes_15 rfl rfl ?_
    refine s_getR (pc := 16) (ci := 12) (k := 59) (r := 300) dX12_eveningGoes_16 fl_12_154 kd_253 rfl rs_253_59 ?_
    refine s_iload_n (pc := 19) 2 dX12_eveningGoes_19 rfl rfl ?_
    refine s_iald (pc := 20) dX12_eveningGoes_20 kd_300 ?_
    refine s_if_le (pc := 21) (tgt := 37) dX12_eveningGoes_21 (by decide) ?_ ?_
    · refine s_aload_n (pc := 24) 0 dX12_eveningGoes_24 rfl rfl ?_
      refine s_iload_n (pc := 25) 2 dX12_eveningGoes_25 rfl rfl ?_
      refine s_aload_n (pc := 26) 0 dX12_eveningGoes_26 rfl rfl ?_
      refine s_getR (pc := 27) (ci := 12) (k := 59) (r := 300) dX12_eveningGoes_27 fl_12_154 kd_253 rfl rs_253_59 ?_
      refine s_iload_n (pc := 30) 2 dX12_eveningGoes_30 rfl rfl ?_
      refine s_iald (pc := 31) dX12_eveningGoes_31 kd_300 ?_
      refine s_iconst (pc := 32) (v := (1 : Int32)) dX12_eveningGoes_32 (by decide) ?_
      refine s_isub (pc := 33) dX12_eveningGoes_33 ?_
      refine s_callVV (pc := 34) (as := [.int v2, .int ((μ_2.1 300 v2.toNatClampNeg) - (1 : Int32))]) (st := []) dX12_eveningGoes_34 lk_12_488 kd_253 (t_X12_isAnswered N v2 ((μ_2.1 300 v2.toNatClampNeg) - (1 : Int32)) μ_2) (by omega) rfl (by decide) rfl (fun _ μ_3 => ?_)
      exact t_X12_eveningGoes_B37 N c1 kb e43 hkb he43 v2 μ_3
    · exact t_X12_eveningGoes_B37 N c1 kb e43 hkb he43 v2 μ_2
  · refine s_sub (lv' := [(0, .ref 253), (1, .int c1)]) [0, 1] rfl ?_
    exact he43 μ_2
def f_X12_eveningGoes_L7 (N : Nat) (c1 : Int32) (e43 : z_S → Option (Int32 × z_S)) : Nat → Int32 → z_S → Option (Int32 × z_S)
  | 0, _, _ => none
  | n + 1, v2, μ => b_X12_eveningGoes_L7 N c1 (f_X12_eveningGoes_L7 N c1 e43 n) e43 v2 μ
theorem t_X12_eveningGoes_L7 (N : Nat) (c1 : Int32) (e43 : z_S → Option (Int32 × z_S)) (he43 : ∀ (μ : z_S), z_sim false rI mX12_eveningGoes 7 (e43 μ) 43 [(0, .ref 253), (1, .int c1)] [] μ) : ∀ (n : Nat) (v2 : Int32) (μ : z_S), z_sim false rI mX12_eveningGoes 7 (f_X12_eveningGoes_L7 N c1 e43 n v2 μ) 7 [(0, .ref 253), (1, .int c1), (2, .int v2)] [] μ
  | 0, _, _ => s_none
  | n + 1, v2, μ => tb_X12_eveningGoes_L7 N c1 (f_X12_eveningGoes_L7 N c1 e43 n) e43 (t_X12_eveningGoes_L7 N c1 e43 he43 n) he43 v2 μ
def f_X12_eveningGoes (N : Nat) (μ : z_S) : Option (Int32 × z_S) :=
  z_bn (f_X12_laysWarmest N μ) fun x1 μ_1 => f_X12_eveningGoes_L7 N x1 (fun μ43 => z_bd (z_setI μ43 296 0 ((μ43.1 296 0) + (1 : Int32))) fun μ_4 => z_bn (f_X12_leftAnew N μ_4) fun _ μ_5 => some (x1, μ_5)) N (0 : Int32) μ_1
theorem t_X12_eveningGoes (N : Nat) (μ : z_S) : z_met false rI mX12_eveningGoes 7 [.ref 253] μ (f_X12_eveningGoes N μ) := by
  refine z_met.of (by decide +kernel) (by show _ ≤ _; first | decide | exact Nat.le_of_ble_eq_true rfl) (lv := [(0, .ref 253)]) rfl ?_
  unfold f_X12_eveningGoes
  refine s_aload_n (pc := 0) 0 dX12_eveningGoes_0 rfl rfl ?_
  refine s_callVI (pc := 1) (as := []) (st := []) dX12_eveningGoes_1 lk_12_485 kd_253 (t_X12_laysWarmest N μ) (by omega) rfl (by decide) rfl (fun x1 μ_1 => ?_)
  refine s_istore_n (pc := 4) (lv' := [(1, .int x1), (0, .ref 253)]) dX12_eveningGoes_4 rfl (by decide) rfl ?_
  refine s_iconst (pc := 5) (v := (0 : Int32)) dX12_eveningGoes_5 (by decide) ?_
  refine s_istore_n (pc := 6) (lv' := [(2, .int (0 : Int32)), (1, .int x1), (0, .ref 253)]) dX12_eveningGoes_6 rfl (by decide) rfl ?_
  refine s_sub (lv' := [(0, .ref 253), (1, .int x1), (2, .int (0 : Int32))]) [2, 1, 0] rfl ?_
  refine t_X12_eveningGoes_L7 N x1 _ ?_ N (0 : Int32) μ_1
  · intro μ43
    refine s_aload_n (pc := 43) 0 dX12_eveningGoes_43 rfl rfl ?_
    refine s_getR (pc := 44) (ci := 12) (k := 54) (r := 296) dX12_eveningGoes_44 fl_12_142 kd_253 rfl rs_253_54 ?_
    refine s_iconst (pc := 47) (v := (0 : Int32)) dX12_eveningGoes_47 (by decide) ?_
    refine s_dup2 (pc := 48) dX12_eveningGoes_48 rfl rfl ?_
    refine s_ialdK (pc := 49) (k := 0) dX12_eveningGoes_49 kd_296 (by decide) (by decide) (by decide) ?_
    refine s_iconst (pc := 50) (v := (1 : Int32)) dX12_eveningGoes_50 (by decide) ?_
    refine s_iadd (pc := 51) dX12_eveningGoes_51 ?_
    refine s_iastK (pc := 52) (k := 0) dX12_eveningGoes_52 kd_296 (by decide) (by decide) (by decide) (fun μ_4 => ?_)
    refine s_aload_n (pc := 53) 0 dX12_eveningGoes_53 rfl rfl ?_
    refine s_callVV (pc := 54) (as := []) (st := []) dX12_eveningGoes_54 lk_12_407 kd_253 (t_X12_leftAnew N μ_4) (by omega) rfl (by decide) rfl (fun _ μ_5 => ?_)
    refine s_iload_n (pc := 57) 1 dX12_eveningGoes_57 rfl rfl ?_
    exact s_iret (pc := 58) rfl dX12_eveningGoes_58 rfl
def b_X12_putsAside_L2 (N : Nat) (kb : Int32 → z_S → Option (Unit × z_S)) (v1 : Int32) (μ : z_S) : Option (Unit × z_S) :=
  if v1 < (32 : Int32) then (z_in v1 32 <| z_in v1 32 <| z_bd (z_setI μ 297 v1.toNatClampNeg (μ.1 296 v1.toNatClampNeg)) fun μ_1 => z_bd (v1 + 1) fun x1 => kb x1 μ_1) else some ((), μ)
theorem tb_X12_putsAside_L2 (N : Nat) (kb : Int32 → z_S → Option (Unit × z_S)) (hkb : ∀ (a1 : Int32) (μ : z_S), z_sim false rV mX12_putsAside 0 (kb a1 μ) 2 [(0, .ref 253), (1, .int a1)] [] μ) (v1 : Int32) (μ : z_S) : z_sim false rV mX12_putsAside 0 (b_X12_putsAside_L2 N kb v1 μ) 2 [(0, .ref 253), (1, .int v1)] [] μ := by
  unfold b_X12_putsAside_L2
  refine s_iload_n (pc := 2) 1 dX12_putsAside_2 rfl rfl ?_
  refine s_bipush (pc := 3) (v := (32 : Int32)) dX12_putsAside_3 (by decide) ?_
  refine s_icmp_ge (pc := 5) (tgt := 26) dX12_putsAside_5 (by decide) ?_ ?_
  · refine s_aload_n (pc := 8) 0 dX12_putsAside_8 rfl rfl ?_
    refine s_getR (pc := 9) (ci := 12) (k := 55) (r := 297) dX12_putsAside_9 fl_12_145 kd_253 rfl rs_253_55 ?_
    refine s_iload_n (pc := 12) 1 dX12_putsAside_12 rfl rfl ?_
    refine s_aload_n (pc := 13) 0 dX12_putsAside_13 rfl rfl ?_
    refine s_getR (pc := 14) (ci := 12) (k := 54) (r := 296) dX12_putsAside_14 fl_12_142 kd_253 rfl rs_253_54 ?_
    refine s_iload_n (pc := 17) 1 dX12_putsAside_17 rfl rfl ?_
    refine s_iald (pc := 18) dX12_putsAside_18 kd_296 ?_
    refine s_iast (pc := 19) dX12_putsAside_19 kd_297 (fun μ_1 => ?_)
    refine s_iincB (pc := 20) (lv' := fun x1 => [(1, .int x1), (0, .ref 253)]) (c := 1) 1 dX12_putsAside_20 rfl (by decide) (by decide) (fun _ => rfl) (fun x1 => ?_)
    refine s_goto (pc := 23) (tgt := 2) dX12_putsAside_23 (by decide) ?_
    refine s_sub (lv' := [(0, .ref 253), (1, .int x1)]) [1, 0] rfl ?_
    exact hkb x1 μ_1
  · exact s_vret (pc := 26) dX12_putsAside_26 rfl
def f_X12_putsAside_L2 (N : Nat) : Nat → Int32 → z_S → Option (Unit × z_S)
  | 0, _, _ => none
  | n + 1, v1, μ => b_X12_putsAside_L2 N (f_X12_putsAside_L2 N n) v1 μ
theorem t_X12_putsAside_L2 (N : Nat) : ∀ (n : Nat) (v1 : Int32) (μ : z_S), z_sim false rV mX12_putsAside 0 (f_X12_putsAside_L2 N n v1 μ) 2 [(0, .ref 253), (1, .int v1)] [] μ
  | 0, _, _ => s_none
  | n + 1, v1, μ => tb_X12_putsAside_L2 N (f_X12_putsAside_L2 N n) (t_X12_putsAside_L2 N n) v1 μ
def f_X12_putsAside (N : Nat) (μ : z_S) : Option (Unit × z_S) :=
  f_X12_putsAside_L2 N N (0 : Int32) μ
theorem t_X12_putsAside (N : Nat) (μ : z_S) : z_met false rV mX12_putsAside 0 [.ref 253] μ (f_X12_putsAside N μ) := by
  refine z_met.of (by decide +kernel) (by show _ ≤ _; first | decide | exact Nat.le_of_ble_eq_true rfl) (lv := [(0, .ref 253)]) rfl ?_
  unfold f_X12_putsAside
  refine s_iconst (pc := 0) (v := (0 : Int32)) dX12_putsAside_0 (by decide) ?_
  refine s_istore_n (pc := 1) (lv' := [(1, .int (0 : Int32)), (0, .ref 253)]) dX12_putsAside_1 rfl (by decide) rfl ?_
  refine s_sub (lv' := [(0, .ref 253), (1, .int (0 : Int32))]) [1, 0] rfl ?_
  refine t_X12_putsAside_L2 N N (0 : Int32) μ
def b_X12_takesBack_L2 (N : Nat) (kb : Int32 → z_S → Option (Unit × z_S)) (v1 : Int32) (μ : z_S) : Option (Unit × z_S) :=
  if v1 < (32 : Int32) then (z_in v1 32 <| z_in v1 32 <| z_bd (z_setI μ 296 v1.toNatClampNeg (μ.1 297 v1.toNatClampNeg)) fun μ_1 => z_bd (v1 + 1) fun x1 => kb x1 μ_1) else some ((), μ)
theorem tb_X12_takesBack_L2 (N : Nat) (kb : Int32 → z_S → Option (Unit × z_S)) (hkb : ∀ (a1 : Int32) (μ : z_S), z_sim false rV mX12_takesBack 0 (kb a1 μ) 2 [(0, .ref 253), (1, .int a1)] [] μ) (v1 : Int32) (μ : z_S) : z_sim false rV mX12_takesBack 0 (b_X12_takesBack_L2 N kb v1 μ) 2 [(0, .ref 253), (1, .int v1)] [] μ := by
  unfold b_X12_takesBack_L2
  refine s_iload_n (pc := 2) 1 dX12_takesBack_2 rfl rfl ?_
  refine s_bipush (pc := 3) (v := (32 : Int32)) dX12_takesBack_3 (by decide) ?_
  refine s_icmp_ge (pc := 5) (tgt := 26) dX12_takesBack_5 (by decide) ?_ ?_
  · refine s_aload_n (pc := 8) 0 dX12_takesBack_8 rfl rfl ?_
    refine s_getR (pc := 9) (ci := 12) (k := 54) (r := 296) dX12_takesBack_9 fl_12_142 kd_253 rfl rs_253_54 ?_
    refine s_iload_n (pc := 12) 1 dX12_takesBack_12 rfl rfl ?_
    refine s_aload_n (pc := 13) 0 dX12_takesBack_13 rfl rfl ?_
    refine s_getR (pc := 14) (ci := 12) (k := 55) (r := 297) dX12_takesBack_14 fl_12_145 kd_253 rfl rs_253_55 ?_
    refine s_iload_n (pc := 17) 1 dX12_takesBack_17 rfl rfl ?_
    refine s_iald (pc := 18) dX12_takesBack_18 kd_297 ?_
    refine s_iast (pc := 19) dX12_takesBack_19 kd_296 (fun μ_1 => ?_)
    refine s_iincB (pc := 20) (lv' := fun x1 => [(1, .int x1), (0, .ref 253)]) (c := 1) 1 dX12_takesBack_20 rfl (by decide) (by decide) (fun _ => rfl) (fun x1 => ?_)
    refine s_goto (pc := 23) (tgt := 2) dX12_takesBack_23 (by decide) ?_
    refine s_sub (lv' := [(0, .ref 253), (1, .int x1)]) [1, 0] rfl ?_
    exact hkb x1 μ_1
  · exact s_vret (pc := 26) dX12_takesBack_26 rfl
def f_X12_takesBack_L2 (N : Nat) : Nat → Int32 → z_S → Option (Unit × z_S)
  | 0, _, _ => none
  | n + 1, v1, μ => b_X12_takesBack_L2 N (f_X12_takesBack_L2 N n) v1 μ
theorem t_X12_takesBack_L2 (N : Nat) : ∀ (n : Nat) (v1 : Int32) (μ : z_S), z_sim false rV mX12_takesBack 0 (f_X12_takesBack_L2 N n v1 μ) 2 [(0, .ref 253), (1, .int v1)] [] μ
  | 0, _, _ => s_none
  | n + 1, v1, μ => tb_X12_takesBack_L2 N (f_X12_takesBack_L2 N n) (t_X12_takesBack_L2 N n) v1 μ
def f_X12_takesBack (N : Nat) (μ : z_S) : Option (Unit × z_S) :=
  f_X12_takesBack_L2 N N (0 : Int32) μ
theorem t_X12_takesBack (N : Nat) (μ : z_S) : z_met false rV mX12_takesBack 0 [.ref 253] μ (f_X12_takesBack N μ) := by
  refine z_met.of (by decide +kernel) (by show _ ≤ _; first | decide | exact Nat.le_of_ble_eq_true rfl) (lv := [(0, .ref 253)]) rfl ?_
  unfold f_X12_takesBack
  refine s_iconst (pc := 0) (v := (0 : Int32)) dX12_takesBack_0 (by decide) ?_
  refine s_istore_n (pc := 1) (lv' := [(1, .int (0 : Int32)), (0, .ref 253)]) dX12_takesBack_1 rfl (by decide) rfl ?_
  refine s_sub (lv' := [(0, .ref 253), (1, .int (0 : Int32))]) [1, 0] rfl ?_
  refine t_X12_takesBack_L2 N N (0 : Int32) μ
def f_X12_isAhead (N : Nat) (a1 : Int32) (a2 : Int32) (a3 : Int32) (μ : z_S) : Option (Int32 × z_S) :=
  z_bn (f_X12_isIn N a1.toInt64 a2.toInt64 a3.toInt64 μ) fun x1 μ_1 => if x1 = 0 then (some ((0 : Int32), μ_1)) else if (999 : Int32) < ((μ_1.1 296 0) + a1) then (some ((0 : Int32), μ_1)) else some ((1 : Int32), μ_1)
theorem t_X12_isAhead (N : Nat) (a1 : Int32) (a2 : Int32) (a3 : Int32) (μ : z_S) : z_met false rI mX12_isAhead 1 [.ref 253, .int a1, .int a2, .int a3] μ (f_X12_isAhead N a1 a2 a3 μ) := by
  refine z_met.of (by decide +kernel) (by show _ ≤ _; first | decide | exact Nat.le_of_ble_eq_true rfl) (lv := [(0, .ref 253), (1, .int a1), (2, .int a2), (3, .int a3)]) rfl ?_
  unfold f_X12_isAhead
  refine s_iload_n (pc := 0) 1 dX12_isAhead_0 rfl rfl ?_
  refine s_i2l (pc := 1) dX12_isAhead_1 ?_
  refine s_iload_n (pc := 2) 2 dX12_isAhead_2 rfl rfl ?_
  refine s_i2l (pc := 3) dX12_isAhead_3 ?_
  refine s_iload_n (pc := 4) 3 dX12_isAhead_4 rfl rfl ?_
  refine s_i2l (pc := 5) dX12_isAhead_5 ?_
  refine s_callSI (pc := 6) (as := [.long a1.toInt64, .long a2.toInt64, .long a3.toInt64]) (st := []) dX12_isAhead_6 lk_12_303 (t_X12_isIn N a1.toInt64 a2.toInt64 a3.toInt64 μ) (by omega) rfl (by decide) rfl (fun x1 μ_1 => ?_)
  refine s_if_eq (pc := 9) (tgt := 30) dX12_isAhead_9 (by decide) ?_ ?_
  · refine s_iconst (pc := 30) (v := (0 : Int32)) dX12_isAhead_30 (by decide) ?_
    exact s_zret0 (pc := 31) dX12_isAhead_31 rfl rfl
  · refine s_aload_n (pc := 12) 0 dX12_isAhead_12 rfl rfl ?_
    refine s_getR (pc := 13) (ci := 12) (k := 54) (r := 296) dX12_isAhead_13 fl_12_142 kd_253 rfl rs_253_54 ?_
    refine s_iconst (pc := 16) (v := (0 : Int32)) dX12_isAhead_16 (by decide) ?_
    refine s_ialdK (pc := 17) (k := 0) dX12_isAhead_17 kd_296 (by decide) (by decide) (by decide) ?_
    refine s_iload_n (pc := 18) 1 dX12_isAhead_18 rfl rfl ?_
    refine s_iadd (pc := 19) dX12_isAhead_19 ?_
    refine s_sipush (pc := 20) (v := (999 : Int32)) dX12_isAhead_20 (by decide) ?_
    refine s_icmp_gt (pc := 23) (tgt := 30) dX12_isAhead_23 (by decide) ?_ ?_
    · refine s_iconst (pc := 30) (v := (0 : Int32)) dX12_isAhead_30 (by decide) ?_
      exact s_zret0 (pc := 31) dX12_isAhead_31 rfl rfl
    · refine s_iconst (pc := 26) (v := (1 : Int32)) dX12_isAhead_26 (by decide) ?_
      refine s_goto (pc := 27) (tgt := 31) dX12_isAhead_27 (by decide) ?_
      exact s_zret0 (pc := 31) dX12_isAhead_31 rfl rfl
def f_X12_answeredMany_B23 (N : Nat) (kb : Int32 → Int32 → z_S → Option (Int32 × z_S)) (v1 : Int32) (v2 : Int32) (μ : z_S) : Option (Int32 × z_S) :=
  z_bd (v2 + 1) fun x4 => kb v1 x4 μ
theorem t_X12_answeredMany_B23 (N : Nat)   (kb : Int32 → Int32 → z_S → Option (Int32 × z_S)) (hkb : ∀ (a1 : Int32) (a2 : Int32) (μ : z_S), z_sim false rI mX12_answeredMany 1 (kb a1 a2 μ) 4 [(0, .ref 253), (1, .int a1), (2, .int a2)] [] μ) (v1 : Int32) (v2 : Int32)  (μ : z_S) : z_sim false rI mX12_answeredMany 1 (f_X12_answeredMany_B23 N  kb v1 v2 μ) 23 [(0, .ref 253), (1, .int v1), (2, .int v2)] [] μ := by
  unfold f_X12_answeredMany_B23
  refine s_iincB (pc := 23) (lv' := fun x4 => [(2, .int x4), (0, .ref 253), (1, .int v1)]) (c := 1) 2 dX12_answeredMany_23 rfl (by decide) (by decide) (fun _ => rfl) (fun x4 => ?_)
  refine s_goto (pc := 26) (tgt := 4) dX12_answeredMany_26 (by decide) ?_
  refine s_sub (lv' := [(0, .ref 253), (1, .int v1), (2, .int x4)]) [1, 2, 0] rfl ?_
  exact hkb v1 x4 μ
def b_X12_answeredMany_L4 (N : Nat) (kb : Int32 → Int32 → z_S → Option (Int32 × z_S)) (v1 : Int32) (v2 : Int32) (μ : z_S) : Option (Int32 × z_S) :=
  z_bn (f_X12_letterMany N μ) fun x1 μ_1 => if v2 < x1 then (z_bn (f_X12_doneOf N v2 μ_1) fun x2 μ_2 => if 0 < x2 then (z_bd (v1 + 1) fun x3 => f_X12_answeredMany_B23 N kb x3 v2 μ_2) else f_X12_answeredMany_B23 N kb v1 v2 μ_2) else some (v1, μ_1)
theorem tb_X12_answeredMany_L4 (N : Nat) (kb : Int32 → Int32 → z_S → Option (Int32 × z_S)) (hkb : ∀ (a1 : Int32) (a2 : Int32) (μ : z_S), z_sim false rI mX12_answeredMany 1 (kb a1 a2 μ) 4 [(0, .ref 253), (1, .int a1), (2, .int a2)] [] μ) (v1 : Int32) (v2 : Int32) (μ : z_S) : z_sim false rI mX12_answeredMany 1 (b_X12_answeredMany_L4 N kb v1 v2 μ) 4 [(0, .ref 253), (1, .int v1), (2, .int v2)] [] μ := by
  unfold b_X12_answeredMany_L4
  refine s_iload_n (pc := 4) 2 dX12_answeredMany_4 rfl rfl ?_
  refine s_aload_n (pc := 5) 0 dX12_answeredMany_5 rfl rfl ?_
  refine s_callVI (pc := 6) (as := []) (st := [.int v2]) dX12_answeredMany_6 lk_12_419 kd_253 (t_X12_letterMany N μ) (by omega) rfl (Nat.le_of_ble_eq_true rfl) rfl (fun x1 μ_1 => ?_)
  refine s_icmp_ge (pc := 9) (tgt := 29) dX12_answeredMany_9 (by decide) ?_ ?_
  · refine s_aload_n (pc := 12) 0 dX12_answeredMany_12 rfl rfl ?_
    refine s_iload_n (pc := 13) 2 dX12_answeredMany_13 rfl rfl ?_
    refine s_callVI (pc := 14) (as := [.int v2]) (st := []) dX12_answeredMany_14 lk_12_451 kd_253 (t_X12_doneOf N v2 μ_1) (by omega) rfl (by decide) rfl (fun x2 μ_2 => ?_)
    refine s_if_le (pc := 17) (tgt := 23) dX12_answeredMany_17 (by decide) ?_ ?_
    · refine s_iincB (pc := 20) (lv' := fun x3 => [(1, .int x3), (0, .ref 253), (2, .int v2)]) (c := 1) 1 dX12_answeredMany_20 rfl (by decide) (by decide) (fun _ => rfl) (fun x3 => ?_)
      refine s_sub (lv' := [(0, .ref 253), (1, .int x3), (2, .int v2)]) [1, 0, 2] rfl ?_
      exact t_X12_answeredMany_B23 N kb hkb x3 v2 μ_2
    · exact t_X12_answeredMany_B23 N kb hkb v1 v2 μ_2
  · refine s_iload_n (pc := 29) 1 dX12_answeredMany_29 rfl rfl ?_
    exact s_iret (pc := 30) rfl dX12_answeredMany_30 rfl
def f_X12_answeredMany_L4 (N : Nat) : Nat → Int32 → Int32 → z_S → Option (Int32 × z_S)
  | 0, _, _, _ => none
  | n + 1, v1, v2, μ => b_X12_answeredMany_L4 N (f_X12_answeredMany_L4 N n) v1 v2 μ
theorem t_X12_answeredMany_L4 (N : Nat) : ∀ (n : Nat) (v1 : Int32) (v2 : Int32) (μ : z_S), z_sim false rI mX12_answeredMany 1 (f_X12_answeredMany_L4 N n v1 v2 μ) 4 [(0, .ref 253), (1, .int v1), (2, .int v2)] [] μ
  | 0, _, _, _ => s_none
  | n + 1, v1, v2, μ => tb_X12_answeredMany_L4 N (f_X12_answeredMany_L4 N n) (t_X12_answeredMany_L4 N n) v1 v2 μ
def f_X12_answeredMany (N : Nat) (μ : z_S) : Option (Int32 × z_S) :=
  f_X12_answeredMany_L4 N N (0 : Int32) (0 : Int32) μ
theorem t_X12_answeredMany (N : Nat) (μ : z_S) : z_met false rI mX12_answeredMany 1 [.ref 253] μ (f_X12_answeredMany N μ) := by
  refine z_met.of (by decide +kernel) (by show _ ≤ _; first | decide | exact Nat.le_of_ble_eq_true rfl) (lv := [(0, .ref 253)]) rfl ?_
  unfold f_X12_answeredMany
  refine s_iconst (pc := 0) (v := (0 : Int32)) dX12_answeredMany_0 (by decide) ?_
  refine s_istore_n (pc := 1) (lv' := [(1, .int (0 : Int32)), (0, .ref 253)]) dX12_answeredMany_1 rfl (by decide) rfl ?_
  refine s_iconst (pc := 2) (v := (0 : Int32)) dX12_answeredMany_2 (by decide) ?_
  refine s_istore_n (pc := 3) (lv' := [(2, .int (0 : Int32)), (1, .int (0 : Int32)), (0, .ref 253)]) dX12_answeredMany_3 rfl (by decide) rfl ?_
  refine s_sub (lv' := [(0, .ref 253), (1, .int (0 : Int32)), (2, .int (0 : Int32))]) [2, 1, 0] rfl ?_
  refine t_X12_answeredMany_L4 N N (0 : Int32) (0 : Int32) μ
def f_X12_manyWith_B31 (N : Nat) (c1 : Int32) (kb : Int32 → Int32 → z_S → Option (Int32 × z_S)) (v2 : Int32) (v3 : Int32) (μ : z_S) : Option (Int32 × z_S) :=
  z_bd (v3 + 1) fun x3 => kb v2 x3 μ
theorem t_X12_manyWith_B31 (N : Nat) (c1 : Int32)  (kb : Int32 → Int32 → z_S → Option (Int32 × z_S)) (hkb : ∀ (a2 : Int32) (a3 : Int32) (μ : z_S), z_sim false rI mX12_manyWith 1 (kb a2 a3 μ) 4 [(0, .ref 253), (1, .int c1), (2, .int a2), (3, .int a3)] [] μ) (v2 : Int32) (v3 : Int32)  (μ : z_S) : z_sim false rI mX12_manyWith 1 (f_X12_manyWith_B31 N c1 kb v2 v3 μ) 31 [(0, .ref 253), (1, .int c1), (2, .int v2), (3, .int v3)] [] μ := by
  unfold f_X12_manyWith_B31
  refine s_iincB (pc := 31) (lv' := fun x3 => [(3, .int x3), (0, .ref 253), (1, .int c1), (2, .int v2)]) (c := 1) 3 dX12_manyWith_31 rfl (by decide) (by decide) (fun _ => rfl) (fun x3 => ?_)
  refine s_goto (pc := 34) (tgt := 4) dX12_manyWith_34 (by decide) ?_
  refine s_sub (lv' := [(0, .ref 253), (1, .int c1), (2, .int v2), (3, .int x3)]) [1, 2, 3, 0] rfl ?_
  exact hkb v2 x3 μ
def b_X12_manyWith_L4 (N : Nat) (c1 : Int32) (kb : Int32 → Int32 → z_S → Option (Int32 × z_S)) (v2 : Int32) (v3 : Int32) (μ : z_S) : Option (Int32 × z_S) :=
  z_bn (f_X12_letterMany N μ) fun x1 μ_1 => if v3 < x1 then (z_in (((8 : Int32) + ((3 : Int32) * v3)) + c1) 32 <| if 0 < (μ_1.1 296 (((8 : Int32) + ((3 : Int32) * v3)) + c1).toNatClampNeg) then (z_bd (v2 + 1) fun x2 => f_X12_manyWith_B31 N c1 kb x2 v3 μ_1) else f_X12_manyWith_B31 N c1 kb v2 v3 μ_1) else some (v2, μ_1)
theorem tb_X12_manyWith_L4 (N : Nat) (c1 : Int32) (kb : Int32 → Int32 → z_S → Option (Int32 × z_S)) (hkb : ∀ (a2 : Int32) (a3 : Int32) (μ : z_S), z_sim false rI mX12_manyWith 1 (kb a2 a3 μ) 4 [(0, .ref 253), (1, .int c1), (2, .int a2), (3, .int a3)] [] μ) (v2 : Int32) (v3 : Int32) (μ : z_S) : z_sim false rI mX12_manyWith 1 (b_X12_manyWith_L4 N c1 kb v2 v3 μ) 4 [(0, .ref 253), (1, .int c1), (2, .int v2), (3, .int v3)] [] μ := by
  unfold b_X12_manyWith_L4
  refine s_iload_n (pc := 4) 3 dX12_manyWith_4 rfl rfl ?_
  refine s_aload_n (pc := 5) 0 dX12_manyWith_5 rfl rfl ?_
  refine s_callVI (pc := 6) (as := []) (st := [.int v3]) dX12_manyWith_6 lk_12_419 kd_253 (t_X12_letterMany N μ) (by omega) rfl (Nat.le_of_ble_eq_true rfl) rfl (fun x1 μ_1 => ?_)
  refine s_icmp_ge (pc := 9) (tgt := 37) dX12_manyWith_9 (by decide) ?_ ?_
  · refine s_aload_n (pc := 12) 0 dX12_manyWith_12 rfl rfl ?_
    refine s_getR (pc := 13) (ci := 12) (k := 54) (r := 296) dX12_manyWith_13 fl_12_142 kd_253 rfl rs_253_54 ?_
    refine s_bipush (pc := 16) (v := (8 : Int32)) dX12_manyWith_16 (by decide) ?_
    refine s_iconst (pc := 18) (v := (3 : Int32)) dX12_manyWith_18 (by decide) ?_
    refine s_iload_n (pc := 19) 3 dX12_manyWith_19 rfl rfl ?_
    refine s_imul (pc := 20) dX12_manyWith_20 ?_
    refine s_iadd (pc := 21) dX12_manyWith_21 ?_
    refine s_iload_n (pc := 22) 1 dX12_manyWith_22 rfl rfl ?_
    refine s_iadd (pc := 23) dX12_manyWith_23 ?_
    refine s_iald (pc := 24) dX12_manyWith_24 kd_296 ?_
    refine s_if_le (pc := 25) (tgt := 31) dX12_manyWith_25 (by decide) ?_ ?_
    · refine s_iincB (pc := 28) (lv' := fun x2 => [(2, .int x2), (0, .ref 253), (1, .int c1), (3, .int v3)]) (c := 1) 2 dX12_manyWith_28 rfl (by decide) (by decide) (fun _ => rfl) (fun x2 => ?_)
      refine s_sub (lv' := [(0, .ref 253), (1, .int c1), (2, .int x2), (3, .int v3)]) [1, 2, 0, 3] rfl ?_
      exact t_X12_manyWith_B31 N c1 kb hkb x2 v3 μ_1
    · exact t_X12_manyWith_B31 N c1 kb hkb v2 v3 μ_1
  · refine s_iload_n (pc := 37) 2 dX12_manyWith_37 rfl rfl ?_
    exact s_iret (pc := 38) rfl dX12_manyWith_38 rfl
def f_X12_manyWith_L4 (N : Nat) (c1 : Int32) : Nat → Int32 → Int32 → z_S → Option (Int32 × z_S)
  | 0, _, _, _ => none
  | n + 1, v2, v3, μ => b_X12_manyWith_L4 N c1 (f_X12_manyWith_L4 N c1 n) v2 v3 μ
theorem t_X12_manyWith_L4 (N : Nat) (c1 : Int32) : ∀ (n : Nat) (v2 : Int32) (v3 : Int32) (μ : z_S), z_sim false rI mX12_manyWith 1 (f_X12_manyWith_L4 N c1 n v2 v3 μ) 4 [(0, .ref 253), (1, .int c1), (2, .int v2), (3, .int v3)] [] μ
  | 0, _, _, _ => s_none
  | n + 1, v2, v3, μ => tb_X12_manyWith_L4 N c1 (f_X12_manyWith_L4 N c1 n) (t_X12_manyWith_L4 N c1 n) v2 v3 μ
def f_X12_manyWith (N : Nat) (a1 : Int32) (μ : z_S) : Option (Int32 × z_S) :=
  f_X12_manyWith_L4 N a1 N (0 : Int32) (0 : Int32) μ
theorem t_X12_manyWith (N : Nat) (a1 : Int32) (μ : z_S) : z_met false rI mX12_manyWith 1 [.ref 253, .int a1] μ (f_X12_manyWith N a1 μ) := by
  refine z_met.of (by decide +kernel) (by show _ ≤ _; first | decide | exact Nat.le_of_ble_eq_true rfl) (lv := [(0, .ref 253), (1, .int a1)]) rfl ?_
  unfold f_X12_manyWith
  refine s_iconst (pc := 0) (v := (0 : Int32)) dX12_manyWith_0 (by decide) ?_
  refine s_istore_n (pc := 1) (lv' := [(2, .int (0 : Int32)), (0, .ref 253), (1, .int a1)]) dX12_manyWith_1 rfl (by decide) rfl ?_
  refine s_iconst (pc := 2) (v := (0 : Int32)) dX12_manyWith_2 (by decide) ?_
  refine s_istore_n (pc := 3) (lv' := [(3, .int (0 : Int32)), (2, .int (0 : Int32)), (0, .ref 253), (1, .int a1)]) dX12_manyWith_3 rfl (by decide) rfl ?_
  refine s_sub (lv' := [(0, .ref 253), (1, .int a1), (2, .int (0 : Int32)), (3, .int (0 : Int32))]) [2, 3, 1, 0] rfl ?_
  refine t_X12_manyWith_L4 N a1 N (0 : Int32) (0 : Int32) μ
def b_X12_leftAll_L4 (N : Nat) (kb : Int32 → Int32 → z_S → Option (Int32 × z_S)) (v1 : Int32) (v2 : Int32) (μ : z_S) : Option (Int32 × z_S) :=
  z_bn (f_X12_helperMany N μ) fun x1 μ_1 => if v2 < x1 then (z_bn (f_X12_leftOf N v2 μ_1) fun x2 μ_2 => z_bd (v1 + x2) fun x3 => z_bd (v2 + 1) fun x4 => kb x3 x4 μ_2) else some (v1, μ_1)
theorem tb_X12_leftAll_L4 (N : Nat) (kb : Int32 → Int32 → z_S → Option (Int32 × z_S)) (hkb : ∀ (a1 : Int32) (a2 : Int32) (μ : z_S), z_sim false rI mX12_leftAll 1 (kb a1 a2 μ) 4 [(0, .ref 253), (1, .int a1), (2, .int a2)] [] μ) (v1 : Int32) (v2 : Int32) (μ : z_S) : z_sim false rI mX12_leftAll 1 (b_X12_leftAll_L4 N kb v1 v2 μ) 4 [(0, .ref 253), (1, .int v1), (2, .int v2)] [] μ := by
  unfold b_X12_leftAll_L4
  refine s_iload_n (pc := 4) 2 dX12_leftAll_4 rfl rfl ?_
  refine s_aload_n (pc := 5) 0 dX12_leftAll_5 rfl rfl ?_
  refine s_callVI (pc := 6) (as := []) (st := [.int v2]) dX12_leftAll_6 lk_12_422 kd_253 (t_X12_helperMany N μ) (by omega) rfl (Nat.le_of_ble_eq_true rfl) rfl (fun x1 μ_1 => ?_)
  refine s_icmp_ge (pc := 9) (tgt := 26) dX12_leftAll_9 (by decide) ?_ ?_
  · refine s_iload_n (pc := 12) 1 dX12_leftAll_12 rfl rfl ?_
    refine s_aload_n (pc := 13) 0 dX12_leftAll_13 rfl rfl ?_
    refine s_iload_n (pc := 14) 2 dX12_leftAll_14 rfl rfl ?_
    refine s_callVI (pc := 15) (as := [.int v2]) (st := [.int v1]) dX12_leftAll_15 lk_12_458 kd_253 (t_X12_leftOf N v2 μ_1) (by omega) rfl (Nat.le_of_ble_eq_true rfl) rfl (fun x2 μ_2 => ?_)
    refine s_iadd (pc := 18) dX12_leftAll_18 ?_
    refine s_letI (fun x3 => ?_)
    refine s_istore_n (pc := 19) (lv' := [(1, .int x3), (0, .ref 253), (2, .int v2)]) dX12_leftAll_19 rfl (by decide) rfl ?_
    refine s_iincB (pc := 20) (lv' := fun x4 => [(2, .int x4), (1, .int x3), (0, .ref 253)]) (c := 1) 2 dX12_leftAll_20 rfl (by decide) (by decide) (fun _ => rfl) (fun x4 => ?_)
    refine s_goto (pc := 23) (tgt := 4) dX12_leftAll_23 (by decide) ?_
    refine s_sub (lv' := [(0, .ref 253), (1, .int x3), (2, .int x4)]) [2, 1, 0] rfl ?_
    exact hkb x3 x4 μ_2
  · refine s_iload_n (pc := 26) 1 dX12_leftAll_26 rfl rfl ?_
    exact s_iret (pc := 27) rfl dX12_leftAll_27 rfl
def f_X12_leftAll_L4 (N : Nat) : Nat → Int32 → Int32 → z_S → Option (Int32 × z_S)
  | 0, _, _, _ => none
  | n + 1, v1, v2, μ => b_X12_leftAll_L4 N (f_X12_leftAll_L4 N n) v1 v2 μ
theorem t_X12_leftAll_L4 (N : Nat) : ∀ (n : Nat) (v1 : Int32) (v2 : Int32) (μ : z_S), z_sim false rI mX12_leftAll 1 (f_X12_leftAll_L4 N n v1 v2 μ) 4 [(0, .ref 253), (1, .int v1), (2, .int v2)] [] μ
  | 0, _, _, _ => s_none
  | n + 1, v1, v2, μ => tb_X12_leftAll_L4 N (f_X12_leftAll_L4 N n) (t_X12_leftAll_L4 N n) v1 v2 μ
def f_X12_leftAll (N : Nat) (μ : z_S) : Option (Int32 × z_S) :=
  f_X12_leftAll_L4 N N (0 : Int32) (0 : Int32) μ
theorem t_X12_leftAll (N : Nat) (μ : z_S) : z_met false rI mX12_leftAll 1 [.ref 253] μ (f_X12_leftAll N μ) := by
  refine z_met.of (by decide +kernel) (by show _ ≤ _; first | decide | exact Nat.le_of_ble_eq_true rfl) (lv := [(0, .ref 253)]) rfl ?_
  unfold f_X12_leftAll
  refine s_iconst (pc := 0) (v := (0 : Int32)) dX12_leftAll_0 (by decide) ?_
  refine s_istore_n (pc := 1) (lv' := [(1, .int (0 : Int32)), (0, .ref 253)]) dX12_leftAll_1 rfl (by decide) rfl ?_
  refine s_iconst (pc := 2) (v := (0 : Int32)) dX12_leftAll_2 (by decide) ?_
  refine s_istore_n (pc := 3) (lv' := [(2, .int (0 : Int32)), (1, .int (0 : Int32)), (0, .ref 253)]) dX12_leftAll_3 rfl (by decide) rfl ?_
  refine s_sub (lv' := [(0, .ref 253), (1, .int (0 : Int32)), (2, .int (0 : Int32))]) [2, 1, 0] rfl ?_
  refine t_X12_leftAll_L4 N N (0 : Int32) (0 : Int32) μ
def f_X12_has_B64 (N : Nat)  (v1 : Int32) (μ : z_S) : Option (Int32 × z_S) :=
  z_in ((5 : Int32) + v1) 10 <| some ((μ.1 284 ((5 : Int32) + v1).toNatClampNeg), μ)
theorem t_X12_has_B64 (N : Nat)     (v1 : Int32)  (μ : z_S) : z_sim false rI mX12_has 2 (f_X12_has_B64 N   v1 μ) 64 [(0, .ref 253), (1, .int v1)] [] μ := by
  unfold f_X12_has_B64
  refine s_aload_n (pc := 64) 0 dX12_has_64 rfl rfl ?_
  refine s_getR (pc := 65) (ci := 12) (k := 39) (r := 284) dX12_has_65 fl_12_105 kd_253 rfl rs_253_39 ?_
  refine s_iconst (pc := 68) (v := (5 : Int32)) dX12_has_68 (by decide) ?_
  refine s_iload_n (pc := 69) 1 dX12_has_69 rfl rfl ?_
  refine s_iadd (pc := 70) dX12_has_70 ?_
  refine s_iald (pc := 71) dX12_has_71 kd_284 ?_
  exact s_iret (pc := 72) rfl dX12_has_72 rfl
def f_X12_has_B80 (N : Nat)  (v1 : Int32) (μ : z_S) : Option (Int32 × z_S) :=
  z_bn (f_X12_manyWith N (v1 - (6 : Int32)) μ) fun x2 μ_1 => some (x2, μ_1)
theorem t_X12_has_B80 (N : Nat)     (v1 : Int32)  (μ : z_S) : z_sim false rI mX12_has 2 (f_X12_has_B80 N   v1 μ) 80 [(0, .ref 253), (1, .int v1)] [] μ := by
  unfold f_X12_has_B80
  refine s_aload_n (pc := 80) 0 dX12_has_80 rfl rfl ?_
  refine s_iload_n (pc := 81) 1 dX12_has_81 rfl rfl ?_
  refine s_bipush (pc := 82) (v := (6 : Int32)) dX12_has_82 (by decide) ?_
  refine s_isub (pc := 84) dX12_has_84 ?_
  refine s_callVI (pc := 85) (as := [.int (v1 - (6 : Int32))]) (st := []) dX12_has_85 lk_12_491 kd_253 (t_X12_manyWith N (v1 - (6 : Int32)) μ) (by omega) rfl (by decide) rfl (fun x2 μ_1 => ?_)
  exact s_iret (pc := 88) rfl dX12_has_88 rfl
def f_X12_has (N : Nat) (a1 : Int32) (μ : z_S) : Option (Int32 × z_S) :=
  z_bd a1 fun x1 => if x1 = 0 then (f_X12_has_B64 N a1 μ) else if x1 = 1 then (f_X12_has_B64 N a1 μ) else if x1 = 2 then (f_X12_has_B64 N a1 μ) else if x1 = 3 then (f_X12_has_B64 N a1 μ) else if x1 = 4 then (f_X12_has_B64 N a1 μ) else if x1 = 5 then (some ((μ.1 296 0), μ)) else if x1 = 6 then (f_X12_has_B80 N a1 μ) else if x1 = 7 then (f_X12_has_B80 N a1 μ) else if x1 = 8 then (f_X12_has_B80 N a1 μ) else if x1 = 9 then (z_bn (f_X12_leftAll N μ) fun x3 μ_2 => some (x3, μ_2)) else if x1 = 10 then (some ((μ.1 253 65), μ)) else if x1 = 11 then (some ((μ.1 253 68), μ)) else some ((-1 : Int32), μ)
theorem t_X12_has (N : Nat) (a1 : Int32) (μ : z_S) : z_met false rI mX12_has 2 [.ref 253, .int a1] μ (f_X12_has N a1 μ) := by
  refine z_met.of (by decide +kernel) (by show _ ≤ _; first | decide | exact Nat.le_of_ble_eq_true rfl) (lv := [(0, .ref 253), (1, .int a1)]) rfl ?_
  unfold f_X12_has
  refine s_iload_n (pc := 0) 1 dX12_has_0 rfl rfl ?_
  refine s_letI (fun x1 => ?_)
  refine s_ite (fun hs1 => ?_) (fun hs1 => ?_)
  · subst hs1
    refine s_tswIn (pc := 1) (tgt := 64) dX12_has_1 (by decide) (by decide) rfl (by decide) ?_
    exact t_X12_has_B64 N a1 μ
  refine s_ite (fun hs2 => ?_) (fun hs2 => ?_)
  · subst hs2
    refine s_tswIn (pc := 1) (tgt := 64) dX12_has_1 (by decide) (by decide) rfl (by decide) ?_
    exact t_X12_has_B64 N a1 μ
  refine s_ite (fun hs3 => ?_) (fun hs3 => ?_)
  · subst hs3
    refine s_tswIn (pc := 1) (tgt := 64) dX12_has_1 (by decide) (by decide) rfl (by decide) ?_
    exact t_X12_has_B64 N a1 μ
  refine s_ite (fun hs4 => ?_) (fun hs4 => ?_)
  · subst hs4
    refine s_tswIn (pc := 1) (tgt := 64) dX12_has_1 (by decide) (by decide) rfl (by decide) ?_
    exact t_X12_has_B64 N a1 μ
  refine s_ite (fun hs5 => ?_) (fun hs5 => ?_)
  · subst hs5
    refine s_tswIn (pc := 1) (tgt := 64) dX12_has_1 (by decide) (by decide) rfl (by decide) ?_
    exact t_X12_has_B64 N a1 μ
  refine s_ite (fun hs6 => ?_) (fun hs6 => ?_)
  · subst hs6
    refine s_tswIn (pc := 1) (tgt := 73) dX12_has_1 (by decide) (by decide) rfl (by decide) ?_
    refine s_aload_n (pc := 73) 0 dX12_has_73 rfl rfl ?_
    refine s_getR (pc := 74) (ci := 12) (k := 54) (r := 296) dX12_has_74 fl_12_142 kd_253 rfl rs_253_54 ?_
    refine s_iconst (pc := 77) (v := (0 : Int32)) dX12_has_77 (by decide) ?_
    refine s_ialdK (pc := 78) (k := 0) dX12_has_78 kd_296 (by decide) (by decide) (by decide) ?_
    exact s_iret (pc := 79) rfl dX12_has_79 rfl
  refine s_ite (fun hs7 => ?_) (fun hs7 => ?_)
  · subst hs7
    refine s_tswIn (pc := 1) (tgt := 80) dX12_has_1 (by decide) (by decide) rfl (by decide) ?_
    exact t_X12_has_B80 N a1 μ
  refine s_ite (fun hs8 => ?_) (fun hs8 => ?_)
  · subst hs8
    refine s_tswIn (pc := 1) (tgt := 80) dX12_has_1 (by decide) (by decide) rfl (by decide) ?_
    exact t_X12_has_B80 N a1 μ
  refine s_ite (fun hs9 => ?_) (fun hs9 => ?_)
  · subst hs9
    refine s_tswIn (pc := 1) (tgt := 80) dX12_has_1 (by decide) (by decide) rfl (by decide) ?_
    exact t_X12_has_B80 N a1 μ
  refine s_ite (fun hs10 => ?_) (fun hs10 => ?_)
  · subst hs10
    refine s_tswIn (pc := 1) (tgt := 89) dX12_has_1 (by decide) (by decide) rfl (by decide) ?_
    refine s_aload_n (pc := 89) 0 dX12_has_89 rfl rfl ?_
    refine s_callVI (pc := 90) (as := []) (st := []) dX12_has_90 lk_12_494 kd_253 (t_X12_leftAll N μ) (by omega) rfl (by decide) rfl (fun x3 μ_2 => ?_)
    exact s_iret (pc := 93) rfl dX12_has_93 rfl
  refine s_ite (fun hs11 => ?_) (fun hs11 => ?_)
  · subst hs11
    refine s_tswIn (pc := 1) (tgt := 94) dX12_has_1 (by decide) (by decide) rfl (by decide) ?_
    refine s_aload_n (pc := 94) 0 dX12_has_94 rfl rfl ?_
    refine s_getI (pc := 95) (ci := 12) (k := 65) dX12_has_95 fl_12_416 kd_253 rfl ?_
    exact s_iret (pc := 98) rfl dX12_has_98 rfl
  refine s_ite (fun hs12 => ?_) (fun hs12 => ?_)
  · subst hs12
    refine s_tswIn (pc := 1) (tgt := 99) dX12_has_1 (by decide) (by decide) rfl (by decide) ?_
    refine s_aload_n (pc := 99) 0 dX12_has_99 rfl rfl ?_
    refine s_getI (pc := 100) (ci := 12) (k := 68) dX12_has_100 fl_12_413 kd_253 rfl ?_
    exact s_iret (pc := 103) rfl dX12_has_103 rfl
  · have q_hs1 := lv_neT (a := 0) hs1 (by decide)
    have q_hs2 := lv_neT (a := 1) hs2 (by decide)
    have q_hs3 := lv_neT (a := 2) hs3 (by decide)
    have q_hs4 := lv_neT (a := 3) hs4 (by decide)
    have q_hs5 := lv_neT (a := 4) hs5 (by decide)
    have q_hs6 := lv_neT (a := 5) hs6 (by decide)
    have q_hs7 := lv_neT (a := 6) hs7 (by decide)
    have q_hs8 := lv_neT (a := 7) hs8 (by decide)
    have q_hs9 := lv_neT (a := 8) hs9 (by decide)
    have q_hs10 := lv_neT (a := 9) hs10 (by decide)
    have q_hs11 := lv_neT (a := 10) hs11 (by decide)
    have q_hs12 := lv_neT (a := 11) hs12 (by decide)
    refine s_tswOut (pc := 1) (tgt := 104) dX12_has_1 (by omega) (by decide) ?_
    refine s_iconst (pc := 104) (v := (-1 : Int32)) dX12_has_104 (by decide) ?_
    exact s_iret (pc := 105) rfl dX12_has_105 rfl
def b_X12_letter_L69 (N : Nat) (c3 : Int32) (c4 : Int64) (kb : Int32 → Int64 → z_S → Option (Int32 × z_S)) (e90 : Int32 → z_S → Option (Int32 × z_S)) (v6 : Int32) (v7 : Int64) (μ : z_S) : Option (Int32 × z_S) :=
  if (0 : Int64) < v7 then (z_bd (v6 + 1) fun x5 => z_nzJ (27 : Int64) <| z_bd (v7 / (27 : Int64)) fun x6 => kb x5 x6 μ) else e90 v6 μ
theorem tb_X12_letter_L69 (N : Nat) (c3 : Int32) (c4 : Int64) (kb : Int32 → Int64 → z_S → Option (Int32 × z_S)) (e90 : Int32 → z_S → Option (Int32 × z_S)) (hkb : ∀ (a6 : Int32) (a7 : Int64) (μ : z_S), z_sim false rI mX12_letter 1 (kb a6 a7 μ) 69 [(3, .int c3), (4, .long c4), (6, .int a6), (7, .long a7)] [] μ) (he90 : ∀ (a6 : Int32) (μ : z_S), z_sim false rI mX12_letter 1 (e90 a6 μ) 90 [(3, .int c3), (4, .long c4), (6, .int a6)] [] μ) (v6 : Int32) (v7 : Int64) (μ : z_S) : z_sim false rI mX12_letter 1 (b_X12_letter_L69 N c3 c4 kb e90 v6 v7 μ) 69 [(3, .int c3), (4, .long c4), (6, .int v6), (7, .long v7)] [] μ := by
  unfold b_X12_letter_L69
  refine s_lload (pc := 69) 3 dX12_letter_69 rfl ?_
  refine s_lconst (pc := 71) (v := (0 : Int64)) dX12_letter_71 (by decide) ?_
  refine s_lcmp_le (pc := 72) (tgt := 90) dX12_letter_72 dX12_letter_73 (by decide) ?_ ?_
  · refine s_iincB (pc := 76) (lv' := fun x5 => [(6, .int x5), (3, .int c3), (4, .long c4), (7, .long v7)]) (c := 1) 2 dX12_letter_76 rfl (by decide) (by decide) (fun _ => rfl) (fun x5 => ?_)
    refine s_lload (pc := 79) 3 dX12_letter_79 rfl ?_
    refine s_ldc2 (pc := 81) (v := (27 : Int64)) dX12_letter_81 w_1695 ?_
    refine s_ldiv (pc := 84) dX12_letter_84 ?_
    refine s_letJ (fun x6 => ?_)
    refine s_lstore (pc := 85) (lv' := [(7, .long x6), (6, .int x5), (3, .int c3), (4, .long c4)]) dX12_letter_85 (by decide) rfl ?_
    refine s_goto (pc := 87) (tgt := 69) dX12_letter_87 (by decide) ?_
    refine s_sub (lv' := [(3, .int c3), (4, .long c4), (6, .int x5), (7, .long x6)]) [2, 3, 1, 0] rfl ?_
    exact hkb x5 x6 μ
  · refine s_sub (lv' := [(3, .int c3), (4, .long c4), (6, .int v6)]) [0, 1, 2] rfl ?_
    exact he90 v6 μ
def f_X12_letter_L69 (N : Nat) (c3 : Int32) (c4 : Int64) (e90 : Int32 → z_S → Option (Int32 × z_S)) : Nat → Int32 → Int64 → z_S → Option (Int32 × z_S)
  | 0, _, _, _ => none
  | n + 1, v6, v7, μ => b_X12_letter_L69 N c3 c4 (f_X12_letter_L69 N c3 c4 e90 n) e90 v6 v7 μ
theorem t_X12_letter_L69 (N : Nat) (c3 : Int32) (c4 : Int64) (e90 : Int32 → z_S → Option (Int32 × z_S)) (he90 : ∀ (a6 : Int32) (μ : z_S), z_sim false rI mX12_letter 1 (e90 a6 μ) 90 [(3, .int c3), (4, .long c4), (6, .int a6)] [] μ) : ∀ (n : Nat) (v6 : Int32) (v7 : Int64) (μ : z_S), z_sim false rI mX12_letter 1 (f_X12_letter_L69 N c3 c4 e90 n v6 v7 μ) 69 [(3, .int c3), (4, .long c4), (6, .int v6), (7, .long v7)] [] μ
  | 0, _, _, _ => s_none
  | n + 1, v6, v7, μ => tb_X12_letter_L69 N c3 c4 (f_X12_letter_L69 N c3 c4 e90 n) e90 (t_X12_letter_L69 N c3 c4 e90 he90 n) he90 v6 v7 μ
def b_X12_letter_L104 (N : Nat) (c3 : Int32) (kb : Int64 → Int32 → z_S → Option (Int32 × z_S)) (e124 : Int64 → z_S → Option (Int32 × z_S)) (v4 : Int64) (v7 : Int32) (μ : z_S) : Option (Int32 × z_S) :=
  if c3 < v7 then (z_nzJ (27 : Int64) <| z_bd (v4 / (27 : Int64)) fun x8 => z_bd (v7 + (-1)) fun x9 => kb x8 x9 μ) else e124 v4 μ
theorem tb_X12_letter_L104 (N : Nat) (c3 : Int32) (kb : Int64 → Int32 → z_S → Option (Int32 × z_S)) (e124 : Int64 → z_S → Option (Int32 × z_S)) (hkb : ∀ (a4 : Int64) (a7 : Int32) (μ : z_S), z_sim false rI mX12_letter 1 (kb a4 a7 μ) 104 [(3, .int c3), (4, .long a4), (7, .int a7)] [] μ) (he124 : ∀ (a4 : Int64) (μ : z_S), z_sim false rI mX12_letter 1 (e124 a4 μ) 124 [(4, .long a4)] [] μ) (v4 : Int64) (v7 : Int32) (μ : z_S) : z_sim false rI mX12_letter 1 (b_X12_letter_L104 N c3 kb e124 v4 v7 μ) 104 [(3, .int c3), (4, .long v4), (7, .int v7)] [] μ := by
  unfold b_X12_letter_L104
  refine s_iload (pc := 104) 2 dX12_letter_104 rfl ?_
  refine s_iload_n (pc := 106) 0 dX12_letter_106 rfl rfl ?_
  refine s_icmp_le (pc := 107) (tgt := 124) dX12_letter_107 (by decide) ?_ ?_
  · refine s_lload (pc := 110) 1 dX12_letter_110 rfl ?_
    refine s_ldc2 (pc := 112) (v := (27 : Int64)) dX12_letter_112 w_1695 ?_
    refine s_ldiv (pc := 115) dX12_letter_115 ?_
    refine s_letJ (fun x8 => ?_)
    refine s_lstore (pc := 116) (lv' := [(4, .long x8), (3, .int c3), (7, .int v7)]) dX12_letter_116 (by decide) rfl ?_
    refine s_iincB (pc := 118) (lv' := fun x9 => [(7, .int x9), (4, .long x8), (3, .int c3)]) (c := -1) 2 dX12_letter_118 rfl (by decide) (by decide) (fun _ => rfl) (fun x9 => ?_)
    refine s_goto (pc := 121) (tgt := 104) dX12_letter_121 (by decide) ?_
    refine s_sub (lv' := [(3, .int c3), (4, .long x8), (7, .int x9)]) [2, 1, 0] rfl ?_
    exact hkb x8 x9 μ
  · refine s_sub (lv' := [(4, .long v4)]) [1] rfl ?_
    exact he124 v4 μ
def f_X12_letter_L104 (N : Nat) (c3 : Int32) (e124 : Int64 → z_S → Option (Int32 × z_S)) : Nat → Int64 → Int32 → z_S → Option (Int32 × z_S)
  | 0, _, _, _ => none
  | n + 1, v4, v7, μ => b_X12_letter_L104 N c3 (f_X12_letter_L104 N c3 e124 n) e124 v4 v7 μ
theorem t_X12_letter_L104 (N : Nat) (c3 : Int32) (e124 : Int64 → z_S → Option (Int32 × z_S)) (he124 : ∀ (a4 : Int64) (μ : z_S), z_sim false rI mX12_letter 1 (e124 a4 μ) 124 [(4, .long a4)] [] μ) : ∀ (n : Nat) (v4 : Int64) (v7 : Int32) (μ : z_S), z_sim false rI mX12_letter 1 (f_X12_letter_L104 N c3 e124 n v4 v7 μ) 104 [(3, .int c3), (4, .long v4), (7, .int v7)] [] μ
  | 0, _, _, _ => s_none
  | n + 1, v4, v7, μ => tb_X12_letter_L104 N c3 (f_X12_letter_L104 N c3 e124 n) e124 (t_X12_letter_L104 N c3 e124 he124 n) he124 v4 v7 μ
def f_X12_letter (N : Nat) (a1 : Int32) (a2 : Int32) (a3 : Int32) (μ : z_S) : Option (Int32 × z_S) :=
  z_bn (f_X12_isIn N a1.toInt64 (0 : Int64) (2 : Int64) μ) fun x1 μ_1 => if x1 = 0 then (some ((-1 : Int32), μ_1)) else z_in ((5 : Int32) + a1) 10 <| z_bn (f_X12_isIn N a2.toInt64 (0 : Int64) (((μ_1.1 284 ((5 : Int32) + a1).toNatClampNeg) - (1 : Int32)).toInt64) μ_1) fun x2 μ_2 => if x2 = 0 then (some ((-1 : Int32), μ_2)) else z_bn (f_X12_isIn N a3.toInt64 (0 : Int64) (5 : Int64) μ_2) fun x3 μ_3 => if x3 = 0 then (some ((-1 : Int32), μ_3)) else z_in (((24 : Int32) + ((8 : Int32) * a1)) + a2) 48 <| z_bd (μ_3.2.1 285 (((24 : Int32) + ((8 : Int32) * a1)) + a2).toNatClampNeg) fun x4 => f_X12_letter_L69 N a3 x4 (fun y90_6 μ90 => if a3 < y90_6 then (z_bd (y90_6 - (1 : Int32)) fun x7 => f_X12_letter_L104 N a3 (fun y124_4 μ124 => z_nzJ (27 : Int64) <| some ((y124_4 - y124_4 / (27 : Int64) * (27 : Int64)).toInt32, μ124)) N x4 x7 μ90) else some ((0 : Int32), μ90)) N (0 : Int32) x4 μ_3
theorem t_X12_letter (N : Nat) (a1 : Int32) (a2 : Int32) (a3 : Int32) (μ : z_S) : z_met false rI mX12_letter 1 [.ref 253, .int a1, .int a2, .int a3] μ (f_X12_letter N a1 a2 a3 μ) := by
  refine z_met.of (by decide +kernel) (by show _ ≤ _; first | decide | exact Nat.le_of_ble_eq_true rfl) (lv := [(0, .ref 253), (1, .int a1), (2, .int a2), (3, .int a3)]) rfl ?_
  unfold f_X12_letter
  refine s_iload_n (pc := 0) 1 dX12_letter_0 rfl rfl ?_
  refine s_i2l (pc := 1) dX12_letter_1 ?_
  refine s_lconst (pc := 2) (v := (0 : Int64)) dX12_letter_2 (by decide) ?_
  refine s_ldc2 (pc := 3) (v := (2 : Int64)) dX12_letter_3 w_1858 ?_
  refine s_callSI (pc := 6) (as := [.long a1.toInt64, .long (0 : Int64), .long (2 : Int64)]) (st := []) dX12_letter_6 lk_12_303 (t_X12_isIn N a1.toInt64 (0 : Int64) (2 : Int64) μ) (by omega) rfl (by decide) rfl (fun x1 μ_1 => ?_)
  refine s_if_eq (pc := 9) (tgt := 44) dX12_letter_9 (by decide) ?_ ?_
  · refine s_iconst (pc := 44) (v := (-1 : Int32)) dX12_letter_44 (by decide) ?_
    exact s_iret (pc := 45) rfl dX12_letter_45 rfl
  · refine s_iload_n (pc := 12) 2 dX12_letter_12 rfl rfl ?_
    refine s_i2l (pc := 13) dX12_letter_13 ?_
    refine s_lconst (pc := 14) (v := (0 : Int64)) dX12_letter_14 (by decide) ?_
    refine s_aload_n (pc := 15) 0 dX12_letter_15 rfl rfl ?_
    refine s_getR (pc := 16) (ci := 12) (k := 39) (r := 284) dX12_letter_16 fl_12_105 kd_253 rfl rs_253_39 ?_
    refine s_iconst (pc := 19) (v := (5 : Int32)) dX12_letter_19 (by decide) ?_
    refine s_iload_n (pc := 20) 1 dX12_letter_20 rfl rfl ?_
    refine s_iadd (pc := 21) dX12_letter_21 ?_
    refine s_iald (pc := 22) dX12_letter_22 kd_284 ?_
    refine s_iconst (pc := 23) (v := (1 : Int32)) dX12_letter_23 (by decide) ?_
    refine s_isub (pc := 24) dX12_letter_24 ?_
    refine s_i2l (pc := 25) dX12_letter_25 ?_
    refine s_callSI (pc := 26) (as := [.long a2.toInt64, .long (0 : Int64), .long ((μ_1.1 284 ((5 : Int32) + a1).toNatClampNeg) - (1 : Int32)).toInt64]) (st := []) dX12_letter_26 lk_12_303 (t_X12_isIn N a2.toInt64 (0 : Int64) (((μ_1.1 284 ((5 : Int32) + a1).toNatClampNeg) - (1 : Int32)).toInt64) μ_1) (by omega) rfl (by decide) rfl (fun x2 μ_2 => ?_)
    refine s_if_eq (pc := 29) (tgt := 44) dX12_letter_29 (by decide) ?_ ?_
    · refine s_iconst (pc := 44) (v := (-1 : Int32)) dX12_letter_44 (by decide) ?_
      exact s_iret (pc := 45) rfl dX12_letter_45 rfl
    · refine s_iload_n (pc := 32) 3 dX12_letter_32 rfl rfl ?_
      refine s_i2l (pc := 33) dX12_letter_33 ?_
      refine s_lconst (pc := 34) (v := (0 : Int64)) dX12_letter_34 (by decide) ?_
      refine s_ldc2 (pc := 35) (v := (5 : Int64)) dX12_letter_35 w_1859 ?_
      refine s_callSI (pc := 38) (as := [.long a3.toInt64, .long (0 : Int64), .long (5 : Int64)]) (st := []) dX12_letter_38 lk_12_303 (t_X12_isIn N a3.toInt64 (0 : Int64) (5 : Int64) μ_2) (by omega) rfl (by decide) rfl (fun x3 μ_3 => ?_)
      refine s_if_ne (pc := 41) (tgt := 46) dX12_letter_41 (by decide) ?_ ?_
      · refine s_iconst (pc := 44) (v := (-1 : Int32)) dX12_letter_44 (by decide) ?_
        exact s_iret (pc := 45) rfl dX12_letter_45 rfl
      · refine s_aload_n (pc := 46) 0 dX12_letter_46 rfl rfl ?_
        refine s_getR (pc := 47) (ci := 12) (k := 40) (r := 285) dX12_letter_47 fl_12_108 kd_253 rfl rs_253_40 ?_
        refine s_bipush (pc := 50) (v := (24 : Int32)) dX12_letter_50 (by decide) ?_
        refine s_bipush (pc := 52) (v := (8 : Int32)) dX12_letter_52 (by decide) ?_
        refine s_iload_n (pc := 54) 1 dX12_letter_54 rfl rfl ?_
        refine s_imul (pc := 55) dX12_letter_55 ?_
        refine s_iadd (pc := 56) dX12_letter_56 ?_
        refine s_iload_n (pc := 57) 2 dX12_letter_57 rfl rfl ?_
        refine s_iadd (pc := 58) dX12_letter_58 ?_
        refine s_lald (pc := 59) dX12_letter_59 kd_285 ?_
        refine s_letJ (fun x4 => ?_)
        refine s_lstore (pc := 60) (lv' := [(4, .long x4), (0, .ref 253), (1, .int a1), (2, .int a2), (3, .int a3)]) dX12_letter_60 (by decide) rfl ?_
        refine s_iconst (pc := 62) (v := (0 : Int32)) dX12_letter_62 (by decide) ?_
        refine s_istore (pc := 63) (lv' := [(6, .int (0 : Int32)), (4, .long x4), (0, .ref 253), (1, .int a1), (2, .int a2), (3, .int a3)]) dX12_letter_63 (by decide) rfl ?_
        refine s_lload (pc := 65) 1 dX12_letter_65 rfl ?_
        refine s_lstore (pc := 67) (lv' := [(7, .long x4), (6, .int (0 : Int32)), (4, .long x4), (0, .ref 253), (1, .int a1), (2, .int a2), (3, .int a3)]) dX12_letter_67 (by decide) rfl ?_
        refine s_sub (lv' := [(3, .int a3), (4, .long x4), (6, .int (0 : Int32)), (7, .long x4)]) [6, 2, 1, 0] rfl ?_
        refine t_X12_letter_L69 N a3 x4 _ ?_ N (0 : Int32) x4 μ_3
        · intro y90_6 μ90
          refine s_iload_n (pc := 90) 0 dX12_letter_90 rfl rfl ?_
          refine s_iload (pc := 91) 2 dX12_letter_91 rfl ?_
          refine s_icmp_lt (pc := 93) (tgt := 98) dX12_letter_93 (by decide) ?_ ?_
          · refine s_iload (pc := 98) 2 dX12_letter_98 rfl ?_
            refine s_iconst (pc := 100) (v := (1 : Int32)) dX12_letter_100 (by decide) ?_
            refine s_isub (pc := 101) dX12_letter_101 ?_
            refine s_letI (fun x7 => ?_)
            refine s_istore (pc := 102) (lv' := [(7, .int x7), (3, .int a3), (4, .long x4), (6, .int y90_6)]) dX12_letter_102 (by decide) rfl ?_
            refine s_sub (lv' := [(3, .int a3), (4, .long x4), (7, .int x7)]) [1, 2, 0] rfl ?_
            refine t_X12_letter_L104 N a3 _ ?_ N x4 x7 μ90
            · intro y124_4 μ124
              refine s_lload (pc := 124) 0 dX12_letter_124 rfl ?_
              refine s_ldc2 (pc := 126) (v := (27 : Int64)) dX12_letter_126 w_1695 ?_
              refine s_lrem (pc := 129) dX12_letter_129 ?_
              refine s_l2i (pc := 130) dX12_letter_130 ?_
              exact s_iret (pc := 131) rfl dX12_letter_131 rfl
          · refine s_iconst (pc := 96) (v := (0 : Int32)) dX12_letter_96 (by decide) ?_
            exact s_iret (pc := 97) rfl dX12_letter_97 rfl
def f_X12_mail_B56 (N : Nat)  (v1 : Int32) (v2 : Int32) (μ : z_S) : Option (Int32 × z_S) :=
  z_in (((24 : Int32) + ((3 : Int32) * v1)) + v2) 48 <| some ((μ.1 286 (((24 : Int32) + ((3 : Int32) * v1)) + v2).toNatClampNeg), μ)
theorem t_X12_mail_B56 (N : Nat)     (v1 : Int32) (v2 : Int32)  (μ : z_S) : z_sim false rI mX12_mail 2 (f_X12_mail_B56 N   v1 v2 μ) 56 [(0, .ref 253), (1, .int v1), (2, .int v2)] [] μ := by
  unfold f_X12_mail_B56
  refine s_aload_n (pc := 56) 0 dX12_mail_56 rfl rfl ?_
  refine s_getR (pc := 57) (ci := 12) (k := 41) (r := 286) dX12_mail_57 fl_12_112 kd_253 rfl rs_253_41 ?_
  refine s_bipush (pc := 60) (v := (24 : Int32)) dX12_mail_60 (by decide) ?_
  refine s_iconst (pc := 62) (v := (3 : Int32)) dX12_mail_62 (by decide) ?_
  refine s_iload_n (pc := 63) 1 dX12_mail_63 rfl rfl ?_
  refine s_imul (pc := 64) dX12_mail_64 ?_
  refine s_iadd (pc := 65) dX12_mail_65 ?_
  refine s_iload_n (pc := 66) 2 dX12_mail_66 rfl rfl ?_
  refine s_iadd (pc := 67) dX12_mail_67 ?_
  refine s_iald (pc := 68) dX12_mail_68 kd_286 ?_
  exact s_iret (pc := 69) rfl dX12_mail_69 rfl
def f_X12_mail (N : Nat) (a1 : Int32) (a2 : Int32) (μ : z_S) : Option (Int32 × z_S) :=
  z_bn (f_X12_isMail N a1 μ) fun x1 μ_1 => if x1 = 0 then (some ((-1 : Int32), μ_1)) else z_bd a2 fun x2 => if x2 = 0 then (f_X12_mail_B56 N a1 a2 μ_1) else if x2 = 1 then (f_X12_mail_B56 N a1 a2 μ_1) else if x2 = 2 then (f_X12_mail_B56 N a1 a2 μ_1) else if x2 = 3 then (z_bn (f_X12_doneOf N a1 μ_1) fun x3 μ_2 => some ((x3 - (1 : Int32)), μ_2)) else if x2 = 4 then (z_bn (f_X12_sheetOf N a1 μ_1) fun x4 μ_3 => some (x4, μ_3)) else if x2 = 5 then (z_bn (f_X12_giftOf N a1 μ_1) fun x5 μ_4 => some ((x5 - (1 : Int32)), μ_4)) else if x2 = 6 then (z_bn (f_X12_wishesOf N a1 μ_1) fun x6 μ_5 => some (x6, μ_5)) else if x2 = 7 then (z_in ((8 : Int32) + a1) 16 <| some ((μ_1.1 289 ((8 : Int32) + a1).toNatClampNeg), μ_1)) else some ((-1 : Int32), μ_1)
theorem t_X12_mail (N : Nat) (a1 : Int32) (a2 : Int32) (μ : z_S) : z_met false rI mX12_mail 2 [.ref 253, .int a1, .int a2] μ (f_X12_mail N a1 a2 μ) := by
  refine z_met.of (by decide +kernel) (by show _ ≤ _; first | decide | exact Nat.le_of_ble_eq_true rfl) (lv := [(0, .ref 253), (1, .int a1), (2, .int a2)]) rfl ?_
  unfold f_X12_mail
  refine s_aload_n (pc := 0) 0 dX12_mail_0 rfl rfl ?_
  refine s_iload_n (pc := 1) 1 dX12_mail_1 rfl rfl ?_
  refine s_callVI (pc := 2) (as := [.int a1]) (st := []) dX12_mail_2 lk_12_501 kd_253 (t_X12_isMail N a1 μ) (by omega) rfl (by decide) rfl (fun x1 μ_1 => ?_)
  refine s_if_ne (pc := 5) (tgt := 10) dX12_mail_5 (by decide) ?_ ?_
  · refine s_iconst (pc := 8) (v := (-1 : Int32)) dX12_mail_8 (by decide) ?_
    exact s_iret (pc := 9) rfl dX12_mail_9 rfl
  · refine s_iload_n (pc := 10) 2 dX12_mail_10 rfl rfl ?_
    refine s_letI (fun x2 => ?_)
    refine s_ite (fun hs1 => ?_) (fun hs1 => ?_)
    · subst hs1
      refine s_tswIn (pc := 11) (tgt := 56) dX12_mail_11 (by decide) (by decide) rfl (by decide) ?_
      exact t_X12_mail_B56 N a1 a2 μ_1
    refine s_ite (fun hs2 => ?_) (fun hs2 => ?_)
    · subst hs2
      refine s_tswIn (pc := 11) (tgt := 56) dX12_mail_11 (by decide) (by decide) rfl (by decide) ?_
      exact t_X12_mail_B56 N a1 a2 μ_1
    refine s_ite (fun hs3 => ?_) (fun hs3 => ?_)
    · subst hs3
      refine s_tswIn (pc := 11) (tgt := 56) dX12_mail_11 (by decide) (by decide) rfl (by decide) ?_
      exact t_X12_mail_B56 N a1 a2 μ_1
    refine s_ite (fun hs4 => ?_) (fun hs4 => ?_)
    · subst hs4
      refine s_tswIn (pc := 11) (tgt := 70) dX12_mail_11 (by decide) (by decide) rfl (by decide) ?_
      refine s_aload_n (pc := 70) 0 dX12_mail_70 rfl rfl ?_
      refine s_iload_n (pc := 71) 1 dX12_mail_71 rfl rfl ?_
      refine s_callVI (pc := 72) (as := [.int a1]) (st := []) dX12_mail_72 lk_12_451 kd_253 (t_X12_doneOf N a1 μ_1) (by omega) rfl (by decide) rfl (fun x3 μ_2 => ?_)
      refine s_iconst (pc := 75) (v := (1 : Int32)) dX12_mail_75 (by decide) ?_
      refine s_isub (pc := 76) dX12_mail_76 ?_
      exact s_iret (pc := 77) rfl dX12_mail_77 rfl
    refine s_ite (fun hs5 => ?_) (fun hs5 => ?_)
    · subst hs5
      refine s_tswIn (pc := 11) (tgt := 78) dX12_mail_11 (by decide) (by decide) rfl (by decide) ?_
      refine s_aload_n (pc := 78) 0 dX12_mail_78 rfl rfl ?_
      refine s_iload_n (pc := 79) 1 dX12_mail_79 rfl rfl ?_
      refine s_callVI (pc := 80) (as := [.int a1]) (st := []) dX12_mail_80 lk_12_504 kd_253 (t_X12_sheetOf N a1 μ_1) (by omega) rfl (by decide) rfl (fun x4 μ_3 => ?_)
      exact s_iret (pc := 83) rfl dX12_mail_83 rfl
    refine s_ite (fun hs6 => ?_) (fun hs6 => ?_)
    · subst hs6
      refine s_tswIn (pc := 11) (tgt := 84) dX12_mail_11 (by decide) (by decide) rfl (by decide) ?_
      refine s_aload_n (pc := 84) 0 dX12_mail_84 rfl rfl ?_
      refine s_iload_n (pc := 85) 1 dX12_mail_85 rfl rfl ?_
      refine s_callVI (pc := 86) (as := [.int a1]) (st := []) dX12_mail_86 lk_12_507 kd_253 (t_X12_giftOf N a1 μ_1) (by omega) rfl (by decide) rfl (fun x5 μ_4 => ?_)
      refine s_iconst (pc := 89) (v := (1 : Int32)) dX12_mail_89 (by decide) ?_
      refine s_isub (pc := 90) dX12_mail_90 ?_
      exact s_iret (pc := 91) rfl dX12_mail_91 rfl
    refine s_ite (fun hs7 => ?_) (fun hs7 => ?_)
    · subst hs7
      refine s_tswIn (pc := 11) (tgt := 92) dX12_mail_11 (by decide) (by decide) rfl (by decide) ?_
      refine s_aload_n (pc := 92) 0 dX12_mail_92 rfl rfl ?_
      refine s_iload_n (pc := 93) 1 dX12_mail_93 rfl rfl ?_
      refine s_callVI (pc := 94) (as := [.int a1]) (st := []) dX12_mail_94 lk_12_510 kd_253 (t_X12_wishesOf N a1 μ_1) (by omega) rfl (by decide) rfl (fun x6 μ_5 => ?_)
      exact s_iret (pc := 97) rfl dX12_mail_97 rfl
    refine s_ite (fun hs8 => ?_) (fun hs8 => ?_)
    · subst hs8
      refine s_tswIn (pc := 11) (tgt := 98) dX12_mail_11 (by decide) (by decide) rfl (by decide) ?_
      refine s_aload_n (pc := 98) 0 dX12_mail_98 rfl rfl ?_
      refine s_getR (pc := 99) (ci := 12) (k := 44) (r := 289) dX12_mail_99 fl_12_121 kd_253 rfl rs_253_44 ?_
      refine s_bipush (pc := 102) (v := (8 : Int32)) dX12_mail_102 (by decide) ?_
      refine s_iload_n (pc := 104) 1 dX12_mail_104 rfl rfl ?_
      refine s_iadd (pc := 105) dX12_mail_105 ?_
      refine s_iald (pc := 106) dX12_mail_106 kd_289 ?_
      exact s_iret (pc := 107) rfl dX12_mail_107 rfl
    · have q_hs1 := lv_neT (a := 0) hs1 (by decide)
      have q_hs2 := lv_neT (a := 1) hs2 (by decide)
      have q_hs3 := lv_neT (a := 2) hs3 (by decide)
      have q_hs4 := lv_neT (a := 3) hs4 (by decide)
      have q_hs5 := lv_neT (a := 4) hs5 (by decide)
      have q_hs6 := lv_neT (a := 5) hs6 (by decide)
      have q_hs7 := lv_neT (a := 6) hs7 (by decide)
      have q_hs8 := lv_neT (a := 7) hs8 (by decide)
      refine s_tswOut (pc := 11) (tgt := 108) dX12_mail_11 (by omega) (by decide) ?_
      refine s_iconst (pc := 108) (v := (-1 : Int32)) dX12_mail_108 (by decide) ?_
      exact s_iret (pc := 109) rfl dX12_mail_109 rfl
def f_X12_gift_B37 (N : Nat)  (v1 : Int32) (v2 : Int32) (μ : z_S) : Option (Int32 × z_S) :=
  if v2 = 0 then (z_in ((4 : Int32) + v1) 32 <| some ((μ.1 296 ((4 : Int32) + v1).toNatClampNeg), μ)) else some ((-1 : Int32), μ)
theorem t_X12_gift_B37 (N : Nat)     (v1 : Int32) (v2 : Int32)  (μ : z_S) : z_sim false rI mX12_gift 2 (f_X12_gift_B37 N   v1 v2 μ) 37 [(0, .ref 253), (1, .int v1), (2, .int v2)] [] μ := by
  unfold f_X12_gift_B37
  refine s_iload_n (pc := 37) 2 dX12_gift_37 rfl rfl ?_
  refine s_if_ne (pc := 38) (tgt := 52) dX12_gift_38 (by decide) ?_ ?_
  · refine s_aload_n (pc := 41) 0 dX12_gift_41 rfl rfl ?_
    refine s_getR (pc := 42) (ci := 12) (k := 54) (r := 296) dX12_gift_42 fl_12_142 kd_253 rfl rs_253_54 ?_
    refine s_iconst (pc := 45) (v := (4 : Int32)) dX12_gift_45 (by decide) ?_
    refine s_iload_n (pc := 46) 1 dX12_gift_46 rfl rfl ?_
    refine s_iadd (pc := 47) dX12_gift_47 ?_
    refine s_iald (pc := 48) dX12_gift_48 kd_296 ?_
    refine s_goto (pc := 49) (tgt := 53) dX12_gift_49 (by decide) ?_
    exact s_iret (pc := 53) rfl dX12_gift_53 rfl
  · refine s_iconst (pc := 52) (v := (-1 : Int32)) dX12_gift_52 (by decide) ?_
    exact s_iret (pc := 53) rfl dX12_gift_53 rfl
def f_X12_gift (N : Nat) (a1 : Int32) (a2 : Int32) (μ : z_S) : Option (Int32 × z_S) :=
  z_bn (f_X12_isGift N a1 μ) fun x1 μ_1 => if x1 = 0 then (some ((-1 : Int32), μ_1)) else if a2 < (10 : Int32) then (f_X12_gift_B37 N a1 a2 μ_1) else z_bn (f_X12_isMail N (a2 - (10 : Int32)) μ_1) fun x2 μ_2 => if x2 = 0 then (f_X12_gift_B37 N a1 a2 μ_2) else z_bn (f_X12_wishOf N (a2 - (10 : Int32)) a1 μ_2) fun x3 μ_3 => some (x3, μ_3)
theorem t_X12_gift (N : Nat) (a1 : Int32) (a2 : Int32) (μ : z_S) : z_met false rI mX12_gift 2 [.ref 253, .int a1, .int a2] μ (f_X12_gift N a1 a2 μ) := by
  refine z_met.of (by decide +kernel) (by show _ ≤ _; first | decide | exact Nat.le_of_ble_eq_true rfl) (lv := [(0, .ref 253), (1, .int a1), (2, .int a2)]) rfl ?_
  unfold f_X12_gift
  refine s_aload_n (pc := 0) 0 dX12_gift_0 rfl rfl ?_
  refine s_iload_n (pc := 1) 1 dX12_gift_1 rfl rfl ?_
  refine s_callVI (pc := 2) (as := [.int a1]) (st := []) dX12_gift_2 lk_12_513 kd_253 (t_X12_isGift N a1 μ) (by omega) rfl (by decide) rfl (fun x1 μ_1 => ?_)
  refine s_if_ne (pc := 5) (tgt := 10) dX12_gift_5 (by decide) ?_ ?_
  · refine s_iconst (pc := 8) (v := (-1 : Int32)) dX12_gift_8 (by decide) ?_
    exact s_iret (pc := 9) rfl dX12_gift_9 rfl
  · refine s_iload_n (pc := 10) 2 dX12_gift_10 rfl rfl ?_
    refine s_bipush (pc := 11) (v := (10 : Int32)) dX12_gift_11 (by decide) ?_
    refine s_icmp_lt (pc := 13) (tgt := 37) dX12_gift_13 (by decide) ?_ ?_
    · exact t_X12_gift_B37 N a1 a2 μ_1
    · refine s_aload_n (pc := 16) 0 dX12_gift_16 rfl rfl ?_
      refine s_iload_n (pc := 17) 2 dX12_gift_17 rfl rfl ?_
      refine s_bipush (pc := 18) (v := (10 : Int32)) dX12_gift_18 (by decide) ?_
      refine s_isub (pc := 20) dX12_gift_20 ?_
      refine s_callVI (pc := 21) (as := [.int (a2 - (10 : Int32))]) (st := []) dX12_gift_21 lk_12_501 kd_253 (t_X12_isMail N (a2 - (10 : Int32)) μ_1) (by omega) rfl (by decide) rfl (fun x2 μ_2 => ?_)
      refine s_if_eq (pc := 24) (tgt := 37) dX12_gift_24 (by decide) ?_ ?_
      · exact t_X12_gift_B37 N a1 a2 μ_2
      · refine s_aload_n (pc := 27) 0 dX12_gift_27 rfl rfl ?_
        refine s_iload_n (pc := 28) 2 dX12_gift_28 rfl rfl ?_
        refine s_bipush (pc := 29) (v := (10 : Int32)) dX12_gift_29 (by decide) ?_
        refine s_isub (pc := 31) dX12_gift_31 ?_
        refine s_iload_n (pc := 32) 1 dX12_gift_32 rfl rfl ?_
        refine s_callVI (pc := 33) (as := [.int (a2 - (10 : Int32)), .int a1]) (st := []) dX12_gift_33 lk_12_425 kd_253 (t_X12_wishOf N (a2 - (10 : Int32)) a1 μ_2) (by omega) rfl (by decide) rfl (fun x3 μ_3 => ?_)
        exact s_iret (pc := 36) rfl dX12_gift_36 rfl
def f_X12_helper_B43 (N : Nat) (c1 : Int32) (c2 : Int32) (kb : Int32 → Int32 → z_S → Option (Int32 × z_S)) (e49 : Int32 → z_S → Option (Int32 × z_S)) (v3 : Int32) (v4 : Int32) (μ : z_S) : Option (Int32 × z_S) :=
  z_bd (v4 + 1) fun x5 => kb v3 x5 μ
theorem t_X12_helper_B43 (N : Nat) (c1 : Int32) (c2 : Int32)  (kb : Int32 → Int32 → z_S → Option (Int32 × z_S)) (e49 : Int32 → z_S → Option (Int32 × z_S)) (hkb : ∀ (a3 : Int32) (a4 : Int32) (μ : z_S), z_sim false rI mX12_helper 2 (kb a3 a4 μ) 15 [(0, .ref 253), (1, .int c1), (2, .int c2), (3, .int a3), (4, .int a4)] [] μ) (he49 : ∀ (a3 : Int32) (μ : z_S), z_sim false rI mX12_helper 2 (e49 a3 μ) 49 [(0, .ref 253), (1, .int c1), (2, .int c2), (3, .int a3)] [] μ) (v3 : Int32) (v4 : Int32)  (μ : z_S) : z_sim false rI mX12_helper 2 (f_X12_helper_B43 N c1 c2 kb e49 v3 v4 μ) 43 [(0, .ref 253), (1, .int c1), (2, .int c2), (3, .int v3), (4, .int v4)] [] μ := by
  unfold f_X12_helper_B43
  refine s_iincB (pc := 43) (lv' := fun x5 => [(4, .int x5), (0, .ref 253), (1, .int c1), (2, .int c2), (3, .int v3)]) (c := 1) 4 dX12_helper_43 rfl (by decide) (by decide) (fun _ => rfl) (fun x5 => ?_)
  refine s_goto (pc := 46) (tgt := 15) dX12_helper_46 (by decide) ?_
  refine s_sub (lv' := [(0, .ref 253), (1, .int c1), (2, .int c2), (3, .int v3), (4, .int x5)]) [1, 2, 3, 4, 0] rfl ?_
  exact hkb v3 x5 μ
def b_X12_helper_L15 (N : Nat) (c1 : Int32) (c2 : Int32) (kb : Int32 → Int32 → z_S → Option (Int32 × z_S)) (e49 : Int32 → z_S → Option (Int32 × z_S)) (v3 : Int32) (v4 : Int32) (μ : z_S) : Option (Int32 × z_S) :=
  z_bn (f_X12_letterMany N μ) fun x2 μ_2 => if v4 < x2 then (z_bn (f_X12_doneOf N v4 μ_2) fun x3 μ_3 => if x3 = (c1 + (1 : Int32)) then (z_bd (v3 ||| ((1 : Int32) <<< (v4 &&& 31))) fun x4 => f_X12_helper_B43 N c1 c2 kb e49 x4 v4 μ_3) else f_X12_helper_B43 N c1 c2 kb e49 v3 v4 μ_3) else e49 v3 μ_2
theorem tb_X12_helper_L15 (N : Nat) (c1 : Int32) (c2 : Int32) (kb : Int32 → Int32 → z_S → Option (Int32 × z_S)) (e49 : Int32 → z_S → Option (Int32 × z_S)) (hkb : ∀ (a3 : Int32) (a4 : Int32) (μ : z_S), z_sim false rI mX12_helper 2 (kb a3 a4 μ) 15 [(0, .ref 253), (1, .int c1), (2, .int c2), (3, .int a3), (4, .int a4)] [] μ) (he49 : ∀ (a3 : Int32) (μ : z_S), z_sim false rI mX12_helper 2 (e49 a3 μ) 49 [(0, .ref 253), (1, .int c1), (2, .int c2), (3, .int a3)] [] μ) (v3 : Int32) (v4 : Int32) (μ : z_S) : z_sim false rI mX12_helper 2 (b_X12_helper_L15 N c1 c2 kb e49 v3 v4 μ) 15 [(0, .ref 253), (1, .int c1), (2, .int c2), (3, .int v3), (4, .int v4)] [] μ := by
  unfold b_X12_helper_L15
  refine s_iload (pc := 15) 4 dX12_helper_15 rfl ?_
  refine s_aload_n (pc := 17) 0 dX12_helper_17 rfl rfl ?_
  refine s_callVI (pc := 18) (as := []) (st := [.int v4]) dX12_helper_18 lk_12_419 kd_253 (t_X12_letterMany N μ) (by omega) rfl (Nat.le_of_ble_eq_true rfl) rfl (fun x2 μ_2 => ?_)
  refine s_icmp_ge (pc := 21) (tgt := 49) dX12_helper_21 (by decide) ?_ ?_
  · refine s_aload_n (pc := 24) 0 dX12_helper_24 rfl rfl ?_
    refine s_iload (pc := 25) 4 dX12_helper_25 rfl ?_
    refine s_callVI (pc := 27) (as := [.int v4]) (st := []) dX12_helper_27 lk_12_451 kd_253 (t_X12_doneOf N v4 μ_2) (by omega) rfl (by decide) rfl (fun x3 μ_3 => ?_)
    refine s_iload_n (pc := 30) 1 dX12_helper_30 rfl rfl ?_
    refine s_iconst (pc := 31) (v := (1 : Int32)) dX12_helper_31 (by decide) ?_
    refine s_iadd (pc := 32) dX12_helper_32 ?_
    refine s_icmp_ne (pc := 33) (tgt := 43) dX12_helper_33 (by decide) ?_ ?_
    · refine s_iload_n (pc := 36) 3 dX12_helper_36 rfl rfl ?_
      refine s_iconst (pc := 37) (v := (1 : Int32)) dX12_helper_37 (by decide) ?_
      refine s_iload (pc := 38) 4 dX12_helper_38 rfl ?_
      refine s_ishl (pc := 40) dX12_helper_40 ?_
      refine s_ior (pc := 41) dX12_helper_41 ?_
      refine s_letI (fun x4 => ?_)
      refine s_istore_n (pc := 42) (lv' := [(3, .int x4), (0, .ref 253), (1, .int c1), (2, .int c2), (4, .int v4)]) dX12_helper_42 rfl (by decide) rfl ?_
      refine s_sub (lv' := [(0, .ref 253), (1, .int c1), (2, .int c2), (3, .int x4), (4, .int v4)]) [1, 2, 3, 0, 4] rfl ?_
      exact t_X12_helper_B43 N c1 c2 kb e49 hkb he49 x4 v4 μ_3
    · exact t_X12_helper_B43 N c1 c2 kb e49 hkb he49 v3 v4 μ_3
  · refine s_sub (lv' := [(0, .ref 253), (1, .int c1), (2, .int c2), (3, .int v3)]) [0, 1, 2, 3] rfl ?_
    exact he49 v3 μ_2
def f_X12_helper_L15 (N : Nat) (c1 : Int32) (c2 : Int32) (e49 : Int32 → z_S → Option (Int32 × z_S)) : Nat → Int32 → Int32 → z_S → Option (Int32 × z_S)
  | 0, _, _, _ => none
  | n + 1, v3, v4, μ => b_X12_helper_L15 N c1 c2 (f_X12_helper_L15 N c1 c2 e49 n) e49 v3 v4 μ
theorem t_X12_helper_L15 (N : Nat) (c1 : Int32) (c2 : Int32) (e49 : Int32 → z_S → Option (Int32 × z_S)) (he49 : ∀ (a3 : Int32) (μ : z_S), z_sim false rI mX12_helper 2 (e49 a3 μ) 49 [(0, .ref 253), (1, .int c1), (2, .int c2), (3, .int a3)] [] μ) : ∀ (n : Nat) (v3 : Int32) (v4 : Int32) (μ : z_S), z_sim false rI mX12_helper 2 (f_X12_helper_L15 N c1 c2 e49 n v3 v4 μ) 15 [(0, .ref 253), (1, .int c1), (2, .int c2), (3, .int v3), (4, .int v4)] [] μ
  | 0, _, _, _ => s_none
  | n + 1, v3, v4, μ => tb_X12_helper_L15 N c1 c2 (f_X12_helper_L15 N c1 c2 e49 n) e49 (t_X12_helper_L15 N c1 c2 e49 he49 n) he49 v3 v4 μ
def f_X12_helper (N : Nat) (a1 : Int32) (a2 : Int32) (μ : z_S) : Option (Int32 × z_S) :=
  z_bn (f_X12_isHelper N a1 μ) fun x1 μ_1 => if x1 = 0 then (some ((-1 : Int32), μ_1)) else f_X12_helper_L15 N a1 a2 (fun y49_3 μ49 => z_bn (f_X12_isIn N a2.toInt64 (0 : Int64) (2 : Int64) μ49) fun x6 μ_4 => if x6 = 0 then (if a2 = (3 : Int32) then (z_bn (f_X12_leftOf N a1 μ_4) fun x7 μ_5 => some (x7, μ_5)) else if a2 = (4 : Int32) then (some (y49_3, μ_4)) else some ((-1 : Int32), μ_4)) else z_in (((9 : Int32) + ((3 : Int32) * a1)) + a2) 18 <| some ((μ_4.1 291 (((9 : Int32) + ((3 : Int32) * a1)) + a2).toNatClampNeg), μ_4)) N (0 : Int32) (0 : Int32) μ_1
theorem t_X12_helper (N : Nat) (a1 : Int32) (a2 : Int32) (μ : z_S) : z_met false rI mX12_helper 2 [.ref 253, .int a1, .int a2] μ (f_X12_helper N a1 a2 μ) := by
  refine z_met.of (by decide +kernel) (by show _ ≤ _; first | decide | exact Nat.le_of_ble_eq_true rfl) (lv := [(0, .ref 253), (1, .int a1), (2, .int a2)]) rfl ?_
  unfold f_X12_helper
  refine s_aload_n (pc := 0) 0 dX12_helper_0 rfl rfl ?_
  refine s_iload_n (pc := 1) 1 dX12_helper_1 rfl rfl ?_
  refine s_callVI (pc := 2) (as := [.int a1]) (st := []) dX12_helper_2 lk_12_516 kd_253 (t_X12_isHelper N a1 μ) (by omega) rfl (by decide) rfl (fun x1 μ_1 => ?_)
  refine s_if_ne (pc := 5) (tgt := 10) dX12_helper_5 (by decide) ?_ ?_
  · refine s_iconst (pc := 8) (v := (-1 : Int32)) dX12_helper_8 (by decide) ?_
    exact s_iret (pc := 9) rfl dX12_helper_9 rfl
  · refine s_iconst (pc := 10) (v := (0 : Int32)) dX12_helper_10 (by decide) ?_
    refine s_istore_n (pc := 11) (lv' := [(3, .int (0 : Int32)), (0, .ref 253), (1, .int a1), (2, .int a2)]) dX12_helper_11 rfl (by decide) rfl ?_
    refine s_iconst (pc := 12) (v := (0 : Int32)) dX12_helper_12 (by decide) ?_
    refine s_istore (pc := 13) (lv' := [(4, .int (0 : Int32)), (3, .int (0 : Int32)), (0, .ref 253), (1, .int a1), (2, .int a2)]) dX12_helper_13 (by decide) rfl ?_
    refine s_sub (lv' := [(0, .ref 253), (1, .int a1), (2, .int a2), (3, .int (0 : Int32)), (4, .int (0 : Int32))]) [2, 3, 4, 1, 0] rfl ?_
    refine t_X12_helper_L15 N a1 a2 _ ?_ N (0 : Int32) (0 : Int32) μ_1
    · intro y49_3 μ49
      refine s_iload_n (pc := 49) 2 dX12_helper_49 rfl rfl ?_
      refine s_i2l (pc := 50) dX12_helper_50 ?_
      refine s_lconst (pc := 51) (v := (0 : Int64)) dX12_helper_51 (by decide) ?_
      refine s_ldc2 (pc := 52) (v := (2 : Int64)) dX12_helper_52 w_1858 ?_
      refine s_callSI (pc := 55) (as := [.long a2.toInt64, .long (0 : Int64), .long (2 : Int64)]) (st := []) dX12_helper_55 lk_12_303 (t_X12_isIn N a2.toInt64 (0 : Int64) (2 : Int64) μ49) (by omega) rfl (by decide) rfl (fun x6 μ_4 => ?_)
      refine s_if_eq (pc := 58) (tgt := 77) dX12_helper_58 (by decide) ?_ ?_
      · refine s_iload_n (pc := 77) 2 dX12_helper_77 rfl rfl ?_
        refine s_iconst (pc := 78) (v := (3 : Int32)) dX12_helper_78 (by decide) ?_
        refine s_icmp_ne (pc := 79) (tgt := 90) dX12_helper_79 (by decide) ?_ ?_
        · refine s_aload_n (pc := 82) 0 dX12_helper_82 rfl rfl ?_
          refine s_iload_n (pc := 83) 1 dX12_helper_83 rfl rfl ?_
          refine s_callVI (pc := 84) (as := [.int a1]) (st := []) dX12_helper_84 lk_12_458 kd_253 (t_X12_leftOf N a1 μ_4) (by omega) rfl (by decide) rfl (fun x7 μ_5 => ?_)
          refine s_goto (pc := 87) (tgt := 100) dX12_helper_87 (by decide) ?_
          exact s_iret (pc := 100) rfl dX12_helper_100 rfl
        · refine s_iload_n (pc := 90) 2 dX12_helper_90 rfl rfl ?_
          refine s_iconst (pc := 91) (v := (4 : Int32)) dX12_helper_91 (by decide) ?_
          refine s_icmp_ne (pc := 92) (tgt := 99) dX12_helper_92 (by decide) ?_ ?_
          · refine s_iload_n (pc := 95) 3 dX12_helper_95 rfl rfl ?_
            refine s_goto (pc := 96) (tgt := 100) dX12_helper_96 (by decide) ?_
            exact s_iret (pc := 100) rfl dX12_helper_100 rfl
          · refine s_iconst (pc := 99) (v := (-1 : Int32)) dX12_helper_99 (by decide) ?_
            exact s_iret (pc := 100) rfl dX12_helper_100 rfl
      · refine s_aload_n (pc := 61) 0 dX12_helper_61 rfl rfl ?_
        refine s_getR (pc := 62) (ci := 12) (k := 46) (r := 291) dX12_helper_62 fl_12_127 kd_253 rfl rs_253_46 ?_
        refine s_bipush (pc := 65) (v := (9 : Int32)) dX12_helper_65 (by decide) ?_
        refine s_iconst (pc := 67) (v := (3 : Int32)) dX12_helper_67 (by decide) ?_
        refine s_iload_n (pc := 68) 1 dX12_helper_68 rfl rfl ?_
        refine s_imul (pc := 69) dX12_helper_69 ?_
        refine s_iadd (pc := 70) dX12_helper_70 ?_
        refine s_iload_n (pc := 71) 2 dX12_helper_71 rfl rfl ?_
        refine s_iadd (pc := 72) dX12_helper_72 ?_
        refine s_iald (pc := 73) dX12_helper_73 kd_291 ?_
        refine s_goto (pc := 74) (tgt := 100) dX12_helper_74 (by decide) ?_
        exact s_iret (pc := 100) rfl dX12_helper_100 rfl
def f_X12_takes (N : Nat) (a1 : Int32) (a2 : Int32) (μ : z_S) : Option (Int32 × z_S) :=
  z_bn (f_X12_isMail N a1 μ) fun x1 μ_1 => if x1 = 0 then (some ((-1 : Int32), μ_1)) else z_bn (f_X12_isHelper N a2 μ_1) fun x2 μ_2 => if x2 = 0 then (some ((-1 : Int32), μ_2)) else z_bn (f_X12_timeOf N a1 a2 μ_2) fun x3 μ_3 => some (x3, μ_3)
theorem t_X12_takes (N : Nat) (a1 : Int32) (a2 : Int32) (μ : z_S) : z_met false rI mX12_takes 5 [.ref 253, .int a1, .int a2] μ (f_X12_takes N a1 a2 μ) := by
  refine z_met.of (by decide +kernel) (by show _ ≤ _; first | decide | exact Nat.le_of_ble_eq_true rfl) (lv := [(0, .ref 253), (1, .int a1), (2, .int a2)]) rfl ?_
  unfold f_X12_takes
  refine s_aload_n (pc := 0) 0 dX12_takes_0 rfl rfl ?_
  refine s_iload_n (pc := 1) 1 dX12_takes_1 rfl rfl ?_
  refine s_callVI (pc := 2) (as := [.int a1]) (st := []) dX12_takes_2 lk_12_501 kd_253 (t_X12_isMail N a1 μ) (by omega) rfl (by decide) rfl (fun x1 μ_1 => ?_)
  refine s_if_eq (pc := 5) (tgt := 25) dX12_takes_5 (by decide) ?_ ?_
  · refine s_iconst (pc := 25) (v := (-1 : Int32)) dX12_takes_25 (by decide) ?_
    exact s_iret (pc := 26) rfl dX12_takes_26 rfl
  · refine s_aload_n (pc := 8) 0 dX12_takes_8 rfl rfl ?_
    refine s_iload_n (pc := 9) 2 dX12_takes_9 rfl rfl ?_
    refine s_callVI (pc := 10) (as := [.int a2]) (st := []) dX12_takes_10 lk_12_516 kd_253 (t_X12_isHelper N a2 μ_1) (by omega) rfl (by decide) rfl (fun x2 μ_2 => ?_)
    refine s_if_eq (pc := 13) (tgt := 25) dX12_takes_13 (by decide) ?_ ?_
    · refine s_iconst (pc := 25) (v := (-1 : Int32)) dX12_takes_25 (by decide) ?_
      exact s_iret (pc := 26) rfl dX12_takes_26 rfl
    · refine s_aload_n (pc := 16) 0 dX12_takes_16 rfl rfl ?_
      refine s_iload_n (pc := 17) 1 dX12_takes_17 rfl rfl ?_
      refine s_iload_n (pc := 18) 2 dX12_takes_18 rfl rfl ?_
      refine s_callVI (pc := 19) (as := [.int a1, .int a2]) (st := []) dX12_takes_19 lk_12_461 kd_253 (t_X12_timeOf N a1 a2 μ_2) (by omega) rfl (by decide) rfl (fun x3 μ_3 => ?_)
      refine s_goto (pc := 22) (tgt := 26) dX12_takes_22 (by decide) ?_
      exact s_iret (pc := 26) rfl dX12_takes_26 rfl
def f_X12_warmth (N : Nat) (a1 : Int32) (a2 : Int32) (μ : z_S) : Option (Int64 × z_S) :=
  z_bn (f_X12_isMail N a1 μ) fun x1 μ_1 => if x1 = 0 then (some ((-1000000000000000 : Int64), μ_1)) else z_bn (f_X12_isHelper N a2 μ_1) fun x2 μ_2 => if x2 = 0 then (some ((-1000000000000000 : Int64), μ_2)) else z_bn (f_X12_warmOf N a1 a2 μ_2) fun x3 μ_3 => some (x3, μ_3)
theorem t_X12_warmth (N : Nat) (a1 : Int32) (a2 : Int32) (μ : z_S) : z_met false rJ mX12_warmth 5 [.ref 253, .int a1, .int a2] μ (f_X12_warmth N a1 a2 μ) := by
  refine z_met.of (by decide +kernel) (by show _ ≤ _; first | decide | exact Nat.le_of_ble_eq_true rfl) (lv := [(0, .ref 253), (1, .int a1), (2, .int a2)]) rfl ?_
  unfold f_X12_warmth
  refine s_aload_n (pc := 0) 0 dX12_warmth_0 rfl rfl ?_
  refine s_iload_n (pc := 1) 1 dX12_warmth_1 rfl rfl ?_
  refine s_callVI (pc := 2) (as := [.int a1]) (st := []) dX12_warmth_2 lk_12_501 kd_253 (t_X12_isMail N a1 μ) (by omega) rfl (by decide) rfl (fun x1 μ_1 => ?_)
  refine s_if_eq (pc := 5) (tgt := 25) dX12_warmth_5 (by decide) ?_ ?_
  · refine s_ldc2 (pc := 25) (v := (-1000000000000000 : Int64)) dX12_warmth_25 w_1945 ?_
    exact s_lret (pc := 28) dX12_warmth_28 rfl
  · refine s_aload_n (pc := 8) 0 dX12_warmth_8 rfl rfl ?_
    refine s_iload_n (pc := 9) 2 dX12_warmth_9 rfl rfl ?_
    refine s_callVI (pc := 10) (as := [.int a2]) (st := []) dX12_warmth_10 lk_12_516 kd_253 (t_X12_isHelper N a2 μ_1) (by omega) rfl (by decide) rfl (fun x2 μ_2 => ?_)
    refine s_if_eq (pc := 13) (tgt := 25) dX12_warmth_13 (by decide) ?_ ?_
    · refine s_ldc2 (pc := 25) (v := (-1000000000000000 : Int64)) dX12_warmth_25 w_1945 ?_
      exact s_lret (pc := 28) dX12_warmth_28 rfl
    · refine s_aload_n (pc := 16) 0 dX12_warmth_16 rfl rfl ?_
      refine s_iload_n (pc := 17) 1 dX12_warmth_17 rfl rfl ?_
      refine s_iload_n (pc := 18) 2 dX12_warmth_18 rfl rfl ?_
      refine s_callVJ (pc := 19) (as := [.int a1, .int a2]) (st := []) dX12_warmth_19 lk_12_464 kd_253 (t_X12_warmOf N a1 a2 μ_2) (by omega) rfl (by decide) rfl (fun x3 μ_3 => ?_)
      refine s_goto (pc := 22) (tgt := 28) dX12_warmth_22 (by decide) ?_
      exact s_lret (pc := 28) dX12_warmth_28 rfl
def f_X12_can (N : Nat) (a1 : Int32) (a2 : Int32) (μ : z_S) : Option (Int32 × z_S) :=
  z_bn (f_X12_isMail N a1 μ) fun x1 μ_1 => if x1 = 0 then (some ((-1 : Int32), μ_1)) else z_bn (f_X12_isHelper N a2 μ_1) fun x2 μ_2 => if x2 = 0 then (some ((-1 : Int32), μ_2)) else z_bn (f_X12_canAnswer N a1 a2 μ_2) fun x3 μ_3 => if x3 = 0 then (some ((0 : Int32), μ_3)) else some ((1 : Int32), μ_3)
theorem t_X12_can (N : Nat) (a1 : Int32) (a2 : Int32) (μ : z_S) : z_met false rI mX12_can 6 [.ref 253, .int a1, .int a2] μ (f_X12_can N a1 a2 μ) := by
  refine z_met.of (by decide +kernel) (by show _ ≤ _; first | decide | exact Nat.le_of_ble_eq_true rfl) (lv := [(0, .ref 253), (1, .int a1), (2, .int a2)]) rfl ?_
  unfold f_X12_can
  refine s_aload_n (pc := 0) 0 dX12_can_0 rfl rfl ?_
  refine s_iload_n (pc := 1) 1 dX12_can_1 rfl rfl ?_
  refine s_callVI (pc := 2) (as := [.int a1]) (st := []) dX12_can_2 lk_12_501 kd_253 (t_X12_isMail N a1 μ) (by omega) rfl (by decide) rfl (fun x1 μ_1 => ?_)
  refine s_if_eq (pc := 5) (tgt := 33) dX12_can_5 (by decide) ?_ ?_
  · refine s_iconst (pc := 33) (v := (-1 : Int32)) dX12_can_33 (by decide) ?_
    exact s_iret (pc := 34) rfl dX12_can_34 rfl
  · refine s_aload_n (pc := 8) 0 dX12_can_8 rfl rfl ?_
    refine s_iload_n (pc := 9) 2 dX12_can_9 rfl rfl ?_
    refine s_callVI (pc := 10) (as := [.int a2]) (st := []) dX12_can_10 lk_12_516 kd_253 (t_X12_isHelper N a2 μ_1) (by omega) rfl (by decide) rfl (fun x2 μ_2 => ?_)
    refine s_if_eq (pc := 13) (tgt := 33) dX12_can_13 (by decide) ?_ ?_
    · refine s_iconst (pc := 33) (v := (-1 : Int32)) dX12_can_33 (by decide) ?_
      exact s_iret (pc := 34) rfl dX12_can_34 rfl
    · refine s_aload_n (pc := 16) 0 dX12_can_16 rfl rfl ?_
      refine s_iload_n (pc := 17) 1 dX12_can_17 rfl rfl ?_
      refine s_iload_n (pc := 18) 2 dX12_can_18 rfl rfl ?_
      refine s_callVI (pc := 19) (as := [.int a1, .int a2]) (st := []) dX12_can_19 lk_12_521 kd_253 (t_X12_canAnswer N a1 a2 μ_2) (by omega) rfl (by decide) rfl (fun x3 μ_3 => ?_)
      refine s_if_eq (pc := 22) (tgt := 29) dX12_can_22 (by decide) ?_ ?_
      · refine s_iconst (pc := 29) (v := (0 : Int32)) dX12_can_29 (by decide) ?_
        refine s_goto (pc := 30) (tgt := 34) dX12_can_30 (by decide) ?_
        exact s_iret (pc := 34) rfl dX12_can_34 rfl
      · refine s_iconst (pc := 25) (v := (1 : Int32)) dX12_can_25 (by decide) ?_
        refine s_goto (pc := 26) (tgt := 34) dX12_can_26 (by decide) ?_
        exact s_iret (pc := 34) rfl dX12_can_34 rfl
def f_X12_warmest_B15 (N : Nat)  (v1 : Int32) (μ : z_S) : Option (Int32 × z_S) :=
  z_bn (f_X12_laysWarmest N μ) fun x1 μ_1 => if v1 = (-1 : Int32) then (some (x1, μ_1)) else z_in v1 8 <| some (((μ_1.1 300 v1.toNatClampNeg) - (1 : Int32)), μ_1)
theorem t_X12_warmest_B15 (N : Nat)     (v1 : Int32)  (μ : z_S) : z_sim false rI mX12_warmest 7 (f_X12_warmest_B15 N   v1 μ) 15 [(0, .ref 253), (1, .int v1)] [] μ := by
  unfold f_X12_warmest_B15
  refine s_aload_n (pc := 15) 0 dX12_warmest_15 rfl rfl ?_
  refine s_callVI (pc := 16) (as := []) (st := []) dX12_warmest_16 lk_12_485 kd_253 (t_X12_laysWarmest N μ) (by omega) rfl (by decide) rfl (fun x1 μ_1 => ?_)
  refine s_istore_n (pc := 19) (lv' := [(2, .int x1), (0, .ref 253), (1, .int v1)]) dX12_warmest_19 rfl (by decide) rfl ?_
  refine s_iload_n (pc := 20) 2 dX12_warmest_20 rfl rfl ?_
  refine s_iconst (pc := 21) (v := (-1 : Int32)) dX12_warmest_21 (by decide) ?_
  refine s_icmp_ne (pc := 22) (tgt := 29) dX12_warmest_22 (by decide) ?_ ?_
  · refine s_iload_n (pc := 25) 0 dX12_warmest_25 rfl rfl ?_
    refine s_goto (pc := 26) (tgt := 37) dX12_warmest_26 (by decide) ?_
    exact s_iret (pc := 37) rfl dX12_warmest_37 rfl
  · refine s_aload_n (pc := 29) 1 dX12_warmest_29 rfl rfl ?_
    refine s_getR (pc := 30) (ci := 12) (k := 59) (r := 300) dX12_warmest_30 fl_12_154 kd_253 rfl rs_253_59 ?_
    refine s_iload_n (pc := 33) 2 dX12_warmest_33 rfl rfl ?_
    refine s_iald (pc := 34) dX12_warmest_34 kd_300 ?_
    refine s_iconst (pc := 35) (v := (1 : Int32)) dX12_warmest_35 (by decide) ?_
    refine s_isub (pc := 36) dX12_warmest_36 ?_
    exact s_iret (pc := 37) rfl dX12_warmest_37 rfl
def f_X12_warmest (N : Nat) (a1 : Int32) (μ : z_S) : Option (Int32 × z_S) :=
  if a1 = (-1 : Int32) then (f_X12_warmest_B15 N a1 μ) else z_bn (f_X12_isMail N a1 μ) fun x2 μ_2 => if x2 = 0 then (some ((-1 : Int32), μ_2)) else f_X12_warmest_B15 N a1 μ_2
theorem t_X12_warmest (N : Nat) (a1 : Int32) (μ : z_S) : z_met false rI mX12_warmest 7 [.ref 253, .int a1] μ (f_X12_warmest N a1 μ) := by
  refine z_met.of (by decide +kernel) (by show _ ≤ _; first | decide | exact Nat.le_of_ble_eq_true rfl) (lv := [(0, .ref 253), (1, .int a1)]) rfl ?_
  unfold f_X12_warmest
  refine s_iload_n (pc := 0) 1 dX12_warmest_0 rfl rfl ?_
  refine s_iconst (pc := 1) (v := (-1 : Int32)) dX12_warmest_1 (by decide) ?_
  refine s_icmp_eq (pc := 2) (tgt := 15) dX12_warmest_2 (by decide) ?_ ?_
  · exact t_X12_warmest_B15 N a1 μ
  · refine s_aload_n (pc := 5) 0 dX12_warmest_5 rfl rfl ?_
    refine s_iload_n (pc := 6) 1 dX12_warmest_6 rfl rfl ?_
    refine s_callVI (pc := 7) (as := [.int a1]) (st := []) dX12_warmest_7 lk_12_501 kd_253 (t_X12_isMail N a1 μ) (by omega) rfl (by decide) rfl (fun x2 μ_2 => ?_)
    refine s_if_ne (pc := 10) (tgt := 15) dX12_warmest_10 (by decide) ?_ ?_
    · refine s_iconst (pc := 13) (v := (-1 : Int32)) dX12_warmest_13 (by decide) ?_
      exact s_iret (pc := 14) rfl dX12_warmest_14 rfl
    · exact t_X12_warmest_B15 N a1 μ_2
def f_X12_warms (N : Nat) (μ : z_S) : Option (Int64 × z_S) :=
  z_bn (f_X12_laysWarmest N μ) fun x1 μ_1 => some ((μ_1.2.1 253 63), μ_1)
theorem t_X12_warms (N : Nat) (μ : z_S) : z_met false rJ mX12_warms 7 [.ref 253] μ (f_X12_warms N μ) := by
  refine z_met.of (by decide +kernel) (by show _ ≤ _; first | decide | exact Nat.le_of_ble_eq_true rfl) (lv := [(0, .ref 253)]) rfl ?_
  unfold f_X12_warms
  refine s_aload_n (pc := 0) 0 dX12_warms_0 rfl rfl ?_
  refine s_callVI (pc := 1) (as := []) (st := []) dX12_warms_1 lk_12_485 kd_253 (t_X12_laysWarmest N μ) (by omega) rfl (by decide) rfl (fun x1 μ_1 => ?_)
  refine s_pop (pc := 4) dX12_warms_4 rfl ?_
  refine s_aload_n (pc := 5) 0 dX12_warms_5 rfl rfl ?_
  refine s_getJ (pc := 6) (ci := 12) (k := 63) dX12_warms_6 fl_12_470 kd_253 rfl ?_
  exact s_lret (pc := 9) dX12_warms_9 rfl
def b_X12_later_L19 (N : Nat) (c1 : Int32) (kb : Int32 → z_S → Option (Int32 × z_S)) (e35 : z_S → Option (Int32 × z_S)) (v2 : Int32) (μ : z_S) : Option (Int32 × z_S) :=
  if v2 < c1 then (z_bn (f_X12_eveningGoes N μ) fun x2 μ_3 => z_bd (v2 + 1) fun x3 => kb x3 μ_3) else e35 μ
theorem tb_X12_later_L19 (N : Nat) (c1 : Int32) (kb : Int32 → z_S → Option (Int32 × z_S)) (e35 : z_S → Option (Int32 × z_S)) (hkb : ∀ (a2 : Int32) (μ : z_S), z_sim false rI mX12_later 8 (kb a2 μ) 19 [(0, .ref 253), (1, .int c1), (2, .int a2)] [] μ) (he35 : ∀ (μ : z_S), z_sim false rI mX12_later 8 (e35 μ) 35 [(0, .ref 253)] [] μ) (v2 : Int32) (μ : z_S) : z_sim false rI mX12_later 8 (b_X12_later_L19 N c1 kb e35 v2 μ) 19 [(0, .ref 253), (1, .int c1), (2, .int v2)] [] μ := by
  unfold b_X12_later_L19
  refine s_iload_n (pc := 19) 2 dX12_later_19 rfl rfl ?_
  refine s_iload_n (pc := 20) 1 dX12_later_20 rfl rfl ?_
  refine s_icmp_ge (pc := 21) (tgt := 35) dX12_later_21 (by decide) ?_ ?_
  · refine s_aload_n (pc := 24) 0 dX12_later_24 rfl rfl ?_
    refine s_callVI (pc := 25) (as := []) (st := []) dX12_later_25 lk_12_530 kd_253 (t_X12_eveningGoes N μ) (by omega) rfl (by decide) rfl (fun x2 μ_3 => ?_)
    refine s_pop (pc := 28) dX12_later_28 rfl ?_
    refine s_iincB (pc := 29) (lv' := fun x3 => [(2, .int x3), (0, .ref 253), (1, .int c1)]) (c := 1) 2 dX12_later_29 rfl (by decide) (by decide) (fun _ => rfl) (fun x3 => ?_)
    refine s_goto (pc := 32) (tgt := 19) dX12_later_32 (by decide) ?_
    refine s_sub (lv' := [(0, .ref 253), (1, .int c1), (2, .int x3)]) [1, 2, 0] rfl ?_
    exact hkb x3 μ_3
  · refine s_sub (lv' := [(0, .ref 253)]) [0] rfl ?_
    exact he35 μ
def f_X12_later_L19 (N : Nat) (c1 : Int32) (e35 : z_S → Option (Int32 × z_S)) : Nat → Int32 → z_S → Option (Int32 × z_S)
  | 0, _, _ => none
  | n + 1, v2, μ => b_X12_later_L19 N c1 (f_X12_later_L19 N c1 e35 n) e35 v2 μ
theorem t_X12_later_L19 (N : Nat) (c1 : Int32) (e35 : z_S → Option (Int32 × z_S)) (he35 : ∀ (μ : z_S), z_sim false rI mX12_later 8 (e35 μ) 35 [(0, .ref 253)] [] μ) : ∀ (n : Nat) (v2 : Int32) (μ : z_S), z_sim false rI mX12_later 8 (f_X12_later_L19 N c1 e35 n v2 μ) 19 [(0, .ref 253), (1, .int c1), (2, .int v2)] [] μ
  | 0, _, _ => s_none
  | n + 1, v2, μ => tb_X12_later_L19 N c1 (f_X12_later_L19 N c1 e35 n) e35 (t_X12_later_L19 N c1 e35 he35 n) he35 v2 μ
def f_X12_later (N : Nat) (a1 : Int32) (μ : z_S) : Option (Int32 × z_S) :=
  z_bn (f_X12_isAhead N a1 (0 : Int32) (30 : Int32) μ) fun x1 μ_1 => if x1 = 0 then (some ((-1 : Int32), μ_1)) else z_bn (f_X12_putsAside N μ_1) fun _ μ_2 => f_X12_later_L19 N a1 (fun μ35 => z_bn (f_X12_answeredMany N μ35) fun x4 μ_4 => z_bn (f_X12_takesBack N μ_4) fun _ μ_5 => some (x4, μ_5)) N (0 : Int32) μ_2
theorem t_X12_later (N : Nat) (a1 : Int32) (μ : z_S) : z_met false rI mX12_later 8 [.ref 253, .int a1] μ (f_X12_later N a1 μ) := by
  refine z_met.of (by decide +kernel) (by show _ ≤ _; first | decide | exact Nat.le_of_ble_eq_true rfl) (lv := [(0, .ref 253), (1, .int a1)]) rfl ?_
  unfold f_X12_later
  refine s_aload_n (pc := 0) 0 dX12_later_0 rfl rfl ?_
  refine s_iload_n (pc := 1) 1 dX12_later_1 rfl rfl ?_
  refine s_iconst (pc := 2) (v := (0 : Int32)) dX12_later_2 (by decide) ?_
  refine s_bipush (pc := 3) (v := (30 : Int32)) dX12_later_3 (by decide) ?_
  refine s_callVI (pc := 5) (as := [.int a1, .int (0 : Int32), .int (30 : Int32)]) (st := []) dX12_later_5 lk_12_524 kd_253 (t_X12_isAhead N a1 (0 : Int32) (30 : Int32) μ) (by omega) rfl (by decide) rfl (fun x1 μ_1 => ?_)
  refine s_if_ne (pc := 8) (tgt := 13) dX12_later_8 (by decide) ?_ ?_
  · refine s_iconst (pc := 11) (v := (-1 : Int32)) dX12_later_11 (by decide) ?_
    exact s_iret (pc := 12) rfl dX12_later_12 rfl
  · refine s_aload_n (pc := 13) 0 dX12_later_13 rfl rfl ?_
    refine s_callVV (pc := 14) (as := []) (st := []) dX12_later_14 lk_12_527 kd_253 (t_X12_putsAside N μ_1) (by omega) rfl (by decide) rfl (fun _ μ_2 => ?_)
    refine s_iconst (pc := 17) (v := (0 : Int32)) dX12_later_17 (by decide) ?_
    refine s_istore_n (pc := 18) (lv' := [(2, .int (0 : Int32)), (0, .ref 253), (1, .int a1)]) dX12_later_18 rfl (by decide) rfl ?_
    refine s_sub (lv' := [(0, .ref 253), (1, .int a1), (2, .int (0 : Int32))]) [1, 2, 0] rfl ?_
    refine t_X12_later_L19 N a1 _ ?_ N (0 : Int32) μ_2
    · intro μ35
      refine s_aload_n (pc := 35) 0 dX12_later_35 rfl rfl ?_
      refine s_callVI (pc := 36) (as := []) (st := []) dX12_later_36 lk_12_533 kd_253 (t_X12_answeredMany N μ35) (by omega) rfl (by decide) rfl (fun x4 μ_4 => ?_)
      refine s_istore_n (pc := 39) (lv' := [(2, .int x4), (0, .ref 253)]) dX12_later_39 rfl (by decide) rfl ?_
      refine s_aload_n (pc := 40) 1 dX12_later_40 rfl rfl ?_
      refine s_callVV (pc := 41) (as := []) (st := []) dX12_later_41 lk_12_536 kd_253 (t_X12_takesBack N μ_4) (by omega) rfl (by decide) rfl (fun _ μ_5 => ?_)
      refine s_iload_n (pc := 44) 0 dX12_later_44 rfl rfl ?_
      exact s_iret (pc := 45) rfl dX12_later_45 rfl
def b_X12_finished_L6 (N : Nat) (kb : Int32 → z_S → Option (Int32 × z_S)) (e46 : Int32 → z_S → Option (Int32 × z_S)) (v1 : Int32) (μ : z_S) : Option (Int32 × z_S) :=
  z_bn (f_X12_answeredMany N μ) fun x1 μ_2 => z_bn (f_X12_letterMany N μ_2) fun x2 μ_3 => if x1 < x2 then (if v1 < (30 : Int32) then (if (μ_3.1 296 0) < (999 : Int32) then (z_bn (f_X12_eveningGoes N μ_3) fun x3 μ_4 => z_bd (v1 + 1) fun x4 => kb x4 μ_4) else e46 v1 μ_3) else e46 v1 μ_3) else e46 v1 μ_3
theorem tb_X12_finished_L6 (N : Nat) (kb : Int32 → z_S → Option (Int32 × z_S)) (e46 : Int32 → z_S → Option (Int32 × z_S)) (hkb : ∀ (a1 : Int32) (μ : z_S), z_sim false rI mX12_finished 8 (kb a1 μ) 6 [(0, .ref 253), (1, .int a1)] [] μ) (he46 : ∀ (a1 : Int32) (μ : z_S), z_sim false rI mX12_finished 8 (e46 a1 μ) 46 [(0, .ref 253), (1, .int a1)] [] μ) (v1 : Int32) (μ : z_S) : z_sim false rI mX12_finished 8 (b_X12_finished_L6 N kb e46 v1 μ) 6 [(0, .ref 253), (1, .int v1)] [] μ := by
  unfold b_X12_finished_L6
  refine s_aload_n (pc := 6) 0 dX12_finished_6 rfl rfl ?_
  refine s_callVI (pc := 7) (as := []) (st := []) dX12_finished_7 lk_12_533 kd_253 (t_X12_answeredMany N μ) (by omega) rfl (by decide) rfl (fun x1 μ_2 => ?_)
  refine s_aload_n (pc := 10) 0 dX12_finished_10 rfl rfl ?_
  refine s_callVI (pc := 11) (as := []) (st := [.int x1]) dX12_finished_11 lk_12_419 kd_253 (t_X12_letterMany N μ_2) (by omega) rfl (Nat.le_of_ble_eq_true rfl) rfl (fun x2 μ_3 => ?_)
  refine s_icmp_ge (pc := 14) (tgt := 46) dX12_finished_14 (by decide) ?_ ?_
  · refine s_iload_n (pc := 17) 1 dX12_finished_17 rfl rfl ?_
    refine s_bipush (pc := 18) (v := (30 : Int32)) dX12_finished_18 (by decide) ?_
    refine s_icmp_ge (pc := 20) (tgt := 46) dX12_finished_20 (by decide) ?_ ?_
    · refine s_aload_n (pc := 23) 0 dX12_finished_23 rfl rfl ?_
      refine s_getR (pc := 24) (ci := 12) (k := 54) (r := 296) dX12_finished_24 fl_12_142 kd_253 rfl rs_253_54 ?_
      refine s_iconst (pc := 27) (v := (0 : Int32)) dX12_finished_27 (by decide) ?_
      refine s_ialdK (pc := 28) (k := 0) dX12_finished_28 kd_296 (by decide) (by decide) (by decide) ?_
      refine s_sipush (pc := 29) (v := (999 : Int32)) dX12_finished_29 (by decide) ?_
      refine s_icmp_ge (pc := 32) (tgt := 46) dX12_finished_32 (by decide) ?_ ?_
      · refine s_aload_n (pc := 35) 0 dX12_finished_35 rfl rfl ?_
        refine s_callVI (pc := 36) (as := []) (st := []) dX12_finished_36 lk_12_530 kd_253 (t_X12_eveningGoes N μ_3) (by omega) rfl (by decide) rfl (fun x3 μ_4 => ?_)
        refine s_pop (pc := 39) dX12_finished_39 rfl ?_
        refine s_iincB (pc := 40) (lv' := fun x4 => [(1, .int x4), (0, .ref 253)]) (c := 1) 1 dX12_finished_40 rfl (by decide) (by decide) (fun _ => rfl) (fun x4 => ?_)
        refine s_goto (pc := 43) (tgt := 6) dX12_finished_43 (by decide) ?_
        refine s_sub (lv' := [(0, .ref 253), (1, .int x4)]) [1, 0] rfl ?_
        exact hkb x4 μ_4
      · exact he46 v1 μ_3
    · exact he46 v1 μ_3
  · exact he46 v1 μ_3
def f_X12_finished_L6 (N : Nat) (e46 : Int32 → z_S → Option (Int32 × z_S)) : Nat → Int32 → z_S → Option (Int32 × z_S)
  | 0, _, _ => none
  | n + 1, v1, μ => b_X12_finished_L6 N (f_X12_finished_L6 N e46 n) e46 v1 μ
theorem t_X12_finished_L6 (N : Nat) (e46 : Int32 → z_S → Option (Int32 × z_S)) (he46 : ∀ (a1 : Int32) (μ : z_S), z_sim false rI mX12_finished 8 (e46 a1 μ) 46 [(0, .ref 253), (1, .int a1)] [] μ) : ∀ (n : Nat) (v1 : Int32) (μ : z_S), z_sim false rI mX12_finished 8 (f_X12_finished_L6 N e46 n v1 μ) 6 [(0, .ref 253), (1, .int v1)] [] μ
  | 0, _, _ => s_none
  | n + 1, v1, μ => tb_X12_finished_L6 N (f_X12_finished_L6 N e46 n) e46 (t_X12_finished_L6 N e46 he46 n) he46 v1 μ
def f_X12_finished_B62 (N : Nat)  (v1 : Int32) (s0 : Int32) (μ : z_S) : Option (Int32 × z_S) :=
  z_bn (f_X12_takesBack N μ) fun _ μ_7 => if s0 = 0 then (some ((-1 : Int32), μ_7)) else some (v1, μ_7)
theorem t_X12_finished_B62 (N : Nat)     (v1 : Int32) (s0 : Int32)  (μ : z_S) : z_sim false rI mX12_finished 8 (f_X12_finished_B62 N   v1 s0 μ) 62 [(0, .ref 253), (1, .int v1)] [.int s0] μ := by
  unfold f_X12_finished_B62
  refine s_istore_n (pc := 62) (lv' := [(2, .int s0), (0, .ref 253), (1, .int v1)]) dX12_finished_62 rfl (by decide) rfl ?_
  refine s_aload_n (pc := 63) 1 dX12_finished_63 rfl rfl ?_
  refine s_callVV (pc := 64) (as := []) (st := []) dX12_finished_64 lk_12_536 kd_253 (t_X12_takesBack N μ) (by omega) rfl (by decide) rfl (fun _ μ_7 => ?_)
  refine s_iload_n (pc := 67) 0 dX12_finished_67 rfl rfl ?_
  refine s_if_eq (pc := 68) (tgt := 75) dX12_finished_68 (by decide) ?_ ?_
  · refine s_iconst (pc := 75) (v := (-1 : Int32)) dX12_finished_75 (by decide) ?_
    exact s_iret (pc := 76) rfl dX12_finished_76 rfl
  · refine s_iload_n (pc := 71) 2 dX12_finished_71 rfl rfl ?_
    refine s_goto (pc := 72) (tgt := 76) dX12_finished_72 (by decide) ?_
    exact s_iret (pc := 76) rfl dX12_finished_76 rfl
def f_X12_finished_B46 (N : Nat)  (v1 : Int32) (μ : z_S) : Option (Int32 × z_S) :=
  z_bn (f_X12_answeredMany N μ) fun x5 μ_5 => z_bn (f_X12_letterMany N μ_5) fun x6 μ_6 => if x5 = x6 then (f_X12_finished_B62 N v1 (1 : Int32) μ_6) else f_X12_finished_B62 N v1 (0 : Int32) μ_6
theorem t_X12_finished_B46 (N : Nat)     (v1 : Int32)  (μ : z_S) : z_sim false rI mX12_finished 8 (f_X12_finished_B46 N   v1 μ) 46 [(0, .ref 253), (1, .int v1)] [] μ := by
  unfold f_X12_finished_B46
  refine s_aload_n (pc := 46) 0 dX12_finished_46 rfl rfl ?_
  refine s_callVI (pc := 47) (as := []) (st := []) dX12_finished_47 lk_12_533 kd_253 (t_X12_answeredMany N μ) (by omega) rfl (by decide) rfl (fun x5 μ_5 => ?_)
  refine s_aload_n (pc := 50) 0 dX12_finished_50 rfl rfl ?_
  refine s_callVI (pc := 51) (as := []) (st := [.int x5]) dX12_finished_51 lk_12_419 kd_253 (t_X12_letterMany N μ_5) (by omega) rfl (Nat.le_of_ble_eq_true rfl) rfl (fun x6 μ_6 => ?_)
  refine s_icmp_ne (pc := 54) (tgt := 61) dX12_finished_54 (by decide) ?_ ?_
  · refine s_iconst (pc := 57) (v := (1 : Int32)) dX12_finished_57 (by decide) ?_
    refine s_goto (pc := 58) (tgt := 62) dX12_finished_58 (by decide) ?_
    exact t_X12_finished_B62 N v1 (1 : Int32) μ_6
  · refine s_iconst (pc := 61) (v := (0 : Int32)) dX12_finished_61 (by decide) ?_
    exact t_X12_finished_B62 N v1 (0 : Int32) μ_6
def f_X12_finished (N : Nat) (μ : z_S) : Option (Int32 × z_S) :=
  z_bn (f_X12_putsAside N μ) fun _ μ_1 => f_X12_finished_L6 N (fun y46_1 μ46 => f_X12_finished_B46 N y46_1 μ46) N (0 : Int32) μ_1
theorem t_X12_finished (N : Nat) (μ : z_S) : z_met false rI mX12_finished 8 [.ref 253] μ (f_X12_finished N μ) := by
  refine z_met.of (by decide +kernel) (by show _ ≤ _; first | decide | exact Nat.le_of_ble_eq_true rfl) (lv := [(0, .ref 253)]) rfl ?_
  unfold f_X12_finished
  refine s_iconst (pc := 0) (v := (0 : Int32)) dX12_finished_0 (by decide) ?_
  refine s_istore_n (pc := 1) (lv' := [(1, .int (0 : Int32)), (0, .ref 253)]) dX12_finished_1 rfl (by decide) rfl ?_
  refine s_aload_n (pc := 2) 1 dX12_finished_2 rfl rfl ?_
  refine s_callVV (pc := 3) (as := []) (st := []) dX12_finished_3 lk_12_527 kd_253 (t_X12_putsAside N μ) (by omega) rfl (by decide) rfl (fun _ μ_1 => ?_)
  refine s_sub (lv' := [(0, .ref 253), (1, .int (0 : Int32))]) [1, 0] rfl ?_
  refine t_X12_finished_L6 N _ ?_ N (0 : Int32) μ_1
  · intro y46_1 μ46
    exact t_X12_finished_B46 N y46_1 μ46
def f_X12_isApart_B41 (N : Nat) (c1 : Int32) (kb : Int32 → z_S → Option (Int32 × z_S)) (v2 : Int32) (μ : z_S) : Option (Int32 × z_S) :=
  z_bd (v2 + 1) fun x1 => kb x1 μ
theorem t_X12_isApart_B41 (N : Nat) (c1 : Int32)  (kb : Int32 → z_S → Option (Int32 × z_S)) (hkb : ∀ (a2 : Int32) (μ : z_S), z_sim false rI mX12_isApart 0 (kb a2 μ) 2 [(0, .ref 253), (1, .int c1), (2, .int a2)] [] μ) (v2 : Int32)  (μ : z_S) : z_sim false rI mX12_isApart 0 (f_X12_isApart_B41 N c1 kb v2 μ) 41 [(0, .ref 253), (1, .int c1), (2, .int v2)] [] μ := by
  unfold f_X12_isApart_B41
  refine s_iincB (pc := 41) (lv' := fun x1 => [(2, .int x1), (0, .ref 253), (1, .int c1)]) (c := 1) 2 dX12_isApart_41 rfl (by decide) (by decide) (fun _ => rfl) (fun x1 => ?_)
  refine s_goto (pc := 44) (tgt := 2) dX12_isApart_44 (by decide) ?_
  refine s_sub (lv' := [(0, .ref 253), (1, .int c1), (2, .int x1)]) [1, 2, 0] rfl ?_
  exact hkb x1 μ
def b_X12_isApart_L2 (N : Nat) (c1 : Int32) (kb : Int32 → z_S → Option (Int32 × z_S)) (v2 : Int32) (μ : z_S) : Option (Int32 × z_S) :=
  if v2 < c1 then (z_in ((8 : Int32) + c1) 16 <| if (((μ.1 289 ((8 : Int32) + c1).toNatClampNeg) >>> (v2 &&& 31)) &&& (1 : Int32)) = (1 : Int32) then (z_in v2 8 <| z_in c1 8 <| if (μ.1 298 v2.toNatClampNeg) = (μ.1 298 c1.toNatClampNeg) then (some ((0 : Int32), μ)) else f_X12_isApart_B41 N c1 kb v2 μ) else f_X12_isApart_B41 N c1 kb v2 μ) else some ((1 : Int32), μ)
theorem tb_X12_isApart_L2 (N : Nat) (c1 : Int32) (kb : Int32 → z_S → Option (Int32 × z_S)) (hkb : ∀ (a2 : Int32) (μ : z_S), z_sim false rI mX12_isApart 0 (kb a2 μ) 2 [(0, .ref 253), (1, .int c1), (2, .int a2)] [] μ) (v2 : Int32) (μ : z_S) : z_sim false rI mX12_isApart 0 (b_X12_isApart_L2 N c1 kb v2 μ) 2 [(0, .ref 253), (1, .int c1), (2, .int v2)] [] μ := by
  unfold b_X12_isApart_L2
  refine s_iload_n (pc := 2) 2 dX12_isApart_2 rfl rfl ?_
  refine s_iload_n (pc := 3) 1 dX12_isApart_3 rfl rfl ?_
  refine s_icmp_ge (pc := 4) (tgt := 47) dX12_isApart_4 (by decide) ?_ ?_
  · refine s_aload_n (pc := 7) 0 dX12_isApart_7 rfl rfl ?_
    refine s_getR (pc := 8) (ci := 12) (k := 44) (r := 289) dX12_isApart_8 fl_12_121 kd_253 rfl rs_253_44 ?_
    refine s_bipush (pc := 11) (v := (8 : Int32)) dX12_isApart_11 (by decide) ?_
    refine s_iload_n (pc := 13) 1 dX12_isApart_13 rfl rfl ?_
    refine s_iadd (pc := 14) dX12_isApart_14 ?_
    refine s_iald (pc := 15) dX12_isApart_15 kd_289 ?_
    refine s_iload_n (pc := 16) 2 dX12_isApart_16 rfl rfl ?_
    refine s_ishr (pc := 17) dX12_isApart_17 ?_
    refine s_iconst (pc := 18) (v := (1 : Int32)) dX12_isApart_18 (by decide) ?_
    refine s_iand (pc := 19) dX12_isApart_19 ?_
    refine s_iconst (pc := 20) (v := (1 : Int32)) dX12_isApart_20 (by decide) ?_
    refine s_icmp_ne (pc := 21) (tgt := 41) dX12_isApart_21 (by decide) ?_ ?_
    · refine s_aload_n (pc := 24) 0 dX12_isApart_24 rfl rfl ?_
      refine s_getR (pc := 25) (ci := 12) (k := 57) (r := 298) dX12_isApart_25 fl_12_148 kd_253 rfl rs_253_57 ?_
      refine s_iload_n (pc := 28) 2 dX12_isApart_28 rfl rfl ?_
      refine s_iald (pc := 29) dX12_isApart_29 kd_298 ?_
      refine s_aload_n (pc := 30) 0 dX12_isApart_30 rfl rfl ?_
      refine s_getR (pc := 31) (ci := 12) (k := 57) (r := 298) dX12_isApart_31 fl_12_148 kd_253 rfl rs_253_57 ?_
      refine s_iload_n (pc := 34) 1 dX12_isApart_34 rfl rfl ?_
      refine s_iald (pc := 35) dX12_isApart_35 kd_298 ?_
      refine s_icmp_ne (pc := 36) (tgt := 41) dX12_isApart_36 (by decide) ?_ ?_
      · refine s_iconst (pc := 39) (v := (0 : Int32)) dX12_isApart_39 (by decide) ?_
        exact s_zret0 (pc := 40) dX12_isApart_40 rfl rfl
      · exact t_X12_isApart_B41 N c1 kb hkb v2 μ
    · exact t_X12_isApart_B41 N c1 kb hkb v2 μ
  · refine s_iconst (pc := 47) (v := (1 : Int32)) dX12_isApart_47 (by decide) ?_
    exact s_zret0 (pc := 48) dX12_isApart_48 rfl rfl
def f_X12_isApart_L2 (N : Nat) (c1 : Int32) : Nat → Int32 → z_S → Option (Int32 × z_S)
  | 0, _, _ => none
  | n + 1, v2, μ => b_X12_isApart_L2 N c1 (f_X12_isApart_L2 N c1 n) v2 μ
theorem t_X12_isApart_L2 (N : Nat) (c1 : Int32) : ∀ (n : Nat) (v2 : Int32) (μ : z_S), z_sim false rI mX12_isApart 0 (f_X12_isApart_L2 N c1 n v2 μ) 2 [(0, .ref 253), (1, .int c1), (2, .int v2)] [] μ
  | 0, _, _ => s_none
  | n + 1, v2, μ => tb_X12_isApart_L2 N c1 (f_X12_isApart_L2 N c1 n) (t_X12_isApart_L2 N c1 n) v2 μ
def f_X12_isApart (N : Nat) (a1 : Int32) (μ : z_S) : Option (Int32 × z_S) :=
  f_X12_isApart_L2 N a1 N (0 : Int32) μ
theorem t_X12_isApart (N : Nat) (a1 : Int32) (μ : z_S) : z_met false rI mX12_isApart 0 [.ref 253, .int a1] μ (f_X12_isApart N a1 μ) := by
  refine z_met.of (by decide +kernel) (by show _ ≤ _; first | decide | exact Nat.le_of_ble_eq_true rfl) (lv := [(0, .ref 253), (1, .int a1)]) rfl ?_
  unfold f_X12_isApart
  refine s_iconst (pc := 0) (v := (0 : Int32)) dX12_isApart_0 (by decide) ?_
  refine s_istore_n (pc := 1) (lv' := [(2, .int (0 : Int32)), (0, .ref 253), (1, .int a1)]) dX12_isApart_1 rfl (by decide) rfl ?_
  refine s_sub (lv' := [(0, .ref 253), (1, .int a1), (2, .int (0 : Int32))]) [1, 2, 0] rfl ?_
  refine t_X12_isApart_L2 N a1 N (0 : Int32) μ
def b_X12_laysSheets_L2 (N : Nat) (c1 : Int32) (kb : Int32 → z_S → Option (Int32 × z_S)) (e21 : z_S → Option (Int32 × z_S)) (v2 : Int32) (μ : z_S) : Option (Int32 × z_S) :=
  if v2 < (8 : Int32) then (z_in v2 8 <| z_bd (z_setI μ 298 v2.toNatClampNeg (0 : Int32)) fun μ_1 => z_bd (v2 + 1) fun x1 => kb x1 μ_1) else e21 μ
theorem tb_X12_laysSheets_L2 (N : Nat) (c1 : Int32) (kb : Int32 → z_S → Option (Int32 × z_S)) (e21 : z_S → Option (Int32 × z_S)) (hkb : ∀ (a2 : Int32) (μ : z_S), z_sim false rI mX12_laysSheets 1 (kb a2 μ) 2 [(0, .ref 253), (1, .int c1), (2, .int a2)] [] μ) (he21 : ∀ (μ : z_S), z_sim false rI mX12_laysSheets 1 (e21 μ) 21 [(0, .ref 253), (1, .int c1)] [] μ) (v2 : Int32) (μ : z_S) : z_sim false rI mX12_laysSheets 1 (b_X12_laysSheets_L2 N c1 kb e21 v2 μ) 2 [(0, .ref 253), (1, .int c1), (2, .int v2)] [] μ := by
  unfold b_X12_laysSheets_L2
  refine s_iload_n (pc := 2) 2 dX12_laysSheets_2 rfl rfl ?_
  refine s_bipush (pc := 3) (v := (8 : Int32)) dX12_laysSheets_3 (by decide) ?_
  refine s_icmp_ge (pc := 5) (tgt := 21) dX12_laysSheets_5 (by decide) ?_ ?_
  · refine s_aload_n (pc := 8) 0 dX12_laysSheets_8 rfl rfl ?_
    refine s_getR (pc := 9) (ci := 12) (k := 57) (r := 298) dX12_laysSheets_9 fl_12_148 kd_253 rfl rs_253_57 ?_
    refine s_iload_n (pc := 12) 2 dX12_laysSheets_12 rfl rfl ?_
    refine s_iconst (pc := 13) (v := (0 : Int32)) dX12_laysSheets_13 (by decide) ?_
    refine s_iast (pc := 14) dX12_laysSheets_14 kd_298 (fun μ_1 => ?_)
    refine s_iincB (pc := 15) (lv' := fun x1 => [(2, .int x1), (0, .ref 253), (1, .int c1)]) (c := 1) 2 dX12_laysSheets_15 rfl (by decide) (by decide) (fun _ => rfl) (fun x1 => ?_)
    refine s_goto (pc := 18) (tgt := 2) dX12_laysSheets_18 (by decide) ?_
    refine s_sub (lv' := [(0, .ref 253), (1, .int c1), (2, .int x1)]) [1, 2, 0] rfl ?_
    exact hkb x1 μ_1
  · refine s_sub (lv' := [(0, .ref 253), (1, .int c1)]) [0, 1] rfl ?_
    exact he21 μ
def f_X12_laysSheets_L2 (N : Nat) (c1 : Int32) (e21 : z_S → Option (Int32 × z_S)) : Nat → Int32 → z_S → Option (Int32 × z_S)
  | 0, _, _ => none
  | n + 1, v2, μ => b_X12_laysSheets_L2 N c1 (f_X12_laysSheets_L2 N c1 e21 n) e21 v2 μ
theorem t_X12_laysSheets_L2 (N : Nat) (c1 : Int32) (e21 : z_S → Option (Int32 × z_S)) (he21 : ∀ (μ : z_S), z_sim false rI mX12_laysSheets 1 (e21 μ) 21 [(0, .ref 253), (1, .int c1)] [] μ) : ∀ (n : Nat) (v2 : Int32) (μ : z_S), z_sim false rI mX12_laysSheets 1 (f_X12_laysSheets_L2 N c1 e21 n v2 μ) 2 [(0, .ref 253), (1, .int c1), (2, .int v2)] [] μ
  | 0, _, _ => s_none
  | n + 1, v2, μ => tb_X12_laysSheets_L2 N c1 (f_X12_laysSheets_L2 N c1 e21 n) e21 (t_X12_laysSheets_L2 N c1 e21 he21 n) he21 v2 μ
def b_X12_laysSheets_L23 (N : Nat) (c1 : Int32) (kb : Int32 → z_S → Option (Int32 × z_S)) (e82 : Int32 → z_S → Option (Int32 × z_S)) (v2 : Int32) (μ : z_S) : Option (Int32 × z_S) :=
  if v2 < 0 then (e82 v2 μ) else z_bn (f_X12_letterMany N μ) fun x2 μ_2 => if v2 < x2 then (z_in v2 8 <| z_in v2 8 <| z_bd (z_setI μ_2 298 v2.toNatClampNeg ((μ_2.1 298 v2.toNatClampNeg) + (1 : Int32))) fun μ_3 => z_in v2 8 <| if c1 < (μ_3.1 298 v2.toNatClampNeg) then (z_in v2 8 <| z_bd (z_setI μ_3 298 v2.toNatClampNeg (0 : Int32)) fun μ_4 => z_bd (v2 + (-1)) fun x3 => kb x3 μ_4) else z_bn (f_X12_isApart N v2 μ_3) fun x4 μ_5 => if x4 = 0 then (kb v2 μ_5) else z_bd (v2 + 1) fun x5 => kb x5 μ_5) else e82 v2 μ_2
theorem tb_X12_laysSheets_L23 (N : Nat) (c1 : Int32) (kb : Int32 → z_S → Option (Int32 × z_S)) (e82 : Int32 → z_S → Option (Int32 × z_S)) (hkb : ∀ (a2 : Int32) (μ : z_S), z_sim false rI mX12_laysSheets 1 (kb a2 μ) 23 [(0, .ref 253), (1, .int c1), (2, .int a2)] [] μ) (he82 : ∀ (a2 : Int32) (μ : z_S), z_sim false rI mX12_laysSheets 1 (e82 a2 μ) 82 [(2, .int a2)] [] μ) (v2 : Int32) (μ : z_S) : z_sim false rI mX12_laysSheets 1 (b_X12_laysSheets_L23 N c1 kb e82 v2 μ) 23 [(0, .ref 253), (1, .int c1), (2, .int v2)] [] μ := by
  unfold b_X12_laysSheets_L23
  refine s_iload_n (pc := 23) 2 dX12_laysSheets_23 rfl rfl ?_
  refine s_if_lt (pc := 24) (tgt := 82) dX12_laysSheets_24 (by decide) ?_ ?_
  · refine s_sub (lv' := [(2, .int v2)]) [2] rfl ?_
    exact he82 v2 μ
  · refine s_iload_n (pc := 27) 2 dX12_laysSheets_27 rfl rfl ?_
    refine s_aload_n (pc := 28) 0 dX12_laysSheets_28 rfl rfl ?_
    refine s_callVI (pc := 29) (as := []) (st := [.int v2]) dX12_laysSheets_29 lk_12_419 kd_253 (t_X12_letterMany N μ) (by omega) rfl (Nat.le_of_ble_eq_true rfl) rfl (fun x2 μ_2 => ?_)
    refine s_icmp_ge (pc := 32) (tgt := 82) dX12_laysSheets_32 (by decide) ?_ ?_
    · refine s_aload_n (pc := 35) 0 dX12_laysSheets_35 rfl rfl ?_
      refine s_getR (pc := 36) (ci := 12) (k := 57) (r := 298) dX12_laysSheets_36 fl_12_148 kd_253 rfl rs_253_57 ?_
      refine s_iload_n (pc := 39) 2 dX12_laysSheets_39 rfl rfl ?_
      refine s_dup2 (pc := 40) dX12_laysSheets_40 rfl rfl ?_
      refine s_iald (pc := 41) dX12_laysSheets_41 kd_298 ?_
      refine s_iconst (pc := 42) (v := (1 : Int32)) dX12_laysSheets_42 (by decide) ?_
      refine s_iadd (pc := 43) dX12_laysSheets_43 ?_
      refine s_iast (pc := 44) dX12_laysSheets_44 kd_298 (fun μ_3 => ?_)
      refine s_aload_n (pc := 45) 0 dX12_laysSheets_45 rfl rfl ?_
      refine s_getR (pc := 46) (ci := 12) (k := 57) (r := 298) dX12_laysSheets_46 fl_12_148 kd_253 rfl rs_253_57 ?_
      refine s_iload_n (pc := 49) 2 dX12_laysSheets_49 rfl rfl ?_
      refine s_iald (pc := 50) dX12_laysSheets_50 kd_298 ?_
      refine s_iload_n (pc := 51) 1 dX12_laysSheets_51 rfl rfl ?_
      refine s_icmp_le (pc := 52) (tgt := 68) dX12_laysSheets_52 (by decide) ?_ ?_
      · refine s_aload_n (pc := 55) 0 dX12_laysSheets_55 rfl rfl ?_
        refine s_getR (pc := 56) (ci := 12) (k := 57) (r := 298) dX12_laysSheets_56 fl_12_148 kd_253 rfl rs_253_57 ?_
        refine s_iload_n (pc := 59) 2 dX12_laysSheets_59 rfl rfl ?_
        refine s_iconst (pc := 60) (v := (0 : Int32)) dX12_laysSheets_60 (by decide) ?_
        refine s_iast (pc := 61) dX12_laysSheets_61 kd_298 (fun μ_4 => ?_)
        refine s_iincB (pc := 62) (lv' := fun x3 => [(2, .int x3), (0, .ref 253), (1, .int c1)]) (c := -1) 2 dX12_laysSheets_62 rfl (by decide) (by decide) (fun _ => rfl) (fun x3 => ?_)
        refine s_goto (pc := 65) (tgt := 23) dX12_laysSheets_65 (by decide) ?_
        refine s_sub (lv' := [(0, .ref 253), (1, .int c1), (2, .int x3)]) [1, 2, 0] rfl ?_
        exact hkb x3 μ_4
      · refine s_aload_n (pc := 68) 0 dX12_laysSheets_68 rfl rfl ?_
        refine s_iload_n (pc := 69) 2 dX12_laysSheets_69 rfl rfl ?_
        refine s_callVI (pc := 70) (as := [.int v2]) (st := []) dX12_laysSheets_70 lk_12_539 kd_253 (t_X12_isApart N v2 μ_3) (by omega) rfl (by decide) rfl (fun x4 μ_5 => ?_)
        refine s_if_eq (pc := 73) (tgt := 23) dX12_laysSheets_73 (by decide) ?_ ?_
        · exact hkb v2 μ_5
        · refine s_iincB (pc := 76) (lv' := fun x5 => [(2, .int x5), (0, .ref 253), (1, .int c1)]) (c := 1) 2 dX12_laysSheets_76 rfl (by decide) (by decide) (fun _ => rfl) (fun x5 => ?_)
          refine s_goto (pc := 79) (tgt := 23) dX12_laysSheets_79 (by decide) ?_
          refine s_sub (lv' := [(0, .ref 253), (1, .int c1), (2, .int x5)]) [1, 2, 0] rfl ?_
          exact hkb x5 μ_5
    · refine s_sub (lv' := [(2, .int v2)]) [2] rfl ?_
      exact he82 v2 μ_2
def f_X12_laysSheets_L23 (N : Nat) (c1 : Int32) (e82 : Int32 → z_S → Option (Int32 × z_S)) : Nat → Int32 → z_S → Option (Int32 × z_S)
  | 0, _, _ => none
  | n + 1, v2, μ => b_X12_laysSheets_L23 N c1 (f_X12_laysSheets_L23 N c1 e82 n) e82 v2 μ
theorem t_X12_laysSheets_L23 (N : Nat) (c1 : Int32) (e82 : Int32 → z_S → Option (Int32 × z_S)) (he82 : ∀ (a2 : Int32) (μ : z_S), z_sim false rI mX12_laysSheets 1 (e82 a2 μ) 82 [(2, .int a2)] [] μ) : ∀ (n : Nat) (v2 : Int32) (μ : z_S), z_sim false rI mX12_laysSheets 1 (f_X12_laysSheets_L23 N c1 e82 n v2 μ) 23 [(0, .ref 253), (1, .int c1), (2, .int v2)] [] μ
  | 0, _, _ => s_none
  | n + 1, v2, μ => tb_X12_laysSheets_L23 N c1 (f_X12_laysSheets_L23 N c1 e82 n) e82 (t_X12_laysSheets_L23 N c1 e82 he82 n) he82 v2 μ
def f_X12_laysSheets_B82 (N : Nat)  (v2 : Int32) (μ : z_S) : Option (Int32 × z_S) :=
  if v2 < 0 then (some ((0 : Int32), μ)) else some ((1 : Int32), μ)
theorem t_X12_laysSheets_B82 (N : Nat)     (v2 : Int32)  (μ : z_S) : z_sim false rI mX12_laysSheets 1 (f_X12_laysSheets_B82 N   v2 μ) 82 [(2, .int v2)] [] μ := by
  unfold f_X12_laysSheets_B82
  refine s_iload_n (pc := 82) 0 dX12_laysSheets_82 rfl rfl ?_
  refine s_if_lt (pc := 83) (tgt := 90) dX12_laysSheets_83 (by decide) ?_ ?_
  · refine s_iconst (pc := 90) (v := (0 : Int32)) dX12_laysSheets_90 (by decide) ?_
    exact s_zret0 (pc := 91) dX12_laysSheets_91 rfl rfl
  · refine s_iconst (pc := 86) (v := (1 : Int32)) dX12_laysSheets_86 (by decide) ?_
    refine s_goto (pc := 87) (tgt := 91) dX12_laysSheets_87 (by decide) ?_
    exact s_zret0 (pc := 91) dX12_laysSheets_91 rfl rfl
def f_X12_laysSheets (N : Nat) (a1 : Int32) (μ : z_S) : Option (Int32 × z_S) :=
  f_X12_laysSheets_L2 N a1 (fun μ21 => f_X12_laysSheets_L23 N a1 (fun y82_2 μ82 => f_X12_laysSheets_B82 N y82_2 μ82) N (0 : Int32) μ21) N (0 : Int32) μ
theorem t_X12_laysSheets (N : Nat) (a1 : Int32) (μ : z_S) : z_met false rI mX12_laysSheets 1 [.ref 253, .int a1] μ (f_X12_laysSheets N a1 μ) := by
  refine z_met.of (by decide +kernel) (by show _ ≤ _; first | decide | exact Nat.le_of_ble_eq_true rfl) (lv := [(0, .ref 253), (1, .int a1)]) rfl ?_
  unfold f_X12_laysSheets
  refine s_iconst (pc := 0) (v := (0 : Int32)) dX12_laysSheets_0 (by decide) ?_
  refine s_istore_n (pc := 1) (lv' := [(2, .int (0 : Int32)), (0, .ref 253), (1, .int a1)]) dX12_laysSheets_1 rfl (by decide) rfl ?_
  refine s_sub (lv' := [(0, .ref 253), (1, .int a1), (2, .int (0 : Int32))]) [1, 2, 0] rfl ?_
  refine t_X12_laysSheets_L2 N a1 _ ?_ N (0 : Int32) μ
  · intro μ21
    refine s_iconst (pc := 21) (v := (0 : Int32)) dX12_laysSheets_21 (by decide) ?_
    refine s_istore_n (pc := 22) (lv' := [(2, .int (0 : Int32)), (0, .ref 253), (1, .int a1)]) dX12_laysSheets_22 rfl (by decide) rfl ?_
    refine s_sub (lv' := [(0, .ref 253), (1, .int a1), (2, .int (0 : Int32))]) [1, 2, 0] rfl ?_
    refine t_X12_laysSheets_L23 N a1 _ ?_ N (0 : Int32) μ21
    · intro y82_2 μ82
      exact t_X12_laysSheets_B82 N y82_2 μ82
def b_X12_sheets_L17 (N : Nat) (c1 : Int32) (kb : Int32 → z_S → Option (Int32 × z_S)) (e31 : Int32 → z_S → Option (Int32 × z_S)) (v2 : Int32) (μ : z_S) : Option (Int32 × z_S) :=
  z_bn (f_X12_laysSheets N v2 μ) fun x1 μ_1 => if x1 = 0 then (z_bd (v2 + 1) fun x2 => kb x2 μ_1) else e31 v2 μ_1
theorem tb_X12_sheets_L17 (N : Nat) (c1 : Int32) (kb : Int32 → z_S → Option (Int32 × z_S)) (e31 : Int32 → z_S → Option (Int32 × z_S)) (hkb : ∀ (a2 : Int32) (μ : z_S), z_sim false rI mX12_sheets 2 (kb a2 μ) 17 [(0, .ref 253), (1, .int c1), (2, .int a2)] [] μ) (he31 : ∀ (a2 : Int32) (μ : z_S), z_sim false rI mX12_sheets 2 (e31 a2 μ) 31 [(0, .ref 253), (1, .int c1), (2, .int a2)] [] μ) (v2 : Int32) (μ : z_S) : z_sim false rI mX12_sheets 2 (b_X12_sheets_L17 N c1 kb e31 v2 μ) 17 [(0, .ref 253), (1, .int c1), (2, .int v2)] [] μ := by
  unfold b_X12_sheets_L17
  refine s_aload_n (pc := 17) 0 dX12_sheets_17 rfl rfl ?_
  refine s_iload_n (pc := 18) 2 dX12_sheets_18 rfl rfl ?_
  refine s_callVI (pc := 19) (as := [.int v2]) (st := []) dX12_sheets_19 lk_12_542 kd_253 (t_X12_laysSheets N v2 μ) (by omega) rfl (by decide) rfl (fun x1 μ_1 => ?_)
  refine s_if_ne (pc := 22) (tgt := 31) dX12_sheets_22 (by decide) ?_ ?_
  · refine s_iincB (pc := 25) (lv' := fun x2 => [(2, .int x2), (0, .ref 253), (1, .int c1)]) (c := 1) 2 dX12_sheets_25 rfl (by decide) (by decide) (fun _ => rfl) (fun x2 => ?_)
    refine s_goto (pc := 28) (tgt := 17) dX12_sheets_28 (by decide) ?_
    refine s_sub (lv' := [(0, .ref 253), (1, .int c1), (2, .int x2)]) [1, 2, 0] rfl ?_
    exact hkb x2 μ_1
  · exact he31 v2 μ_1
def f_X12_sheets_L17 (N : Nat) (c1 : Int32) (e31 : Int32 → z_S → Option (Int32 × z_S)) : Nat → Int32 → z_S → Option (Int32 × z_S)
  | 0, _, _ => none
  | n + 1, v2, μ => b_X12_sheets_L17 N c1 (f_X12_sheets_L17 N c1 e31 n) e31 v2 μ
theorem t_X12_sheets_L17 (N : Nat) (c1 : Int32) (e31 : Int32 → z_S → Option (Int32 × z_S)) (he31 : ∀ (a2 : Int32) (μ : z_S), z_sim false rI mX12_sheets 2 (e31 a2 μ) 31 [(0, .ref 253), (1, .int c1), (2, .int a2)] [] μ) : ∀ (n : Nat) (v2 : Int32) (μ : z_S), z_sim false rI mX12_sheets 2 (f_X12_sheets_L17 N c1 e31 n v2 μ) 17 [(0, .ref 253), (1, .int c1), (2, .int v2)] [] μ
  | 0, _, _ => s_none
  | n + 1, v2, μ => tb_X12_sheets_L17 N c1 (f_X12_sheets_L17 N c1 e31 n) e31 (t_X12_sheets_L17 N c1 e31 he31 n) he31 v2 μ
def f_X12_sheets_B15 (N : Nat)  (v1 : Int32) (μ : z_S) : Option (Int32 × z_S) :=
  f_X12_sheets_L17 N v1 (fun y31_2 μ31 => if v1 = (-1 : Int32) then (some (y31_2, μ31)) else z_in v1 8 <| some ((μ31.1 298 v1.toNatClampNeg), μ31)) N (0 : Int32) μ
theorem t_X12_sheets_B15 (N : Nat)     (v1 : Int32)  (μ : z_S) : z_sim false rI mX12_sheets 2 (f_X12_sheets_B15 N   v1 μ) 15 [(0, .ref 253), (1, .int v1)] [] μ := by
  unfold f_X12_sheets_B15
  refine s_iconst (pc := 15) (v := (0 : Int32)) dX12_sheets_15 (by decide) ?_
  refine s_istore_n (pc := 16) (lv' := [(2, .int (0 : Int32)), (0, .ref 253), (1, .int v1)]) dX12_sheets_16 rfl (by decide) rfl ?_
  refine s_sub (lv' := [(0, .ref 253), (1, .int v1), (2, .int (0 : Int32))]) [1, 2, 0] rfl ?_
  refine t_X12_sheets_L17 N v1 _ ?_ N (0 : Int32) μ
  · intro y31_2 μ31
    refine s_iload_n (pc := 31) 1 dX12_sheets_31 rfl rfl ?_
    refine s_iconst (pc := 32) (v := (-1 : Int32)) dX12_sheets_32 (by decide) ?_
    refine s_icmp_ne (pc := 33) (tgt := 40) dX12_sheets_33 (by decide) ?_ ?_
    · refine s_iload_n (pc := 36) 2 dX12_sheets_36 rfl rfl ?_
      refine s_goto (pc := 37) (tgt := 46) dX12_sheets_37 (by decide) ?_
      exact s_iret (pc := 46) rfl dX12_sheets_46 rfl
    · refine s_aload_n (pc := 40) 0 dX12_sheets_40 rfl rfl ?_
      refine s_getR (pc := 41) (ci := 12) (k := 57) (r := 298) dX12_sheets_41 fl_12_148 kd_253 rfl rs_253_57 ?_
      refine s_iload_n (pc := 44) 1 dX12_sheets_44 rfl rfl ?_
      refine s_iald (pc := 45) dX12_sheets_45 kd_298 ?_
      exact s_iret (pc := 46) rfl dX12_sheets_46 rfl
def f_X12_sheets (N : Nat) (a1 : Int32) (μ : z_S) : Option (Int32 × z_S) :=
  if a1 = (-1 : Int32) then (f_X12_sheets_B15 N a1 μ) else z_bn (f_X12_isMail N a1 μ) fun x3 μ_2 => if x3 = 0 then (some ((-1 : Int32), μ_2)) else f_X12_sheets_B15 N a1 μ_2
theorem t_X12_sheets (N : Nat) (a1 : Int32) (μ : z_S) : z_met false rI mX12_sheets 2 [.ref 253, .int a1] μ (f_X12_sheets N a1 μ) := by
  refine z_met.of (by decide +kernel) (by show _ ≤ _; first | decide | exact Nat.le_of_ble_eq_true rfl) (lv := [(0, .ref 253), (1, .int a1)]) rfl ?_
  unfold f_X12_sheets
  refine s_iload_n (pc := 0) 1 dX12_sheets_0 rfl rfl ?_
  refine s_iconst (pc := 1) (v := (-1 : Int32)) dX12_sheets_1 (by decide) ?_
  refine s_icmp_eq (pc := 2) (tgt := 15) dX12_sheets_2 (by decide) ?_ ?_
  · exact t_X12_sheets_B15 N a1 μ
  · refine s_aload_n (pc := 5) 0 dX12_sheets_5 rfl rfl ?_
    refine s_iload_n (pc := 6) 1 dX12_sheets_6 rfl rfl ?_
    refine s_callVI (pc := 7) (as := [.int a1]) (st := []) dX12_sheets_7 lk_12_501 kd_253 (t_X12_isMail N a1 μ) (by omega) rfl (by decide) rfl (fun x3 μ_2 => ?_)
    refine s_if_ne (pc := 10) (tgt := 15) dX12_sheets_10 (by decide) ?_ ?_
    · refine s_iconst (pc := 13) (v := (-1 : Int32)) dX12_sheets_13 (by decide) ?_
      exact s_iret (pc := 14) rfl dX12_sheets_14 rfl
    · exact t_X12_sheets_B15 N a1 μ_2
def b_X12_canGive_L2 (N : Nat) (kb : Int32 → z_S → Option (Int32 × z_S)) (e30 : z_S → Option (Int32 × z_S)) (v1 : Int32) (μ : z_S) : Option (Int32 × z_S) :=
  z_bn (f_X12_giftMany N μ) fun x1 μ_1 => if v1 < x1 then (z_in ((4 : Int32) + v1) 32 <| z_in v1 4 <| z_bd (z_setI μ_1 304 v1.toNatClampNeg (μ_1.1 296 ((4 : Int32) + v1).toNatClampNeg)) fun μ_2 => z_bd (v1 + 1) fun x2 => kb x2 μ_2) else e30 μ_1
theorem tb_X12_canGive_L2 (N : Nat) (kb : Int32 → z_S → Option (Int32 × z_S)) (e30 : z_S → Option (Int32 × z_S)) (hkb : ∀ (a1 : Int32) (μ : z_S), z_sim false rI mX12_canGive 1 (kb a1 μ) 2 [(0, .ref 253), (1, .int a1)] [] μ) (he30 : ∀ (μ : z_S), z_sim false rI mX12_canGive 1 (e30 μ) 30 [(0, .ref 253)] [] μ) (v1 : Int32) (μ : z_S) : z_sim false rI mX12_canGive 1 (b_X12_canGive_L2 N kb e30 v1 μ) 2 [(0, .ref 253), (1, .int v1)] [] μ := by
  unfold b_X12_canGive_L2
  refine s_iload_n (pc := 2) 1 dX12_canGive_2 rfl rfl ?_
  refine s_aload_n (pc := 3) 0 dX12_canGive_3 rfl rfl ?_
  refine s_callVI (pc := 4) (as := []) (st := [.int v1]) dX12_canGive_4 lk_12_410 kd_253 (t_X12_giftMany N μ) (by omega) rfl (Nat.le_of_ble_eq_true rfl) rfl (fun x1 μ_1 => ?_)
  refine s_icmp_ge (pc := 7) (tgt := 30) dX12_canGive_7 (by decide) ?_ ?_
  · refine s_aload_n (pc := 10) 0 dX12_canGive_10 rfl rfl ?_
    refine s_getR (pc := 11) (ci := 12) (k := 64) (r := 304) dX12_canGive_11 fl_12_166 kd_253 rfl rs_253_64 ?_
    refine s_iload_n (pc := 14) 1 dX12_canGive_14 rfl rfl ?_
    refine s_aload_n (pc := 15) 0 dX12_canGive_15 rfl rfl ?_
    refine s_getR (pc := 16) (ci := 12) (k := 54) (r := 296) dX12_canGive_16 fl_12_142 kd_253 rfl rs_253_54 ?_
    refine s_iconst (pc := 19) (v := (4 : Int32)) dX12_canGive_19 (by decide) ?_
    refine s_iload_n (pc := 20) 1 dX12_canGive_20 rfl rfl ?_
    refine s_iadd (pc := 21) dX12_canGive_21 ?_
    refine s_iald (pc := 22) dX12_canGive_22 kd_296 ?_
    refine s_iast (pc := 23) dX12_canGive_23 kd_304 (fun μ_2 => ?_)
    refine s_iincB (pc := 24) (lv' := fun x2 => [(1, .int x2), (0, .ref 253)]) (c := 1) 1 dX12_canGive_24 rfl (by decide) (by decide) (fun _ => rfl) (fun x2 => ?_)
    refine s_goto (pc := 27) (tgt := 2) dX12_canGive_27 (by decide) ?_
    refine s_sub (lv' := [(0, .ref 253), (1, .int x2)]) [1, 0] rfl ?_
    exact hkb x2 μ_2
  · refine s_sub (lv' := [(0, .ref 253)]) [0] rfl ?_
    exact he30 μ_1
def f_X12_canGive_L2 (N : Nat) (e30 : z_S → Option (Int32 × z_S)) : Nat → Int32 → z_S → Option (Int32 × z_S)
  | 0, _, _ => none
  | n + 1, v1, μ => b_X12_canGive_L2 N (f_X12_canGive_L2 N e30 n) e30 v1 μ
theorem t_X12_canGive_L2 (N : Nat) (e30 : z_S → Option (Int32 × z_S)) (he30 : ∀ (μ : z_S), z_sim false rI mX12_canGive 1 (e30 μ) 30 [(0, .ref 253)] [] μ) : ∀ (n : Nat) (v1 : Int32) (μ : z_S), z_sim false rI mX12_canGive 1 (f_X12_canGive_L2 N e30 n v1 μ) 2 [(0, .ref 253), (1, .int v1)] [] μ
  | 0, _, _ => s_none
  | n + 1, v1, μ => tb_X12_canGive_L2 N (f_X12_canGive_L2 N e30 n) e30 (t_X12_canGive_L2 N e30 he30 n) he30 v1 μ
def f_X12_canGive_B87 (N : Nat) (kb : Int32 → z_S → Option (Int32 × z_S)) (v1 : Int32) (μ : z_S) : Option (Int32 × z_S) :=
  z_bd (v1 + 1) fun x4 => kb x4 μ
theorem t_X12_canGive_B87 (N : Nat)   (kb : Int32 → z_S → Option (Int32 × z_S)) (hkb : ∀ (a1 : Int32) (μ : z_S), z_sim false rI mX12_canGive 1 (kb a1 μ) 32 [(0, .ref 253), (1, .int a1)] [] μ) (v1 : Int32)  (μ : z_S) : z_sim false rI mX12_canGive 1 (f_X12_canGive_B87 N  kb v1 μ) 87 [(0, .ref 253), (1, .int v1)] [] μ := by
  unfold f_X12_canGive_B87
  refine s_iincB (pc := 87) (lv' := fun x4 => [(1, .int x4), (0, .ref 253)]) (c := 1) 1 dX12_canGive_87 rfl (by decide) (by decide) (fun _ => rfl) (fun x4 => ?_)
  refine s_goto (pc := 90) (tgt := 32) dX12_canGive_90 (by decide) ?_
  refine s_sub (lv' := [(0, .ref 253), (1, .int x4)]) [1, 0] rfl ?_
  exact hkb x4 μ
def b_X12_canGive_L32 (N : Nat) (kb : Int32 → z_S → Option (Int32 × z_S)) (v1 : Int32) (μ : z_S) : Option (Int32 × z_S) :=
  z_bn (f_X12_letterMany N μ) fun x3 μ_3 => if v1 < x3 then (z_in v1 8 <| if (μ_3.1 298 v1.toNatClampNeg) = 0 then (f_X12_canGive_B87 N kb v1 μ_3) else z_in v1 8 <| z_bd ((μ_3.1 298 v1.toNatClampNeg) - (1 : Int32)) fun x5 => z_in x5 4 <| z_in x5 4 <| z_bd (z_setI μ_3 304 x5.toNatClampNeg ((μ_3.1 304 x5.toNatClampNeg) - (1 : Int32))) fun μ_4 => z_in v1 8 <| z_in ((μ_4.1 298 v1.toNatClampNeg) - (1 : Int32)) 4 <| if (μ_4.1 304 ((μ_4.1 298 v1.toNatClampNeg) - (1 : Int32)).toNatClampNeg) < 0 then (some ((0 : Int32), μ_4)) else f_X12_canGive_B87 N kb v1 μ_4) else some ((1 : Int32), μ_3)
theorem tb_X12_canGive_L32 (N : Nat) (kb : Int32 → z_S → Option (Int32 × z_S)) (hkb : ∀ (a1 : Int32) (μ : z_S), z_sim false rI mX12_canGive 1 (kb a1 μ) 32 [(0, .ref 253), (1, .int a1)] [] μ) (v1 : Int32) (μ : z_S) : z_sim false rI mX12_canGive 1 (b_X12_canGive_L32 N kb v1 μ) 32 [(0, .ref 253), (1, .int v1)] [] μ := by
  unfold b_X12_canGive_L32
  refine s_iload_n (pc := 32) 1 dX12_canGive_32 rfl rfl ?_
  refine s_aload_n (pc := 33) 0 dX12_canGive_33 rfl rfl ?_
  refine s_callVI (pc := 34) (as := []) (st := [.int v1]) dX12_canGive_34 lk_12_419 kd_253 (t_X12_letterMany N μ) (by omega) rfl (Nat.le_of_ble_eq_true rfl) rfl (fun x3 μ_3 => ?_)
  refine s_icmp_ge (pc := 37) (tgt := 93) dX12_canGive_37 (by decide) ?_ ?_
  · refine s_aload_n (pc := 40) 0 dX12_canGive_40 rfl rfl ?_
    refine s_getR (pc := 41) (ci := 12) (k := 57) (r := 298) dX12_canGive_41 fl_12_148 kd_253 rfl rs_253_57 ?_
    refine s_iload_n (pc := 44) 1 dX12_canGive_44 rfl rfl ?_
    refine s_iald (pc := 45) dX12_canGive_45 kd_298 ?_
    refine s_if_ne (pc := 46) (tgt := 52) dX12_canGive_46 (by decide) ?_ ?_
    · refine s_goto (pc := 49) (tgt := 87) dX12_canGive_49 (by decide) ?_
      exact t_X12_canGive_B87 N kb hkb v1 μ_3
    · refine s_aload_n (pc := 52) 0 dX12_canGive_52 rfl rfl ?_
      refine s_getR (pc := 53) (ci := 12) (k := 64) (r := 304) dX12_canGive_53 fl_12_166 kd_253 rfl rs_253_64 ?_
      refine s_aload_n (pc := 56) 0 dX12_canGive_56 rfl rfl ?_
      refine s_getR (pc := 57) (ci := 12) (k := 57) (r := 298) dX12_canGive_57 fl_12_148 kd_253 rfl rs_253_57 ?_
      refine s_iload_n (pc := 60) 1 dX12_canGive_60 rfl rfl ?_
      refine s_iald (pc := 61) dX12_canGive_61 kd_298 ?_
      refine s_iconst (pc := 62) (v := (1 : Int32)) dX12_canGive_62 (by decide) ?_
      refine s_isub (pc := 63) dX12_canGive_63 ?_
      refine s_letI (fun x5 => ?_)
      refine s_dup2 (pc := 64) dX12_canGive_64 rfl rfl ?_
      refine s_iald (pc := 65) dX12_canGive_65 kd_304 ?_
      refine s_iconst (pc := 66) (v := (1 : Int32)) dX12_canGive_66 (by decide) ?_
      refine s_isub (pc := 67) dX12_canGive_67 ?_
      refine s_iast (pc := 68) dX12_canGive_68 kd_304 (fun μ_4 => ?_)
      refine s_aload_n (pc := 69) 0 dX12_canGive_69 rfl rfl ?_
      refine s_getR (pc := 70) (ci := 12) (k := 64) (r := 304) dX12_canGive_70 fl_12_166 kd_253 rfl rs_253_64 ?_
      refine s_aload_n (pc := 73) 0 dX12_canGive_73 rfl rfl ?_
      refine s_getR (pc := 74) (ci := 12) (k := 57) (r := 298) dX12_canGive_74 fl_12_148 kd_253 rfl rs_253_57 ?_
      refine s_iload_n (pc := 77) 1 dX12_canGive_77 rfl rfl ?_
      refine s_iald (pc := 78) dX12_canGive_78 kd_298 ?_
      refine s_iconst (pc := 79) (v := (1 : Int32)) dX12_canGive_79 (by decide) ?_
      refine s_isub (pc := 80) dX12_canGive_80 ?_
      refine s_iald (pc := 81) dX12_canGive_81 kd_304 ?_
      refine s_if_ge (pc := 82) (tgt := 87) dX12_canGive_82 (by decide) ?_ ?_
      · refine s_iconst (pc := 85) (v := (0 : Int32)) dX12_canGive_85 (by decide) ?_
        exact s_zret0 (pc := 86) dX12_canGive_86 rfl rfl
      · exact t_X12_canGive_B87 N kb hkb v1 μ_4
  · refine s_iconst (pc := 93) (v := (1 : Int32)) dX12_canGive_93 (by decide) ?_
    exact s_zret0 (pc := 94) dX12_canGive_94 rfl rfl
def f_X12_canGive_L32 (N : Nat) : Nat → Int32 → z_S → Option (Int32 × z_S)
  | 0, _, _ => none
  | n + 1, v1, μ => b_X12_canGive_L32 N (f_X12_canGive_L32 N n) v1 μ
theorem t_X12_canGive_L32 (N : Nat) : ∀ (n : Nat) (v1 : Int32) (μ : z_S), z_sim false rI mX12_canGive 1 (f_X12_canGive_L32 N n v1 μ) 32 [(0, .ref 253), (1, .int v1)] [] μ
  | 0, _, _ => s_none
  | n + 1, v1, μ => tb_X12_canGive_L32 N (f_X12_canGive_L32 N n) (t_X12_canGive_L32 N n) v1 μ
def f_X12_canGive (N : Nat) (μ : z_S) : Option (Int32 × z_S) :=
  f_X12_canGive_L2 N (fun μ30 => f_X12_canGive_L32 N N (0 : Int32) μ30) N (0 : Int32) μ
theorem t_X12_canGive (N : Nat) (μ : z_S) : z_met false rI mX12_canGive 1 [.ref 253] μ (f_X12_canGive N μ) := by
  refine z_met.of (by decide +kernel) (by show _ ≤ _; first | decide | exact Nat.le_of_ble_eq_true rfl) (lv := [(0, .ref 253)]) rfl ?_
  unfold f_X12_canGive
  refine s_iconst (pc := 0) (v := (0 : Int32)) dX12_canGive_0 (by decide) ?_
  refine s_istore_n (pc := 1) (lv' := [(1, .int (0 : Int32)), (0, .ref 253)]) dX12_canGive_1 rfl (by decide) rfl ?_
  refine s_sub (lv' := [(0, .ref 253), (1, .int (0 : Int32))]) [1, 0] rfl ?_
  refine t_X12_canGive_L2 N _ ?_ N (0 : Int32) μ
  · intro μ30
    refine s_iconst (pc := 30) (v := (0 : Int32)) dX12_canGive_30 (by decide) ?_
    refine s_istore_n (pc := 31) (lv' := [(1, .int (0 : Int32)), (0, .ref 253)]) dX12_canGive_31 rfl (by decide) rfl ?_
    refine s_sub (lv' := [(0, .ref 253), (1, .int (0 : Int32))]) [1, 0] rfl ?_
    refine t_X12_canGive_L32 N N (0 : Int32) μ30
def f_X12_sharedIn_B49 (N : Nat) (kb : Int32 → Int32 → z_S → Option (Int32 × z_S)) (v1 : Int32) (v2 : Int32) (μ : z_S) : Option (Int32 × z_S) :=
  z_bd (v2 + 1) fun x4 => kb v1 x4 μ
theorem t_X12_sharedIn_B49 (N : Nat)   (kb : Int32 → Int32 → z_S → Option (Int32 × z_S)) (hkb : ∀ (a1 : Int32) (a2 : Int32) (μ : z_S), z_sim false rI mX12_sharedIn 1 (kb a1 a2 μ) 4 [(0, .ref 253), (1, .int a1), (2, .int a2)] [] μ) (v1 : Int32) (v2 : Int32)  (μ : z_S) : z_sim false rI mX12_sharedIn 1 (f_X12_sharedIn_B49 N  kb v1 v2 μ) 49 [(0, .ref 253), (1, .int v1), (2, .int v2)] [] μ := by
  unfold f_X12_sharedIn_B49
  refine s_iincB (pc := 49) (lv' := fun x4 => [(2, .int x4), (0, .ref 253), (1, .int v1)]) (c := 1) 2 dX12_sharedIn_49 rfl (by decide) (by decide) (fun _ => rfl) (fun x4 => ?_)
  refine s_goto (pc := 52) (tgt := 4) dX12_sharedIn_52 (by decide) ?_
  refine s_sub (lv' := [(0, .ref 253), (1, .int v1), (2, .int x4)]) [1, 2, 0] rfl ?_
  exact hkb v1 x4 μ
def b_X12_sharedIn_L4 (N : Nat) (kb : Int32 → Int32 → z_S → Option (Int32 × z_S)) (v1 : Int32) (v2 : Int32) (μ : z_S) : Option (Int32 × z_S) :=
  z_bn (f_X12_letterMany N μ) fun x1 μ_1 => if v2 < x1 then (z_in v2 8 <| if 0 < (μ_1.1 298 v2.toNatClampNeg) then (z_in ((25 : Int32) + ((3 : Int32) * v2)) 48 <| z_in v2 8 <| z_bn (f_X12_wishOf N v2 ((μ_1.1 298 v2.toNatClampNeg) - (1 : Int32)) μ_1) fun x2 μ_2 => z_bd (v1 + ((μ_1.1 286 ((25 : Int32) + ((3 : Int32) * v2)).toNatClampNeg) * x2)) fun x3 => f_X12_sharedIn_B49 N kb x3 v2 μ_2) else f_X12_sharedIn_B49 N kb v1 v2 μ_1) else some (v1, μ_1)
theorem tb_X12_sharedIn_L4 (N : Nat) (kb : Int32 → Int32 → z_S → Option (Int32 × z_S)) (hkb : ∀ (a1 : Int32) (a2 : Int32) (μ : z_S), z_sim false rI mX12_sharedIn 1 (kb a1 a2 μ) 4 [(0, .ref 253), (1, .int a1), (2, .int a2)] [] μ) (v1 : Int32) (v2 : Int32) (μ : z_S) : z_sim false rI mX12_sharedIn 1 (b_X12_sharedIn_L4 N kb v1 v2 μ) 4 [(0, .ref 253), (1, .int v1), (2, .int v2)] [] μ := by
  unfold b_X12_sharedIn_L4
  refine s_iload_n (pc := 4) 2 dX12_sharedIn_4 rfl rfl ?_
  refine s_aload_n (pc := 5) 0 dX12_sharedIn_5 rfl rfl ?_
  refine s_callVI (pc := 6) (as := []) (st := [.int v2]) dX12_sharedIn_6 lk_12_419 kd_253 (t_X12_letterMany N μ) (by omega) rfl (Nat.le_of_ble_eq_true rfl) rfl (fun x1 μ_1 => ?_)
  refine s_icmp_ge (pc := 9) (tgt := 55) dX12_sharedIn_9 (by decide) ?_ ?_
  · refine s_aload_n (pc := 12) 0 dX12_sharedIn_12 rfl rfl ?_
    refine s_getR (pc := 13) (ci := 12) (k := 57) (r := 298) dX12_sharedIn_13 fl_12_148 kd_253 rfl rs_253_57 ?_
    refine s_iload_n (pc := 16) 2 dX12_sharedIn_16 rfl rfl ?_
    refine s_iald (pc := 17) dX12_sharedIn_17 kd_298 ?_
    refine s_if_le (pc := 18) (tgt := 49) dX12_sharedIn_18 (by decide) ?_ ?_
    · refine s_iload_n (pc := 21) 1 dX12_sharedIn_21 rfl rfl ?_
      refine s_aload_n (pc := 22) 0 dX12_sharedIn_22 rfl rfl ?_
      refine s_getR (pc := 23) (ci := 12) (k := 41) (r := 286) dX12_sharedIn_23 fl_12_112 kd_253 rfl rs_253_41 ?_
      refine s_bipush (pc := 26) (v := (25 : Int32)) dX12_sharedIn_26 (by decide) ?_
      refine s_iconst (pc := 28) (v := (3 : Int32)) dX12_sharedIn_28 (by decide) ?_
      refine s_iload_n (pc := 29) 2 dX12_sharedIn_29 rfl rfl ?_
      refine s_imul (pc := 30) dX12_sharedIn_30 ?_
      refine s_iadd (pc := 31) dX12_sharedIn_31 ?_
      refine s_iald (pc := 32) dX12_sharedIn_32 kd_286 ?_
      refine s_aload_n (pc := 33) 0 dX12_sharedIn_33 rfl rfl ?_
      refine s_iload_n (pc := 34) 2 dX12_sharedIn_34 rfl rfl ?_
      refine s_aload_n (pc := 35) 0 dX12_sharedIn_35 rfl rfl ?_
      refine s_getR (pc := 36) (ci := 12) (k := 57) (r := 298) dX12_sharedIn_36 fl_12_148 kd_253 rfl rs_253_57 ?_
      refine s_iload_n (pc := 39) 2 dX12_sharedIn_39 rfl rfl ?_
      refine s_iald (pc := 40) dX12_sharedIn_40 kd_298 ?_
      refine s_iconst (pc := 41) (v := (1 : Int32)) dX12_sharedIn_41 (by decide) ?_
      refine s_isub (pc := 42) dX12_sharedIn_42 ?_
      refine s_callVI (pc := 43) (as := [.int v2, .int ((μ_1.1 298 v2.toNatClampNeg) - (1 : Int32))]) (st := [.int (μ_1.1 286 ((25 : Int32) + ((3 : Int32) * v2)).toNatClampNeg), .int v1]) dX12_sharedIn_43 lk_12_425 kd_253 (t_X12_wishOf N v2 ((μ_1.1 298 v2.toNatClampNeg) - (1 : Int32)) μ_1) (by omega) rfl (Nat.le_of_ble_eq_true rfl) rfl (fun x2 μ_2 => ?_)
      refine s_imul (pc := 46) dX12_sharedIn_46 ?_
      refine s_iadd (pc := 47) dX12_sharedIn_47 ?_
      refine s_letI (fun x3 => ?_)
      refine s_istore_n (pc := 48) (lv' := [(1, .int x3), (0, .ref 253), (2, .int v2)]) dX12_sharedIn_48 rfl (by decide) rfl ?_
      refine s_sub (lv' := [(0, .ref 253), (1, .int x3), (2, .int v2)]) [1, 0, 2] rfl ?_
      exact t_X12_sharedIn_B49 N kb hkb x3 v2 μ_2
    · exact t_X12_sharedIn_B49 N kb hkb v1 v2 μ_1
  · refine s_iload_n (pc := 55) 1 dX12_sharedIn_55 rfl rfl ?_
    exact s_iret (pc := 56) rfl dX12_sharedIn_56 rfl
def f_X12_sharedIn_L4 (N : Nat) : Nat → Int32 → Int32 → z_S → Option (Int32 × z_S)
  | 0, _, _, _ => none
  | n + 1, v1, v2, μ => b_X12_sharedIn_L4 N (f_X12_sharedIn_L4 N n) v1 v2 μ
theorem t_X12_sharedIn_L4 (N : Nat) : ∀ (n : Nat) (v1 : Int32) (v2 : Int32) (μ : z_S), z_sim false rI mX12_sharedIn 1 (f_X12_sharedIn_L4 N n v1 v2 μ) 4 [(0, .ref 253), (1, .int v1), (2, .int v2)] [] μ
  | 0, _, _, _ => s_none
  | n + 1, v1, v2, μ => tb_X12_sharedIn_L4 N (f_X12_sharedIn_L4 N n) (t_X12_sharedIn_L4 N n) v1 v2 μ
def f_X12_sharedIn (N : Nat) (μ : z_S) : Option (Int32 × z_S) :=
  f_X12_sharedIn_L4 N N (0 : Int32) (0 : Int32) μ
theorem t_X12_sharedIn (N : Nat) (μ : z_S) : z_met false rI mX12_sharedIn 1 [.ref 253] μ (f_X12_sharedIn N μ) := by
  refine z_met.of (by decide +kernel) (by show _ ≤ _; first | decide | exact Nat.le_of_ble_eq_true rfl) (lv := [(0, .ref 253)]) rfl ?_
  unfold f_X12_sharedIn
  refine s_iconst (pc := 0) (v := (0 : Int32)) dX12_sharedIn_0 (by decide) ?_
  refine s_istore_n (pc := 1) (lv' := [(1, .int (0 : Int32)), (0, .ref 253)]) dX12_sharedIn_1 rfl (by decide) rfl ?_
  refine s_iconst (pc := 2) (v := (0 : Int32)) dX12_sharedIn_2 (by decide) ?_
  refine s_istore_n (pc := 3) (lv' := [(2, .int (0 : Int32)), (1, .int (0 : Int32)), (0, .ref 253)]) dX12_sharedIn_3 rfl (by decide) rfl ?_
  refine s_sub (lv' := [(0, .ref 253), (1, .int (0 : Int32)), (2, .int (0 : Int32))]) [2, 1, 0] rfl ?_
  refine t_X12_sharedIn_L4 N N (0 : Int32) (0 : Int32) μ
def b_X12_shared_L17 (N : Nat) (c1 : Int32) (kb : Int32 → z_S → Option (Int32 × z_S)) (e43 : z_S → Option (Int32 × z_S)) (v2 : Int32) (μ : z_S) : Option (Int32 × z_S) :=
  if v2 < (8 : Int32) then (z_in v2 8 <| z_bd (z_setI μ 298 v2.toNatClampNeg (0 : Int32)) fun μ_1 => z_in v2 8 <| z_bd (z_setI μ_1 300 v2.toNatClampNeg (0 : Int32)) fun μ_2 => z_bd (v2 + 1) fun x1 => kb x1 μ_2) else e43 μ
theorem tb_X12_shared_L17 (N : Nat) (c1 : Int32) (kb : Int32 → z_S → Option (Int32 × z_S)) (e43 : z_S → Option (Int32 × z_S)) (hkb : ∀ (a2 : Int32) (μ : z_S), z_sim false rI mX12_shared 2 (kb a2 μ) 17 [(0, .ref 253), (1, .int c1), (2, .int a2)] [] μ) (he43 : ∀ (μ : z_S), z_sim false rI mX12_shared 2 (e43 μ) 43 [(0, .ref 253), (1, .int c1)] [] μ) (v2 : Int32) (μ : z_S) : z_sim false rI mX12_shared 2 (b_X12_shared_L17 N c1 kb e43 v2 μ) 17 [(0, .ref 253), (1, .int c1), (2, .int v2)] [] μ := by
  unfold b_X12_shared_L17
  refine s_iload_n (pc := 17) 2 dX12_shared_17 rfl rfl ?_
  refine s_bipush (pc := 18) (v := (8 : Int32)) dX12_shared_18 (by decide) ?_
  refine s_icmp_ge (pc := 20) (tgt := 43) dX12_shared_20 (by decide) ?_ ?_
  · refine s_aload_n (pc := 23) 0 dX12_shared_23 rfl rfl ?_
    refine s_getR (pc := 24) (ci := 12) (k := 57) (r := 298) dX12_shared_24 fl_12_148 kd_253 rfl rs_253_57 ?_
    refine s_iload_n (pc := 27) 2 dX12_shared_27 rfl rfl ?_
    refine s_iconst (pc := 28) (v := (0 : Int32)) dX12_shared_28 (by decide) ?_
    refine s_iast (pc := 29) dX12_shared_29 kd_298 (fun μ_1 => ?_)
    refine s_aload_n (pc := 30) 0 dX12_shared_30 rfl rfl ?_
    refine s_getR (pc := 31) (ci := 12) (k := 59) (r := 300) dX12_shared_31 fl_12_154 kd_253 rfl rs_253_59 ?_
    refine s_iload_n (pc := 34) 2 dX12_shared_34 rfl rfl ?_
    refine s_iconst (pc := 35) (v := (0 : Int32)) dX12_shared_35 (by decide) ?_
    refine s_iast (pc := 36) dX12_shared_36 kd_300 (fun μ_2 => ?_)
    refine s_iincB (pc := 37) (lv' := fun x1 => [(2, .int x1), (0, .ref 253), (1, .int c1)]) (c := 1) 2 dX12_shared_37 rfl (by decide) (by decide) (fun _ => rfl) (fun x1 => ?_)
    refine s_goto (pc := 40) (tgt := 17) dX12_shared_40 (by decide) ?_
    refine s_sub (lv' := [(0, .ref 253), (1, .int c1), (2, .int x1)]) [1, 2, 0] rfl ?_
    exact hkb x1 μ_2
  · refine s_sub (lv' := [(0, .ref 253), (1, .int c1)]) [0, 1] rfl ?_
    exact he43 μ
def f_X12_shared_L17 (N : Nat) (c1 : Int32) (e43 : z_S → Option (Int32 × z_S)) : Nat → Int32 → z_S → Option (Int32 × z_S)
  | 0, _, _ => none
  | n + 1, v2, μ => b_X12_shared_L17 N c1 (f_X12_shared_L17 N c1 e43 n) e43 v2 μ
theorem t_X12_shared_L17 (N : Nat) (c1 : Int32) (e43 : z_S → Option (Int32 × z_S)) (he43 : ∀ (μ : z_S), z_sim false rI mX12_shared 2 (e43 μ) 43 [(0, .ref 253), (1, .int c1)] [] μ) : ∀ (n : Nat) (v2 : Int32) (μ : z_S), z_sim false rI mX12_shared 2 (f_X12_shared_L17 N c1 e43 n v2 μ) 17 [(0, .ref 253), (1, .int c1), (2, .int v2)] [] μ
  | 0, _, _ => s_none
  | n + 1, v2, μ => tb_X12_shared_L17 N c1 (f_X12_shared_L17 N c1 e43 n) e43 (t_X12_shared_L17 N c1 e43 he43 n) he43 v2 μ
def f_X12_shared_B74 (N : Nat) (c1 : Int32) (kb : Int32 → z_S → Option (Int32 × z_S)) (e81 : z_S → Option (Int32 × z_S)) (v2 : Int32) (s0 : Int32) (s1 : Int32) (μ : z_S) : Option (Int32 × z_S) :=
  z_in s1 8 <| z_bd (z_setI μ 299 s1.toNatClampNeg s0) fun μ_6 => z_bd (v2 + 1) fun x5 => kb x5 μ_6
theorem t_X12_shared_B74 (N : Nat) (c1 : Int32)  (kb : Int32 → z_S → Option (Int32 × z_S)) (e81 : z_S → Option (Int32 × z_S)) (hkb : ∀ (a2 : Int32) (μ : z_S), z_sim false rI mX12_shared 2 (kb a2 μ) 45 [(0, .ref 253), (1, .int c1), (2, .int a2)] [] μ) (he81 : ∀  (μ : z_S), z_sim false rI mX12_shared 2 (e81 μ) 81 [(0, .ref 253), (1, .int c1)] [] μ) (v2 : Int32) (s0 : Int32) (s1 : Int32)  (μ : z_S) : z_sim false rI mX12_shared 2 (f_X12_shared_B74 N c1 kb e81 v2 s0 s1 μ) 74 [(0, .ref 253), (1, .int c1), (2, .int v2)] [.int s0, .int s1, .ref 299] μ := by
  unfold f_X12_shared_B74
  refine s_iast (pc := 74) dX12_shared_74 kd_299 (fun μ_6 => ?_)
  refine s_iincB (pc := 75) (lv' := fun x5 => [(2, .int x5), (0, .ref 253), (1, .int c1)]) (c := 1) 2 dX12_shared_75 rfl (by decide) (by decide) (fun _ => rfl) (fun x5 => ?_)
  refine s_goto (pc := 78) (tgt := 45) dX12_shared_78 (by decide) ?_
  refine s_sub (lv' := [(0, .ref 253), (1, .int c1), (2, .int x5)]) [1, 2, 0] rfl ?_
  exact hkb x5 μ_6
def b_X12_shared_L45 (N : Nat) (c1 : Int32) (kb : Int32 → z_S → Option (Int32 × z_S)) (e81 : z_S → Option (Int32 × z_S)) (v2 : Int32) (μ : z_S) : Option (Int32 × z_S) :=
  z_bn (f_X12_letterMany N μ) fun x2 μ_3 => if v2 < x2 then (z_bn (f_X12_giftOf N v2 μ_3) fun x3 μ_4 => if x3 = 0 then (z_bn (f_X12_giftMany N μ_4) fun x4 μ_5 => f_X12_shared_B74 N c1 kb e81 v2 x4 v2 μ_5) else f_X12_shared_B74 N c1 kb e81 v2 (0 : Int32) v2 μ_4) else e81 μ_3
theorem tb_X12_shared_L45 (N : Nat) (c1 : Int32) (kb : Int32 → z_S → Option (Int32 × z_S)) (e81 : z_S → Option (Int32 × z_S)) (hkb : ∀ (a2 : Int32) (μ : z_S), z_sim false rI mX12_shared 2 (kb a2 μ) 45 [(0, .ref 253), (1, .int c1), (2, .int a2)] [] μ) (he81 : ∀ (μ : z_S), z_sim false rI mX12_shared 2 (e81 μ) 81 [(0, .ref 253), (1, .int c1)] [] μ) (v2 : Int32) (μ : z_S) : z_sim false rI mX12_shared 2 (b_X12_shared_L45 N c1 kb e81 v2 μ) 45 [(0, .ref 253), (1, .int c1), (2, .int v2)] [] μ := by
  unfold b_X12_shared_L45
  refine s_iload_n (pc := 45) 2 dX12_shared_45 rfl rfl ?_
  refine s_aload_n (pc := 46) 0 dX12_shared_46 rfl rfl ?_
  refine s_callVI (pc := 47) (as := []) (st := [.int v2]) dX12_shared_47 lk_12_419 kd_253 (t_X12_letterMany N μ) (by omega) rfl (Nat.le_of_ble_eq_true rfl) rfl (fun x2 μ_3 => ?_)
  refine s_icmp_ge (pc := 50) (tgt := 81) dX12_shared_50 (by decide) ?_ ?_
  · refine s_aload_n (pc := 53) 0 dX12_shared_53 rfl rfl ?_
    refine s_getR (pc := 54) (ci := 12) (k := 58) (r := 299) dX12_shared_54 fl_12_151 kd_253 rfl rs_253_58 ?_
    refine s_iload_n (pc := 57) 2 dX12_shared_57 rfl rfl ?_
    refine s_aload_n (pc := 58) 0 dX12_shared_58 rfl rfl ?_
    refine s_iload_n (pc := 59) 2 dX12_shared_59 rfl rfl ?_
    refine s_callVI (pc := 60) (as := [.int v2]) (st := [.int v2, .ref 299]) dX12_shared_60 lk_12_507 kd_253 (t_X12_giftOf N v2 μ_3) (by omega) rfl (Nat.le_of_ble_eq_true rfl) rfl (fun x3 μ_4 => ?_)
    refine s_if_ne (pc := 63) (tgt := 73) dX12_shared_63 (by decide) ?_ ?_
    · refine s_aload_n (pc := 66) 0 dX12_shared_66 rfl rfl ?_
      refine s_callVI (pc := 67) (as := []) (st := [.int v2, .ref 299]) dX12_shared_67 lk_12_410 kd_253 (t_X12_giftMany N μ_4) (by omega) rfl (Nat.le_of_ble_eq_true rfl) rfl (fun x4 μ_5 => ?_)
      refine s_goto (pc := 70) (tgt := 74) dX12_shared_70 (by decide) ?_
      exact t_X12_shared_B74 N c1 kb e81 hkb he81 v2 x4 v2 μ_5
    · refine s_iconst (pc := 73) (v := (0 : Int32)) dX12_shared_73 (by decide) ?_
      exact t_X12_shared_B74 N c1 kb e81 hkb he81 v2 (0 : Int32) v2 μ_4
  · refine s_sub (lv' := [(0, .ref 253), (1, .int c1)]) [0, 1] rfl ?_
    exact he81 μ_3
def f_X12_shared_L45 (N : Nat) (c1 : Int32) (e81 : z_S → Option (Int32 × z_S)) : Nat → Int32 → z_S → Option (Int32 × z_S)
  | 0, _, _ => none
  | n + 1, v2, μ => b_X12_shared_L45 N c1 (f_X12_shared_L45 N c1 e81 n) e81 v2 μ
theorem t_X12_shared_L45 (N : Nat) (c1 : Int32) (e81 : z_S → Option (Int32 × z_S)) (he81 : ∀ (μ : z_S), z_sim false rI mX12_shared 2 (e81 μ) 81 [(0, .ref 253), (1, .int c1)] [] μ) : ∀ (n : Nat) (v2 : Int32) (μ : z_S), z_sim false rI mX12_shared 2 (f_X12_shared_L45 N c1 e81 n v2 μ) 45 [(0, .ref 253), (1, .int c1), (2, .int v2)] [] μ
  | 0, _, _ => s_none
  | n + 1, v2, μ => tb_X12_shared_L45 N c1 (f_X12_shared_L45 N c1 e81 n) e81 (t_X12_shared_L45 N c1 e81 he81 n) he81 v2 μ
def b_X12_shared_L115 (N : Nat) (c1 : Int32) (c2 : Int32) (kb : Int32 → z_S → Option (Int32 × z_S)) (e142 : z_S → Option (Int32 × z_S)) (v4 : Int32) (μ : z_S) : Option (Int32 × z_S) :=
  if v4 < (8 : Int32) then (z_in v4 8 <| z_in v4 8 <| z_bd (z_setI μ 300 v4.toNatClampNeg (μ.1 298 v4.toNatClampNeg)) fun μ_10 => z_bd (v4 + 1) fun x9 => kb x9 μ_10) else e142 μ
theorem tb_X12_shared_L115 (N : Nat) (c1 : Int32) (c2 : Int32) (kb : Int32 → z_S → Option (Int32 × z_S)) (e142 : z_S → Option (Int32 × z_S)) (hkb : ∀ (a4 : Int32) (μ : z_S), z_sim false rI mX12_shared 2 (kb a4 μ) 115 [(0, .ref 253), (1, .int c1), (2, .int c2), (4, .int a4)] [] μ) (he142 : ∀ (μ : z_S), z_sim false rI mX12_shared 2 (e142 μ) 142 [(0, .ref 253), (1, .int c1), (2, .int c2)] [] μ) (v4 : Int32) (μ : z_S) : z_sim false rI mX12_shared 2 (b_X12_shared_L115 N c1 c2 kb e142 v4 μ) 115 [(0, .ref 253), (1, .int c1), (2, .int c2), (4, .int v4)] [] μ := by
  unfold b_X12_shared_L115
  refine s_iload (pc := 115) 3 dX12_shared_115 rfl ?_
  refine s_bipush (pc := 117) (v := (8 : Int32)) dX12_shared_117 (by decide) ?_
  refine s_icmp_ge (pc := 119) (tgt := 142) dX12_shared_119 (by decide) ?_ ?_
  · refine s_aload_n (pc := 122) 0 dX12_shared_122 rfl rfl ?_
    refine s_getR (pc := 123) (ci := 12) (k := 59) (r := 300) dX12_shared_123 fl_12_154 kd_253 rfl rs_253_59 ?_
    refine s_iload (pc := 126) 3 dX12_shared_126 rfl ?_
    refine s_aload_n (pc := 128) 0 dX12_shared_128 rfl rfl ?_
    refine s_getR (pc := 129) (ci := 12) (k := 57) (r := 298) dX12_shared_129 fl_12_148 kd_253 rfl rs_253_57 ?_
    refine s_iload (pc := 132) 3 dX12_shared_132 rfl ?_
    refine s_iald (pc := 134) dX12_shared_134 kd_298 ?_
    refine s_iast (pc := 135) dX12_shared_135 kd_300 (fun μ_10 => ?_)
    refine s_iincB (pc := 136) (lv' := fun x9 => [(4, .int x9), (0, .ref 253), (1, .int c1), (2, .int c2)]) (c := 1) 3 dX12_shared_136 rfl (by decide) (by decide) (fun _ => rfl) (fun x9 => ?_)
    refine s_goto (pc := 139) (tgt := 115) dX12_shared_139 (by decide) ?_
    refine s_sub (lv' := [(0, .ref 253), (1, .int c1), (2, .int c2), (4, .int x9)]) [1, 2, 3, 0] rfl ?_
    exact hkb x9 μ_10
  · refine s_sub (lv' := [(0, .ref 253), (1, .int c1), (2, .int c2)]) [0, 1, 2] rfl ?_
    exact he142 μ
def f_X12_shared_L115 (N : Nat) (c1 : Int32) (c2 : Int32) (e142 : z_S → Option (Int32 × z_S)) : Nat → Int32 → z_S → Option (Int32 × z_S)
  | 0, _, _ => none
  | n + 1, v4, μ => b_X12_shared_L115 N c1 c2 (f_X12_shared_L115 N c1 c2 e142 n) e142 v4 μ
theorem t_X12_shared_L115 (N : Nat) (c1 : Int32) (c2 : Int32) (e142 : z_S → Option (Int32 × z_S)) (he142 : ∀ (μ : z_S), z_sim false rI mX12_shared 2 (e142 μ) 142 [(0, .ref 253), (1, .int c1), (2, .int c2)] [] μ) : ∀ (n : Nat) (v4 : Int32) (μ : z_S), z_sim false rI mX12_shared 2 (f_X12_shared_L115 N c1 c2 e142 n v4 μ) 115 [(0, .ref 253), (1, .int c1), (2, .int c2), (4, .int v4)] [] μ
  | 0, _, _ => s_none
  | n + 1, v4, μ => tb_X12_shared_L115 N c1 c2 (f_X12_shared_L115 N c1 c2 e142 n) e142 (t_X12_shared_L115 N c1 c2 e142 he142 n) he142 v4 μ
def b_X12_shared_L83 (N : Nat) (c1 : Int32) (kb : Int32 → z_S → Option (Int32 × z_S)) (e145 : Int32 → z_S → Option (Int32 × z_S)) (v2 : Int32) (μ : z_S) : Option (Int32 × z_S) :=
  z_bn (f_X12_isNextRow N μ) fun x6 μ_7 => if x6 = 0 then (e145 v2 μ_7) else z_bn (f_X12_sharedIn N μ_7) fun x7 μ_8 => if v2 < x7 then (z_bn (f_X12_canGive N μ_8) fun x8 μ_9 => if x8 = 0 then (kb v2 μ_9) else f_X12_shared_L115 N c1 x7 (fun μ142 => kb x7 μ142) N (0 : Int32) μ_9) else kb v2 μ_8
theorem tb_X12_shared_L83 (N : Nat) (c1 : Int32) (kb : Int32 → z_S → Option (Int32 × z_S)) (e145 : Int32 → z_S → Option (Int32 × z_S)) (hkb : ∀ (a2 : Int32) (μ : z_S), z_sim false rI mX12_shared 2 (kb a2 μ) 83 [(0, .ref 253), (1, .int c1), (2, .int a2)] [] μ) (he145 : ∀ (a2 : Int32) (μ : z_S), z_sim false rI mX12_shared 2 (e145 a2 μ) 145 [(0, .ref 253), (1, .int c1), (2, .int a2)] [] μ) (v2 : Int32) (μ : z_S) : z_sim false rI mX12_shared 2 (b_X12_shared_L83 N c1 kb e145 v2 μ) 83 [(0, .ref 253), (1, .int c1), (2, .int v2)] [] μ := by
  unfold b_X12_shared_L83
  refine s_aload_n (pc := 83) 0 dX12_shared_83 rfl rfl ?_
  refine s_callVI (pc := 84) (as := []) (st := []) dX12_shared_84 lk_12_473 kd_253 (t_X12_isNextRow N μ) (by omega) rfl (by decide) rfl (fun x6 μ_7 => ?_)
  refine s_if_eq (pc := 87) (tgt := 145) dX12_shared_87 (by decide) ?_ ?_
  · exact he145 v2 μ_7
  · refine s_aload_n (pc := 90) 0 dX12_shared_90 rfl rfl ?_
    refine s_callVI (pc := 91) (as := []) (st := []) dX12_shared_91 lk_12_545 kd_253 (t_X12_sharedIn N μ_7) (by omega) rfl (by decide) rfl (fun x7 μ_8 => ?_)
    refine s_istore_n (pc := 94) (lv' := [(3, .int x7), (0, .ref 253), (1, .int c1), (2, .int v2)]) dX12_shared_94 rfl (by decide) rfl ?_
    refine s_iload_n (pc := 95) 0 dX12_shared_95 rfl rfl ?_
    refine s_iload_n (pc := 96) 3 dX12_shared_96 rfl rfl ?_
    refine s_icmp_le (pc := 97) (tgt := 83) dX12_shared_97 (by decide) ?_ ?_
    · refine s_aload_n (pc := 100) 1 dX12_shared_100 rfl rfl ?_
      refine s_callVI (pc := 101) (as := []) (st := []) dX12_shared_101 lk_12_548 kd_253 (t_X12_canGive N μ_8) (by omega) rfl (by decide) rfl (fun x8 μ_9 => ?_)
      refine s_if_ne (pc := 104) (tgt := 110) dX12_shared_104 (by decide) ?_ ?_
      · refine s_goto (pc := 107) (tgt := 83) dX12_shared_107 (by decide) ?_
        refine s_sub (lv' := [(0, .ref 253), (1, .int c1), (2, .int v2)]) [1, 2, 3] rfl ?_
        exact hkb v2 μ_9
      · refine s_iload_n (pc := 110) 0 dX12_shared_110 rfl rfl ?_
        refine s_istore_n (pc := 111) (lv' := [(2, .int x7), (3, .int x7), (0, .ref 253), (1, .int c1)]) dX12_shared_111 rfl (by decide) rfl ?_
        refine s_iconst (pc := 112) (v := (0 : Int32)) dX12_shared_112 (by decide) ?_
        refine s_istore (pc := 113) (lv' := [(4, .int (0 : Int32)), (2, .int x7), (3, .int x7), (0, .ref 253), (1, .int c1)]) dX12_shared_113 (by decide) rfl ?_
        refine s_sub (lv' := [(0, .ref 253), (1, .int c1), (2, .int x7), (4, .int (0 : Int32))]) [3, 4, 1, 0] rfl ?_
        refine t_X12_shared_L115 N c1 x7 _ ?_ N (0 : Int32) μ_9
        · intro μ142
          refine s_goto (pc := 142) (tgt := 83) dX12_shared_142 (by decide) ?_
          exact hkb x7 μ142
    · refine s_sub (lv' := [(0, .ref 253), (1, .int c1), (2, .int v2)]) [1, 2, 3] rfl ?_
      exact hkb v2 μ_8
def f_X12_shared_L83 (N : Nat) (c1 : Int32) (e145 : Int32 → z_S → Option (Int32 × z_S)) : Nat → Int32 → z_S → Option (Int32 × z_S)
  | 0, _, _ => none
  | n + 1, v2, μ => b_X12_shared_L83 N c1 (f_X12_shared_L83 N c1 e145 n) e145 v2 μ
theorem t_X12_shared_L83 (N : Nat) (c1 : Int32) (e145 : Int32 → z_S → Option (Int32 × z_S)) (he145 : ∀ (a2 : Int32) (μ : z_S), z_sim false rI mX12_shared 2 (e145 a2 μ) 145 [(0, .ref 253), (1, .int c1), (2, .int a2)] [] μ) : ∀ (n : Nat) (v2 : Int32) (μ : z_S), z_sim false rI mX12_shared 2 (f_X12_shared_L83 N c1 e145 n v2 μ) 83 [(0, .ref 253), (1, .int c1), (2, .int v2)] [] μ
  | 0, _, _ => s_none
  | n + 1, v2, μ => tb_X12_shared_L83 N c1 (f_X12_shared_L83 N c1 e145 n) e145 (t_X12_shared_L83 N c1 e145 he145 n) he145 v2 μ
def f_X12_shared_B15 (N : Nat)  (v1 : Int32) (μ : z_S) : Option (Int32 × z_S) :=
  f_X12_shared_L17 N v1 (fun μ43 => f_X12_shared_L45 N v1 (fun μ81 => f_X12_shared_L83 N v1 (fun y145_2 μ145 => if v1 = (-1 : Int32) then (some (y145_2, μ145)) else z_in v1 8 <| some (((μ145.1 300 v1.toNatClampNeg) - (1 : Int32)), μ145)) N (0 : Int32) μ81) N (0 : Int32) μ43) N (0 : Int32) μ
theorem t_X12_shared_B15 (N : Nat)     (v1 : Int32)  (μ : z_S) : z_sim false rI mX12_shared 2 (f_X12_shared_B15 N   v1 μ) 15 [(0, .ref 253), (1, .int v1)] [] μ := by
  unfold f_X12_shared_B15
  refine s_iconst (pc := 15) (v := (0 : Int32)) dX12_shared_15 (by decide) ?_
  refine s_istore_n (pc := 16) (lv' := [(2, .int (0 : Int32)), (0, .ref 253), (1, .int v1)]) dX12_shared_16 rfl (by decide) rfl ?_
  refine s_sub (lv' := [(0, .ref 253), (1, .int v1), (2, .int (0 : Int32))]) [1, 2, 0] rfl ?_
  refine t_X12_shared_L17 N v1 _ ?_ N (0 : Int32) μ
  · intro μ43
    refine s_iconst (pc := 43) (v := (0 : Int32)) dX12_shared_43 (by decide) ?_
    refine s_istore_n (pc := 44) (lv' := [(2, .int (0 : Int32)), (0, .ref 253), (1, .int v1)]) dX12_shared_44 rfl (by decide) rfl ?_
    refine s_sub (lv' := [(0, .ref 253), (1, .int v1), (2, .int (0 : Int32))]) [1, 2, 0] rfl ?_
    refine t_X12_shared_L45 N v1 _ ?_ N (0 : Int32) μ43
    · intro μ81
      refine s_iconst (pc := 81) (v := (0 : Int32)) dX12_shared_81 (by decide) ?_
      refine s_istore_n (pc := 82) (lv' := [(2, .int (0 : Int32)), (0, .ref 253), (1, .int v1)]) dX12_shared_82 rfl (by decide) rfl ?_
      refine s_sub (lv' := [(0, .ref 253), (1, .int v1), (2, .int (0 : Int32))]) [1, 2, 0] rfl ?_
      refine t_X12_shared_L83 N v1 _ ?_ N (0 : Int32) μ81
      · intro y145_2 μ145
        refine s_iload_n (pc := 145) 1 dX12_shared_145 rfl rfl ?_
        refine s_iconst (pc := 146) (v := (-1 : Int32)) dX12_shared_146 (by decide) ?_
        refine s_icmp_ne (pc := 147) (tgt := 154) dX12_shared_147 (by decide) ?_ ?_
        · refine s_iload_n (pc := 150) 2 dX12_shared_150 rfl rfl ?_
          refine s_goto (pc := 151) (tgt := 162) dX12_shared_151 (by decide) ?_
          exact s_iret (pc := 162) rfl dX12_shared_162 rfl
        · refine s_aload_n (pc := 154) 0 dX12_shared_154 rfl rfl ?_
          refine s_getR (pc := 155) (ci := 12) (k := 59) (r := 300) dX12_shared_155 fl_12_154 kd_253 rfl rs_253_59 ?_
          refine s_iload_n (pc := 158) 1 dX12_shared_158 rfl rfl ?_
          refine s_iald (pc := 159) dX12_shared_159 kd_300 ?_
          refine s_iconst (pc := 160) (v := (1 : Int32)) dX12_shared_160 (by decide) ?_
          refine s_isub (pc := 161) dX12_shared_161 ?_
          exact s_iret (pc := 162) rfl dX12_shared_162 rfl
def f_X12_shared (N : Nat) (a1 : Int32) (μ : z_S) : Option (Int32 × z_S) :=
  if a1 = (-1 : Int32) then (f_X12_shared_B15 N a1 μ) else z_bn (f_X12_isMail N a1 μ) fun x10 μ_11 => if x10 = 0 then (some ((-1 : Int32), μ_11)) else f_X12_shared_B15 N a1 μ_11
theorem t_X12_shared (N : Nat) (a1 : Int32) (μ : z_S) : z_met false rI mX12_shared 2 [.ref 253, .int a1] μ (f_X12_shared N a1 μ) := by
  refine z_met.of (by decide +kernel) (by show _ ≤ _; first | decide | exact Nat.le_of_ble_eq_true rfl) (lv := [(0, .ref 253), (1, .int a1)]) rfl ?_
  unfold f_X12_shared
  refine s_iload_n (pc := 0) 1 dX12_shared_0 rfl rfl ?_
  refine s_iconst (pc := 1) (v := (-1 : Int32)) dX12_shared_1 (by decide) ?_
  refine s_icmp_eq (pc := 2) (tgt := 15) dX12_shared_2 (by decide) ?_ ?_
  · exact t_X12_shared_B15 N a1 μ
  · refine s_aload_n (pc := 5) 0 dX12_shared_5 rfl rfl ?_
    refine s_iload_n (pc := 6) 1 dX12_shared_6 rfl rfl ?_
    refine s_callVI (pc := 7) (as := [.int a1]) (st := []) dX12_shared_7 lk_12_501 kd_253 (t_X12_isMail N a1 μ) (by omega) rfl (by decide) rfl (fun x10 μ_11 => ?_)
    refine s_if_ne (pc := 10) (tgt := 15) dX12_shared_10 (by decide) ?_ ?_
    · refine s_iconst (pc := 13) (v := (-1 : Int32)) dX12_shared_13 (by decide) ?_
      exact s_iret (pc := 14) rfl dX12_shared_14 rfl
    · exact t_X12_shared_B15 N a1 μ_11
def f_X12_lostBy_B49 (N : Nat) (c1 : Int32) (kb : Int32 → Int32 → z_S → Option (Int32 × z_S)) (v3 : Int32) (s0 : Int32) (s1 : Int32) (μ : z_S) : Option (Int32 × z_S) :=
  z_bd (s1 + s0) fun x3 => z_bd (v3 + 1) fun x4 => kb x3 x4 μ
theorem t_X12_lostBy_B49 (N : Nat) (c1 : Int32)  (kb : Int32 → Int32 → z_S → Option (Int32 × z_S)) (hkb : ∀ (a2 : Int32) (a3 : Int32) (μ : z_S), z_sim false rI mX12_lostBy 1 (kb a2 a3 μ) 4 [(0, .ref 253), (1, .int c1), (2, .int a2), (3, .int a3)] [] μ) (v3 : Int32) (s0 : Int32) (s1 : Int32)  (μ : z_S) : z_sim false rI mX12_lostBy 1 (f_X12_lostBy_B49 N c1 kb v3 s0 s1 μ) 49 [(0, .ref 253), (1, .int c1), (3, .int v3)] [.int s0, .int s1] μ := by
  unfold f_X12_lostBy_B49
  refine s_iadd (pc := 49) dX12_lostBy_49 ?_
  refine s_letI (fun x3 => ?_)
  refine s_istore_n (pc := 50) (lv' := [(2, .int x3), (0, .ref 253), (1, .int c1), (3, .int v3)]) dX12_lostBy_50 rfl (by decide) rfl ?_
  refine s_iincB (pc := 51) (lv' := fun x4 => [(3, .int x4), (2, .int x3), (0, .ref 253), (1, .int c1)]) (c := 1) 3 dX12_lostBy_51 rfl (by decide) (by decide) (fun _ => rfl) (fun x4 => ?_)
  refine s_goto (pc := 54) (tgt := 4) dX12_lostBy_54 (by decide) ?_
  refine s_sub (lv' := [(0, .ref 253), (1, .int c1), (2, .int x3), (3, .int x4)]) [2, 3, 1, 0] rfl ?_
  exact hkb x3 x4 μ
def b_X12_lostBy_L4 (N : Nat) (c1 : Int32) (kb : Int32 → Int32 → z_S → Option (Int32 × z_S)) (v2 : Int32) (v3 : Int32) (μ : z_S) : Option (Int32 × z_S) :=
  z_bn (f_X12_letterMany N μ) fun x1 μ_1 => if v3 < x1 then (z_in ((26 : Int32) + ((3 : Int32) * v3)) 48 <| z_bd (μ_1.1 286 ((26 : Int32) + ((3 : Int32) * v3)).toNatClampNeg) fun x2 => if x2 < c1 then (f_X12_lostBy_B49 N c1 kb v3 ((μ_1.1 292 2) * x2) v2 μ_1) else f_X12_lostBy_B49 N c1 kb v3 ((10 : Int32) - x2) v2 μ_1) else some (v2, μ_1)
theorem tb_X12_lostBy_L4 (N : Nat) (c1 : Int32) (kb : Int32 → Int32 → z_S → Option (Int32 × z_S)) (hkb : ∀ (a2 : Int32) (a3 : Int32) (μ : z_S), z_sim false rI mX12_lostBy 1 (kb a2 a3 μ) 4 [(0, .ref 253), (1, .int c1), (2, .int a2), (3, .int a3)] [] μ) (v2 : Int32) (v3 : Int32) (μ : z_S) : z_sim false rI mX12_lostBy 1 (b_X12_lostBy_L4 N c1 kb v2 v3 μ) 4 [(0, .ref 253), (1, .int c1), (2, .int v2), (3, .int v3)] [] μ := by
  unfold b_X12_lostBy_L4
  refine s_iload_n (pc := 4) 3 dX12_lostBy_4 rfl rfl ?_
  refine s_aload_n (pc := 5) 0 dX12_lostBy_5 rfl rfl ?_
  refine s_callVI (pc := 6) (as := []) (st := [.int v3]) dX12_lostBy_6 lk_12_419 kd_253 (t_X12_letterMany N μ) (by omega) rfl (Nat.le_of_ble_eq_true rfl) rfl (fun x1 μ_1 => ?_)
  refine s_icmp_ge (pc := 9) (tgt := 57) dX12_lostBy_9 (by decide) ?_ ?_
  · refine s_aload_n (pc := 12) 0 dX12_lostBy_12 rfl rfl ?_
    refine s_getR (pc := 13) (ci := 12) (k := 41) (r := 286) dX12_lostBy_13 fl_12_112 kd_253 rfl rs_253_41 ?_
    refine s_bipush (pc := 16) (v := (26 : Int32)) dX12_lostBy_16 (by decide) ?_
    refine s_iconst (pc := 18) (v := (3 : Int32)) dX12_lostBy_18 (by decide) ?_
    refine s_iload_n (pc := 19) 3 dX12_lostBy_19 rfl rfl ?_
    refine s_imul (pc := 20) dX12_lostBy_20 ?_
    refine s_iadd (pc := 21) dX12_lostBy_21 ?_
    refine s_iald (pc := 22) dX12_lostBy_22 kd_286 ?_
    refine s_letI (fun x2 => ?_)
    refine s_istore (pc := 23) (lv' := [(4, .int x2), (0, .ref 253), (1, .int c1), (2, .int v2), (3, .int v3)]) dX12_lostBy_23 (by decide) rfl ?_
    refine s_iload_n (pc := 25) 3 dX12_lostBy_25 rfl rfl ?_
    refine s_iload (pc := 26) 0 dX12_lostBy_26 rfl ?_
    refine s_iload_n (pc := 28) 2 dX12_lostBy_28 rfl rfl ?_
    refine s_icmp_lt (pc := 29) (tgt := 40) dX12_lostBy_29 (by decide) ?_ ?_
    · refine s_aload_n (pc := 40) 1 dX12_lostBy_40 rfl rfl ?_
      refine s_getR (pc := 41) (ci := 12) (k := 47) (r := 292) dX12_lostBy_41 fl_12_130 kd_253 rfl rs_253_47 ?_
      refine s_iconst (pc := 44) (v := (2 : Int32)) dX12_lostBy_44 (by decide) ?_
      refine s_ialdK (pc := 45) (k := 2) dX12_lostBy_45 kd_292 (by decide) (by decide) (by decide) ?_
      refine s_iload (pc := 46) 0 dX12_lostBy_46 rfl ?_
      refine s_imul (pc := 48) dX12_lostBy_48 ?_
      refine s_sub (lv' := [(0, .ref 253), (1, .int c1), (3, .int v3)]) [1, 2, 4] rfl ?_
      exact t_X12_lostBy_B49 N c1 kb hkb v3 ((μ_1.1 292 2) * x2) v2 μ_1
    · refine s_bipush (pc := 32) (v := (10 : Int32)) dX12_lostBy_32 (by decide) ?_
      refine s_iload (pc := 34) 0 dX12_lostBy_34 rfl ?_
      refine s_isub (pc := 36) dX12_lostBy_36 ?_
      refine s_goto (pc := 37) (tgt := 49) dX12_lostBy_37 (by decide) ?_
      refine s_sub (lv' := [(0, .ref 253), (1, .int c1), (3, .int v3)]) [1, 2, 4] rfl ?_
      exact t_X12_lostBy_B49 N c1 kb hkb v3 ((10 : Int32) - x2) v2 μ_1
  · refine s_iload_n (pc := 57) 2 dX12_lostBy_57 rfl rfl ?_
    exact s_iret (pc := 58) rfl dX12_lostBy_58 rfl
def f_X12_lostBy_L4 (N : Nat) (c1 : Int32) : Nat → Int32 → Int32 → z_S → Option (Int32 × z_S)
  | 0, _, _, _ => none
  | n + 1, v2, v3, μ => b_X12_lostBy_L4 N c1 (f_X12_lostBy_L4 N c1 n) v2 v3 μ
theorem t_X12_lostBy_L4 (N : Nat) (c1 : Int32) : ∀ (n : Nat) (v2 : Int32) (v3 : Int32) (μ : z_S), z_sim false rI mX12_lostBy 1 (f_X12_lostBy_L4 N c1 n v2 v3 μ) 4 [(0, .ref 253), (1, .int c1), (2, .int v2), (3, .int v3)] [] μ
  | 0, _, _, _ => s_none
  | n + 1, v2, v3, μ => tb_X12_lostBy_L4 N c1 (f_X12_lostBy_L4 N c1 n) (t_X12_lostBy_L4 N c1 n) v2 v3 μ
def f_X12_lostBy (N : Nat) (a1 : Int32) (μ : z_S) : Option (Int32 × z_S) :=
  f_X12_lostBy_L4 N a1 N (0 : Int32) (0 : Int32) μ
theorem t_X12_lostBy (N : Nat) (a1 : Int32) (μ : z_S) : z_met false rI mX12_lostBy 1 [.ref 253, .int a1] μ (f_X12_lostBy N a1 μ) := by
  refine z_met.of (by decide +kernel) (by show _ ≤ _; first | decide | exact Nat.le_of_ble_eq_true rfl) (lv := [(0, .ref 253), (1, .int a1)]) rfl ?_
  unfold f_X12_lostBy
  refine s_iconst (pc := 0) (v := (0 : Int32)) dX12_lostBy_0 (by decide) ?_
  refine s_istore_n (pc := 1) (lv' := [(2, .int (0 : Int32)), (0, .ref 253), (1, .int a1)]) dX12_lostBy_1 rfl (by decide) rfl ?_
  refine s_iconst (pc := 2) (v := (0 : Int32)) dX12_lostBy_2 (by decide) ?_
  refine s_istore_n (pc := 3) (lv' := [(3, .int (0 : Int32)), (2, .int (0 : Int32)), (0, .ref 253), (1, .int a1)]) dX12_lostBy_3 rfl (by decide) rfl ?_
  refine s_sub (lv' := [(0, .ref 253), (1, .int a1), (2, .int (0 : Int32)), (3, .int (0 : Int32))]) [2, 3, 1, 0] rfl ?_
  refine t_X12_lostBy_L4 N a1 N (0 : Int32) (0 : Int32) μ
def f_X12_tell_B25 (N : Nat) (c1 : Int32) (kb : Int32 → Int32 → z_S → Option (Int32 × z_S)) (e31 : Int32 → z_S → Option (Int32 × z_S)) (v2 : Int32) (v3 : Int32) (μ : z_S) : Option (Int32 × z_S) :=
  z_bd (v3 + 1) fun x3 => kb v2 x3 μ
theorem t_X12_tell_B25 (N : Nat) (c1 : Int32)  (kb : Int32 → Int32 → z_S → Option (Int32 × z_S)) (e31 : Int32 → z_S → Option (Int32 × z_S)) (hkb : ∀ (a2 : Int32) (a3 : Int32) (μ : z_S), z_sim false rI mX12_tell 2 (kb a2 a3 μ) 4 [(0, .ref 253), (1, .int c1), (2, .int a2), (3, .int a3)] [] μ) (he31 : ∀ (a2 : Int32) (μ : z_S), z_sim false rI mX12_tell 2 (e31 a2 μ) 31 [(0, .ref 253), (1, .int c1), (2, .int a2)] [] μ) (v2 : Int32) (v3 : Int32)  (μ : z_S) : z_sim false rI mX12_tell 2 (f_X12_tell_B25 N c1 kb e31 v2 v3 μ) 25 [(0, .ref 253), (1, .int c1), (2, .int v2), (3, .int v3)] [] μ := by
  unfold f_X12_tell_B25
  refine s_iincB (pc := 25) (lv' := fun x3 => [(3, .int x3), (0, .ref 253), (1, .int c1), (2, .int v2)]) (c := 1) 3 dX12_tell_25 rfl (by decide) (by decide) (fun _ => rfl) (fun x3 => ?_)
  refine s_goto (pc := 28) (tgt := 4) dX12_tell_28 (by decide) ?_
  refine s_sub (lv' := [(0, .ref 253), (1, .int c1), (2, .int v2), (3, .int x3)]) [1, 2, 3, 0] rfl ?_
  exact hkb v2 x3 μ
def b_X12_tell_L4 (N : Nat) (c1 : Int32) (kb : Int32 → Int32 → z_S → Option (Int32 × z_S)) (e31 : Int32 → z_S → Option (Int32 × z_S)) (v2 : Int32) (v3 : Int32) (μ : z_S) : Option (Int32 × z_S) :=
  if v3 < (12 : Int32) then (z_bn (f_X12_lostBy N v3 μ) fun x1 μ_1 => z_bn (f_X12_lostBy N v2 μ_1) fun x2 μ_2 => if x1 < x2 then (f_X12_tell_B25 N c1 kb e31 v3 v3 μ_2) else f_X12_tell_B25 N c1 kb e31 v2 v3 μ_2) else e31 v2 μ
theorem tb_X12_tell_L4 (N : Nat) (c1 : Int32) (kb : Int32 → Int32 → z_S → Option (Int32 × z_S)) (e31 : Int32 → z_S → Option (Int32 × z_S)) (hkb : ∀ (a2 : Int32) (a3 : Int32) (μ : z_S), z_sim false rI mX12_tell 2 (kb a2 a3 μ) 4 [(0, .ref 253), (1, .int c1), (2, .int a2), (3, .int a3)] [] μ) (he31 : ∀ (a2 : Int32) (μ : z_S), z_sim false rI mX12_tell 2 (e31 a2 μ) 31 [(0, .ref 253), (1, .int c1), (2, .int a2)] [] μ) (v2 : Int32) (v3 : Int32) (μ : z_S) : z_sim false rI mX12_tell 2 (b_X12_tell_L4 N c1 kb e31 v2 v3 μ) 4 [(0, .ref 253), (1, .int c1), (2, .int v2), (3, .int v3)] [] μ := by
  unfold b_X12_tell_L4
  refine s_iload_n (pc := 4) 3 dX12_tell_4 rfl rfl ?_
  refine s_bipush (pc := 5) (v := (12 : Int32)) dX12_tell_5 (by decide) ?_
  refine s_icmp_ge (pc := 7) (tgt := 31) dX12_tell_7 (by decide) ?_ ?_
  · refine s_aload_n (pc := 10) 0 dX12_tell_10 rfl rfl ?_
    refine s_iload_n (pc := 11) 3 dX12_tell_11 rfl rfl ?_
    refine s_callVI (pc := 12) (as := [.int v3]) (st := []) dX12_tell_12 lk_12_551 kd_253 (t_X12_lostBy N v3 μ) (by omega) rfl (by decide) rfl (fun x1 μ_1 => ?_)
    refine s_aload_n (pc := 15) 0 dX12_tell_15 rfl rfl ?_
    refine s_iload_n (pc := 16) 2 dX12_tell_16 rfl rfl ?_
    refine s_callVI (pc := 17) (as := [.int v2]) (st := [.int x1]) dX12_tell_17 lk_12_551 kd_253 (t_X12_lostBy N v2 μ_1) (by omega) rfl (Nat.le_of_ble_eq_true rfl) rfl (fun x2 μ_2 => ?_)
    refine s_icmp_ge (pc := 20) (tgt := 25) dX12_tell_20 (by decide) ?_ ?_
    · refine s_iload_n (pc := 23) 3 dX12_tell_23 rfl rfl ?_
      refine s_istore_n (pc := 24) (lv' := [(2, .int v3), (0, .ref 253), (1, .int c1), (3, .int v3)]) dX12_tell_24 rfl (by decide) rfl ?_
      refine s_sub (lv' := [(0, .ref 253), (1, .int c1), (2, .int v3), (3, .int v3)]) [1, 2, 0, 3] rfl ?_
      exact t_X12_tell_B25 N c1 kb e31 hkb he31 v3 v3 μ_2
    · exact t_X12_tell_B25 N c1 kb e31 hkb he31 v2 v3 μ_2
  · refine s_sub (lv' := [(0, .ref 253), (1, .int c1), (2, .int v2)]) [0, 1, 2] rfl ?_
    exact he31 v2 μ
def f_X12_tell_L4 (N : Nat) (c1 : Int32) (e31 : Int32 → z_S → Option (Int32 × z_S)) : Nat → Int32 → Int32 → z_S → Option (Int32 × z_S)
  | 0, _, _, _ => none
  | n + 1, v2, v3, μ => b_X12_tell_L4 N c1 (f_X12_tell_L4 N c1 e31 n) e31 v2 v3 μ
theorem t_X12_tell_L4 (N : Nat) (c1 : Int32) (e31 : Int32 → z_S → Option (Int32 × z_S)) (he31 : ∀ (a2 : Int32) (μ : z_S), z_sim false rI mX12_tell 2 (e31 a2 μ) 31 [(0, .ref 253), (1, .int c1), (2, .int a2)] [] μ) : ∀ (n : Nat) (v2 : Int32) (v3 : Int32) (μ : z_S), z_sim false rI mX12_tell 2 (f_X12_tell_L4 N c1 e31 n v2 v3 μ) 4 [(0, .ref 253), (1, .int c1), (2, .int v2), (3, .int v3)] [] μ
  | 0, _, _, _ => s_none
  | n + 1, v2, v3, μ => tb_X12_tell_L4 N c1 (f_X12_tell_L4 N c1 e31 n) e31 (t_X12_tell_L4 N c1 e31 he31 n) he31 v2 v3 μ
def f_X12_tell (N : Nat) (a1 : Int32) (μ : z_S) : Option (Int32 × z_S) :=
  f_X12_tell_L4 N a1 (fun y31_2 μ31 => if a1 = 0 then (some (y31_2, μ31)) else if a1 = (1 : Int32) then (z_bn (f_X12_lostBy N y31_2 μ31) fun x4 μ_3 => some (x4, μ_3)) else some ((-1 : Int32), μ31)) N (0 : Int32) (1 : Int32) μ
theorem t_X12_tell (N : Nat) (a1 : Int32) (μ : z_S) : z_met false rI mX12_tell 2 [.ref 253, .int a1] μ (f_X12_tell N a1 μ) := by
  refine z_met.of (by decide +kernel) (by show _ ≤ _; first | decide | exact Nat.le_of_ble_eq_true rfl) (lv := [(0, .ref 253), (1, .int a1)]) rfl ?_
  unfold f_X12_tell
  refine s_iconst (pc := 0) (v := (0 : Int32)) dX12_tell_0 (by decide) ?_
  refine s_istore_n (pc := 1) (lv' := [(2, .int (0 : Int32)), (0, .ref 253), (1, .int a1)]) dX12_tell_1 rfl (by decide) rfl ?_
  refine s_iconst (pc := 2) (v := (1 : Int32)) dX12_tell_2 (by decide) ?_
  refine s_istore_n (pc := 3) (lv' := [(3, .int (1 : Int32)), (2, .int (0 : Int32)), (0, .ref 253), (1, .int a1)]) dX12_tell_3 rfl (by decide) rfl ?_
  refine s_sub (lv' := [(0, .ref 253), (1, .int a1), (2, .int (0 : Int32)), (3, .int (1 : Int32))]) [2, 3, 1, 0] rfl ?_
  refine t_X12_tell_L4 N a1 _ ?_ N (0 : Int32) (1 : Int32) μ
  · intro y31_2 μ31
    refine s_iload_n (pc := 31) 1 dX12_tell_31 rfl rfl ?_
    refine s_if_ne (pc := 32) (tgt := 39) dX12_tell_32 (by decide) ?_ ?_
    · refine s_iload_n (pc := 35) 2 dX12_tell_35 rfl rfl ?_
      refine s_goto (pc := 36) (tgt := 53) dX12_tell_36 (by decide) ?_
      exact s_iret (pc := 53) rfl dX12_tell_53 rfl
    · refine s_iload_n (pc := 39) 1 dX12_tell_39 rfl rfl ?_
      refine s_iconst (pc := 40) (v := (1 : Int32)) dX12_tell_40 (by decide) ?_
      refine s_icmp_ne (pc := 41) (tgt := 52) dX12_tell_41 (by decide) ?_ ?_
      · refine s_aload_n (pc := 44) 0 dX12_tell_44 rfl rfl ?_
        refine s_iload_n (pc := 45) 2 dX12_tell_45 rfl rfl ?_
        refine s_callVI (pc := 46) (as := [.int y31_2]) (st := []) dX12_tell_46 lk_12_551 kd_253 (t_X12_lostBy N y31_2 μ31) (by omega) rfl (by decide) rfl (fun x4 μ_3 => ?_)
        refine s_goto (pc := 49) (tgt := 53) dX12_tell_49 (by decide) ?_
        exact s_iret (pc := 53) rfl dX12_tell_53 rfl
      · refine s_iconst (pc := 52) (v := (-1 : Int32)) dX12_tell_52 (by decide) ?_
        exact s_iret (pc := 53) rfl dX12_tell_53 rfl
def f_X12_isNextGroups_B37 (N : Nat) (c1 : Int32) (kb : Int32 → Int32 → z_S → Option (Int32 × z_S)) (e43 : Int32 → z_S → Option (Int32 × z_S)) (v2 : Int32) (v3 : Int32) (μ : z_S) : Option (Int32 × z_S) :=
  z_bd (v3 + 1) fun x4 => kb v2 x4 μ
theorem t_X12_isNextGroups_B37 (N : Nat) (c1 : Int32)  (kb : Int32 → Int32 → z_S → Option (Int32 × z_S)) (e43 : Int32 → z_S → Option (Int32 × z_S)) (hkb : ∀ (a2 : Int32) (a3 : Int32) (μ : z_S), z_sim false rI mX12_isNextGroups 1 (kb a2 a3 μ) 15 [(0, .ref 253), (1, .int c1), (2, .int a2), (3, .int a3)] [] μ) (he43 : ∀ (a2 : Int32) (μ : z_S), z_sim false rI mX12_isNextGroups 1 (e43 a2 μ) 43 [(0, .ref 253), (1, .int c1), (2, .int a2)] [] μ) (v2 : Int32) (v3 : Int32)  (μ : z_S) : z_sim false rI mX12_isNextGroups 1 (f_X12_isNextGroups_B37 N c1 kb e43 v2 v3 μ) 37 [(0, .ref 253), (1, .int c1), (2, .int v2), (3, .int v3)] [] μ := by
  unfold f_X12_isNextGroups_B37
  refine s_iincB (pc := 37) (lv' := fun x4 => [(3, .int x4), (0, .ref 253), (1, .int c1), (2, .int v2)]) (c := 1) 3 dX12_isNextGroups_37 rfl (by decide) (by decide) (fun _ => rfl) (fun x4 => ?_)
  refine s_goto (pc := 40) (tgt := 15) dX12_isNextGroups_40 (by decide) ?_
  refine s_sub (lv' := [(0, .ref 253), (1, .int c1), (2, .int v2), (3, .int x4)]) [1, 2, 3, 0] rfl ?_
  exact hkb v2 x4 μ
def b_X12_isNextGroups_L15 (N : Nat) (c1 : Int32) (kb : Int32 → Int32 → z_S → Option (Int32 × z_S)) (e43 : Int32 → z_S → Option (Int32 × z_S)) (v2 : Int32) (v3 : Int32) (μ : z_S) : Option (Int32 × z_S) :=
  if v3 < c1 then (z_in v3 8 <| if v2 < (μ.1 298 v3.toNatClampNeg) then (z_in v3 8 <| z_bd (μ.1 298 v3.toNatClampNeg) fun x3 => f_X12_isNextGroups_B37 N c1 kb e43 x3 v3 μ) else f_X12_isNextGroups_B37 N c1 kb e43 v2 v3 μ) else e43 v2 μ
theorem tb_X12_isNextGroups_L15 (N : Nat) (c1 : Int32) (kb : Int32 → Int32 → z_S → Option (Int32 × z_S)) (e43 : Int32 → z_S → Option (Int32 × z_S)) (hkb : ∀ (a2 : Int32) (a3 : Int32) (μ : z_S), z_sim false rI mX12_isNextGroups 1 (kb a2 a3 μ) 15 [(0, .ref 253), (1, .int c1), (2, .int a2), (3, .int a3)] [] μ) (he43 : ∀ (a2 : Int32) (μ : z_S), z_sim false rI mX12_isNextGroups 1 (e43 a2 μ) 43 [(0, .ref 253), (1, .int c1), (2, .int a2)] [] μ) (v2 : Int32) (v3 : Int32) (μ : z_S) : z_sim false rI mX12_isNextGroups 1 (b_X12_isNextGroups_L15 N c1 kb e43 v2 v3 μ) 15 [(0, .ref 253), (1, .int c1), (2, .int v2), (3, .int v3)] [] μ := by
  unfold b_X12_isNextGroups_L15
  refine s_iload_n (pc := 15) 3 dX12_isNextGroups_15 rfl rfl ?_
  refine s_iload_n (pc := 16) 1 dX12_isNextGroups_16 rfl rfl ?_
  refine s_icmp_ge (pc := 17) (tgt := 43) dX12_isNextGroups_17 (by decide) ?_ ?_
  · refine s_aload_n (pc := 20) 0 dX12_isNextGroups_20 rfl rfl ?_
    refine s_getR (pc := 21) (ci := 12) (k := 57) (r := 298) dX12_isNextGroups_21 fl_12_148 kd_253 rfl rs_253_57 ?_
    refine s_iload_n (pc := 24) 3 dX12_isNextGroups_24 rfl rfl ?_
    refine s_iald (pc := 25) dX12_isNextGroups_25 kd_298 ?_
    refine s_iload_n (pc := 26) 2 dX12_isNextGroups_26 rfl rfl ?_
    refine s_icmp_le (pc := 27) (tgt := 37) dX12_isNextGroups_27 (by decide) ?_ ?_
    · refine s_aload_n (pc := 30) 0 dX12_isNextGroups_30 rfl rfl ?_
      refine s_getR (pc := 31) (ci := 12) (k := 57) (r := 298) dX12_isNextGroups_31 fl_12_148 kd_253 rfl rs_253_57 ?_
      refine s_iload_n (pc := 34) 3 dX12_isNextGroups_34 rfl rfl ?_
      refine s_iald (pc := 35) dX12_isNextGroups_35 kd_298 ?_
      refine s_letI (fun x3 => ?_)
      refine s_istore_n (pc := 36) (lv' := [(2, .int x3), (0, .ref 253), (1, .int c1), (3, .int v3)]) dX12_isNextGroups_36 rfl (by decide) rfl ?_
      refine s_sub (lv' := [(0, .ref 253), (1, .int c1), (2, .int x3), (3, .int v3)]) [1, 2, 0, 3] rfl ?_
      exact t_X12_isNextGroups_B37 N c1 kb e43 hkb he43 x3 v3 μ
    · exact t_X12_isNextGroups_B37 N c1 kb e43 hkb he43 v2 v3 μ
  · refine s_sub (lv' := [(0, .ref 253), (1, .int c1), (2, .int v2)]) [0, 1, 2] rfl ?_
    exact he43 v2 μ
def f_X12_isNextGroups_L15 (N : Nat) (c1 : Int32) (e43 : Int32 → z_S → Option (Int32 × z_S)) : Nat → Int32 → Int32 → z_S → Option (Int32 × z_S)
  | 0, _, _, _ => none
  | n + 1, v2, v3, μ => b_X12_isNextGroups_L15 N c1 (f_X12_isNextGroups_L15 N c1 e43 n) e43 v2 v3 μ
theorem t_X12_isNextGroups_L15 (N : Nat) (c1 : Int32) (e43 : Int32 → z_S → Option (Int32 × z_S)) (he43 : ∀ (a2 : Int32) (μ : z_S), z_sim false rI mX12_isNextGroups 1 (e43 a2 μ) 43 [(0, .ref 253), (1, .int c1), (2, .int a2)] [] μ) : ∀ (n : Nat) (v2 : Int32) (v3 : Int32) (μ : z_S), z_sim false rI mX12_isNextGroups 1 (f_X12_isNextGroups_L15 N c1 e43 n v2 v3 μ) 15 [(0, .ref 253), (1, .int c1), (2, .int v2), (3, .int v3)] [] μ
  | 0, _, _, _ => s_none
  | n + 1, v2, v3, μ => tb_X12_isNextGroups_L15 N c1 (f_X12_isNextGroups_L15 N c1 e43 n) e43 (t_X12_isNextGroups_L15 N c1 e43 he43 n) he43 v2 v3 μ
def b_X12_isNextGroups_L7 (N : Nat) (kb : Int32 → z_S → Option (Int32 × z_S)) (e53 : Int32 → z_S → Option (Int32 × z_S)) (v1 : Int32) (μ : z_S) : Option (Int32 × z_S) :=
  if 0 < v1 then (f_X12_isNextGroups_L15 N v1 (fun y43_2 μ43 => z_in v1 8 <| if y43_2 < (μ43.1 298 v1.toNatClampNeg) then (z_bd (v1 + (-1)) fun x5 => kb x5 μ43) else e53 v1 μ43) N (0 : Int32) (0 : Int32) μ) else some ((0 : Int32), μ)
theorem tb_X12_isNextGroups_L7 (N : Nat) (kb : Int32 → z_S → Option (Int32 × z_S)) (e53 : Int32 → z_S → Option (Int32 × z_S)) (hkb : ∀ (a1 : Int32) (μ : z_S), z_sim false rI mX12_isNextGroups 1 (kb a1 μ) 7 [(0, .ref 253), (1, .int a1)] [] μ) (he53 : ∀ (a1 : Int32) (μ : z_S), z_sim false rI mX12_isNextGroups 1 (e53 a1 μ) 53 [(0, .ref 253), (1, .int a1)] [] μ) (v1 : Int32) (μ : z_S) : z_sim false rI mX12_isNextGroups 1 (b_X12_isNextGroups_L7 N kb e53 v1 μ) 7 [(0, .ref 253), (1, .int v1)] [] μ := by
  unfold b_X12_isNextGroups_L7
  refine s_iload_n (pc := 7) 1 dX12_isNextGroups_7 rfl rfl ?_
  refine s_if_le (pc := 8) (tgt := 96) dX12_isNextGroups_8 (by decide) ?_ ?_
  · refine s_iconst (pc := 11) (v := (0 : Int32)) dX12_isNextGroups_11 (by decide) ?_
    refine s_istore_n (pc := 12) (lv' := [(2, .int (0 : Int32)), (0, .ref 253), (1, .int v1)]) dX12_isNextGroups_12 rfl (by decide) rfl ?_
    refine s_iconst (pc := 13) (v := (0 : Int32)) dX12_isNextGroups_13 (by decide) ?_
    refine s_istore_n (pc := 14) (lv' := [(3, .int (0 : Int32)), (2, .int (0 : Int32)), (0, .ref 253), (1, .int v1)]) dX12_isNextGroups_14 rfl (by decide) rfl ?_
    refine s_sub (lv' := [(0, .ref 253), (1, .int v1), (2, .int (0 : Int32)), (3, .int (0 : Int32))]) [2, 3, 1, 0] rfl ?_
    refine t_X12_isNextGroups_L15 N v1 _ ?_ N (0 : Int32) (0 : Int32) μ
    · intro y43_2 μ43
      refine s_aload_n (pc := 43) 0 dX12_isNextGroups_43 rfl rfl ?_
      refine s_getR (pc := 44) (ci := 12) (k := 57) (r := 298) dX12_isNextGroups_44 fl_12_148 kd_253 rfl rs_253_57 ?_
      refine s_iload_n (pc := 47) 1 dX12_isNextGroups_47 rfl rfl ?_
      refine s_iald (pc := 48) dX12_isNextGroups_48 kd_298 ?_
      refine s_iload_n (pc := 49) 2 dX12_isNextGroups_49 rfl rfl ?_
      refine s_icmp_gt (pc := 50) (tgt := 90) dX12_isNextGroups_50 (by decide) ?_ ?_
      · refine s_iincB (pc := 90) (lv' := fun x5 => [(1, .int x5), (0, .ref 253), (2, .int y43_2)]) (c := -1) 1 dX12_isNextGroups_90 rfl (by decide) (by decide) (fun _ => rfl) (fun x5 => ?_)
        refine s_goto (pc := 93) (tgt := 7) dX12_isNextGroups_93 (by decide) ?_
        refine s_sub (lv' := [(0, .ref 253), (1, .int x5)]) [1, 0] rfl ?_
        exact hkb x5 μ43
      · refine s_sub (lv' := [(0, .ref 253), (1, .int v1)]) [0, 1] rfl ?_
        exact he53 v1 μ43
  · refine s_iconst (pc := 96) (v := (0 : Int32)) dX12_isNextGroups_96 (by decide) ?_
    exact s_zret0 (pc := 97) dX12_isNextGroups_97 rfl rfl
def f_X12_isNextGroups_L7 (N : Nat) (e53 : Int32 → z_S → Option (Int32 × z_S)) : Nat → Int32 → z_S → Option (Int32 × z_S)
  | 0, _, _ => none
  | n + 1, v1, μ => b_X12_isNextGroups_L7 N (f_X12_isNextGroups_L7 N e53 n) e53 v1 μ
theorem t_X12_isNextGroups_L7 (N : Nat) (e53 : Int32 → z_S → Option (Int32 × z_S)) (he53 : ∀ (a1 : Int32) (μ : z_S), z_sim false rI mX12_isNextGroups 1 (e53 a1 μ) 53 [(0, .ref 253), (1, .int a1)] [] μ) : ∀ (n : Nat) (v1 : Int32) (μ : z_S), z_sim false rI mX12_isNextGroups 1 (f_X12_isNextGroups_L7 N e53 n v1 μ) 7 [(0, .ref 253), (1, .int v1)] [] μ
  | 0, _, _ => s_none
  | n + 1, v1, μ => tb_X12_isNextGroups_L7 N (f_X12_isNextGroups_L7 N e53 n) e53 (t_X12_isNextGroups_L7 N e53 he53 n) he53 v1 μ
def b_X12_isNextGroups_L67 (N : Nat) (kb : Int32 → z_S → Option (Int32 × z_S)) (v3 : Int32) (μ : z_S) : Option (Int32 × z_S) :=
  z_bn (f_X12_letterMany N μ) fun x7 μ_3 => if v3 < x7 then (z_in v3 8 <| z_bd (z_setI μ_3 298 v3.toNatClampNeg (0 : Int32)) fun μ_4 => z_bd (v3 + 1) fun x8 => kb x8 μ_4) else some ((1 : Int32), μ_3)
theorem tb_X12_isNextGroups_L67 (N : Nat) (kb : Int32 → z_S → Option (Int32 × z_S)) (hkb : ∀ (a3 : Int32) (μ : z_S), z_sim false rI mX12_isNextGroups 1 (kb a3 μ) 67 [(0, .ref 253), (3, .int a3)] [] μ) (v3 : Int32) (μ : z_S) : z_sim false rI mX12_isNextGroups 1 (b_X12_isNextGroups_L67 N kb v3 μ) 67 [(0, .ref 253), (3, .int v3)] [] μ := by
  unfold b_X12_isNextGroups_L67
  refine s_iload_n (pc := 67) 1 dX12_isNextGroups_67 rfl rfl ?_
  refine s_aload_n (pc := 68) 0 dX12_isNextGroups_68 rfl rfl ?_
  refine s_callVI (pc := 69) (as := []) (st := [.int v3]) dX12_isNextGroups_69 lk_12_419 kd_253 (t_X12_letterMany N μ) (by omega) rfl (Nat.le_of_ble_eq_true rfl) rfl (fun x7 μ_3 => ?_)
  refine s_icmp_ge (pc := 72) (tgt := 88) dX12_isNextGroups_72 (by decide) ?_ ?_
  · refine s_aload_n (pc := 75) 0 dX12_isNextGroups_75 rfl rfl ?_
    refine s_getR (pc := 76) (ci := 12) (k := 57) (r := 298) dX12_isNextGroups_76 fl_12_148 kd_253 rfl rs_253_57 ?_
    refine s_iload_n (pc := 79) 1 dX12_isNextGroups_79 rfl rfl ?_
    refine s_iconst (pc := 80) (v := (0 : Int32)) dX12_isNextGroups_80 (by decide) ?_
    refine s_iast (pc := 81) dX12_isNextGroups_81 kd_298 (fun μ_4 => ?_)
    refine s_iincB (pc := 82) (lv' := fun x8 => [(3, .int x8), (0, .ref 253)]) (c := 1) 1 dX12_isNextGroups_82 rfl (by decide) (by decide) (fun _ => rfl) (fun x8 => ?_)
    refine s_goto (pc := 85) (tgt := 67) dX12_isNextGroups_85 (by decide) ?_
    refine s_sub (lv' := [(0, .ref 253), (3, .int x8)]) [1, 0] rfl ?_
    exact hkb x8 μ_4
  · refine s_iconst (pc := 88) (v := (1 : Int32)) dX12_isNextGroups_88 (by decide) ?_
    exact s_zret0 (pc := 89) dX12_isNextGroups_89 rfl rfl
def f_X12_isNextGroups_L67 (N : Nat) : Nat → Int32 → z_S → Option (Int32 × z_S)
  | 0, _, _ => none
  | n + 1, v3, μ => b_X12_isNextGroups_L67 N (f_X12_isNextGroups_L67 N n) v3 μ
theorem t_X12_isNextGroups_L67 (N : Nat) : ∀ (n : Nat) (v3 : Int32) (μ : z_S), z_sim false rI mX12_isNextGroups 1 (f_X12_isNextGroups_L67 N n v3 μ) 67 [(0, .ref 253), (3, .int v3)] [] μ
  | 0, _, _ => s_none
  | n + 1, v3, μ => tb_X12_isNextGroups_L67 N (f_X12_isNextGroups_L67 N n) (t_X12_isNextGroups_L67 N n) v3 μ
def f_X12_isNextGroups (N : Nat) (μ : z_S) : Option (Int32 × z_S) :=
  z_bn (f_X12_letterMany N μ) fun x1 μ_1 => z_bd (x1 - (1 : Int32)) fun x2 => f_X12_isNextGroups_L7 N (fun y53_1 μ53 => z_in y53_1 8 <| z_in y53_1 8 <| z_bd (z_setI μ53 298 y53_1.toNatClampNeg ((μ53.1 298 y53_1.toNatClampNeg) + (1 : Int32))) fun μ_2 => z_bd (y53_1 + (1 : Int32)) fun x6 => f_X12_isNextGroups_L67 N N x6 μ_2) N x2 μ_1
theorem t_X12_isNextGroups (N : Nat) (μ : z_S) : z_met false rI mX12_isNextGroups 1 [.ref 253] μ (f_X12_isNextGroups N μ) := by
  refine z_met.of (by decide +kernel) (by show _ ≤ _; first | decide | exact Nat.le_of_ble_eq_true rfl) (lv := [(0, .ref 253)]) rfl ?_
  unfold f_X12_isNextGroups
  refine s_aload_n (pc := 0) 0 dX12_isNextGroups_0 rfl rfl ?_
  refine s_callVI (pc := 1) (as := []) (st := []) dX12_isNextGroups_1 lk_12_419 kd_253 (t_X12_letterMany N μ) (by omega) rfl (by decide) rfl (fun x1 μ_1 => ?_)
  refine s_iconst (pc := 4) (v := (1 : Int32)) dX12_isNextGroups_4 (by decide) ?_
  refine s_isub (pc := 5) dX12_isNextGroups_5 ?_
  refine s_letI (fun x2 => ?_)
  refine s_istore_n (pc := 6) (lv' := [(1, .int x2), (0, .ref 253)]) dX12_isNextGroups_6 rfl (by decide) rfl ?_
  refine s_sub (lv' := [(0, .ref 253), (1, .int x2)]) [1, 0] rfl ?_
  refine t_X12_isNextGroups_L7 N _ ?_ N x2 μ_1
  · intro y53_1 μ53
    refine s_aload_n (pc := 53) 0 dX12_isNextGroups_53 rfl rfl ?_
    refine s_getR (pc := 54) (ci := 12) (k := 57) (r := 298) dX12_isNextGroups_54 fl_12_148 kd_253 rfl rs_253_57 ?_
    refine s_iload_n (pc := 57) 1 dX12_isNextGroups_57 rfl rfl ?_
    refine s_dup2 (pc := 58) dX12_isNextGroups_58 rfl rfl ?_
    refine s_iald (pc := 59) dX12_isNextGroups_59 kd_298 ?_
    refine s_iconst (pc := 60) (v := (1 : Int32)) dX12_isNextGroups_60 (by decide) ?_
    refine s_iadd (pc := 61) dX12_isNextGroups_61 ?_
    refine s_iast (pc := 62) dX12_isNextGroups_62 kd_298 (fun μ_2 => ?_)
    refine s_iload_n (pc := 63) 1 dX12_isNextGroups_63 rfl rfl ?_
    refine s_iconst (pc := 64) (v := (1 : Int32)) dX12_isNextGroups_64 (by decide) ?_
    refine s_iadd (pc := 65) dX12_isNextGroups_65 ?_
    refine s_letI (fun x6 => ?_)
    refine s_istore_n (pc := 66) (lv' := [(3, .int x6), (0, .ref 253), (1, .int y53_1)]) dX12_isNextGroups_66 rfl (by decide) rfl ?_
    refine s_sub (lv' := [(0, .ref 253), (3, .int x6)]) [1, 0] rfl ?_
    refine t_X12_isNextGroups_L67 N N x6 μ_2
def f_X12_oddsIn_B82 (N : Nat) (c3 : Int32) (kb : Int64 → Int32 → z_S → Option (Int64 × z_S)) (e88 : Int64 → z_S → Option (Int64 × z_S)) (v1 : Int64) (v4 : Int32) (μ : z_S) : Option (Int64 × z_S) :=
  z_bd (v4 + 1) fun x5 => kb v1 x5 μ
theorem t_X12_oddsIn_B82 (N : Nat) (c3 : Int32)  (kb : Int64 → Int32 → z_S → Option (Int64 × z_S)) (e88 : Int64 → z_S → Option (Int64 × z_S)) (hkb : ∀ (a1 : Int64) (a4 : Int32) (μ : z_S), z_sim false rJ mX12_oddsIn 1 (kb a1 a4 μ) 17 [(0, .ref 253), (1, .long a1), (3, .int c3), (4, .int a4)] [] μ) (he88 : ∀ (a1 : Int64) (μ : z_S), z_sim false rJ mX12_oddsIn 1 (e88 a1 μ) 88 [(0, .ref 253), (1, .long a1), (3, .int c3)] [] μ) (v1 : Int64) (v4 : Int32)  (μ : z_S) : z_sim false rJ mX12_oddsIn 1 (f_X12_oddsIn_B82 N c3 kb e88 v1 v4 μ) 82 [(0, .ref 253), (1, .long v1), (3, .int c3), (4, .int v4)] [] μ := by
  unfold f_X12_oddsIn_B82
  refine s_iincB (pc := 82) (lv' := fun x5 => [(4, .int x5), (0, .ref 253), (1, .long v1), (3, .int c3)]) (c := 1) 3 dX12_oddsIn_82 rfl (by decide) (by decide) (fun _ => rfl) (fun x5 => ?_)
  refine s_goto (pc := 85) (tgt := 17) dX12_oddsIn_85 (by decide) ?_
  refine s_sub (lv' := [(0, .ref 253), (1, .long v1), (3, .int c3), (4, .int x5)]) [1, 2, 3, 0] rfl ?_
  exact hkb v1 x5 μ
def f_X12_oddsIn_B80 (N : Nat) (c3 : Int32) (kb : Int64 → Int32 → z_S → Option (Int64 × z_S)) (e88 : Int64 → z_S → Option (Int64 × z_S)) (v4 : Int32) (s0 : Int64) (s1 : Int64) (μ : z_S) : Option (Int64 × z_S) :=
  z_bd (s1 * s0) fun x6 => f_X12_oddsIn_B82 N c3 kb e88 x6 v4 μ
theorem t_X12_oddsIn_B80 (N : Nat) (c3 : Int32)  (kb : Int64 → Int32 → z_S → Option (Int64 × z_S)) (e88 : Int64 → z_S → Option (Int64 × z_S)) (hkb : ∀ (a1 : Int64) (a4 : Int32) (μ : z_S), z_sim false rJ mX12_oddsIn 1 (kb a1 a4 μ) 17 [(0, .ref 253), (1, .long a1), (3, .int c3), (4, .int a4)] [] μ) (he88 : ∀ (a1 : Int64) (μ : z_S), z_sim false rJ mX12_oddsIn 1 (e88 a1 μ) 88 [(0, .ref 253), (1, .long a1), (3, .int c3)] [] μ) (v4 : Int32) (s0 : Int64) (s1 : Int64)  (μ : z_S) : z_sim false rJ mX12_oddsIn 1 (f_X12_oddsIn_B80 N c3 kb e88 v4 s0 s1 μ) 80 [(0, .ref 253), (3, .int c3), (4, .int v4)] [.long s0, .long s1] μ := by
  unfold f_X12_oddsIn_B80
  refine s_lmul (pc := 80) dX12_oddsIn_80 ?_
  refine s_letJ (fun x6 => ?_)
  refine s_lstore_n (pc := 81) (lv' := [(1, .long x6), (0, .ref 253), (3, .int c3), (4, .int v4)]) dX12_oddsIn_81 rfl (by decide) rfl ?_
  refine s_sub (lv' := [(0, .ref 253), (1, .long x6), (3, .int c3), (4, .int v4)]) [1, 0, 2, 3] rfl ?_
  exact t_X12_oddsIn_B82 N c3 kb e88 hkb he88 x6 v4 μ
def b_X12_oddsIn_L17 (N : Nat) (c3 : Int32) (kb : Int64 → Int32 → z_S → Option (Int64 × z_S)) (e88 : Int64 → z_S → Option (Int64 × z_S)) (v1 : Int64) (v4 : Int32) (μ : z_S) : Option (Int64 × z_S) :=
  z_bn (f_X12_letterMany N μ) fun x3 μ_2 => if v4 < x3 then (z_in (((64 : Int32) + ((8 : Int32) * c3)) + v4) 128 <| z_bd ((μ_2.1 290 (((64 : Int32) + ((8 : Int32) * c3)) + v4).toNatClampNeg) - (1 : Int32)) fun x4 => if x4 = (-1 : Int32) then (f_X12_oddsIn_B82 N c3 kb e88 v1 v4 μ_2) else z_in c3 8 <| z_in v4 8 <| if (μ_2.1 298 c3.toNatClampNeg) = (μ_2.1 298 v4.toNatClampNeg) then (f_X12_oddsIn_B80 N c3 kb e88 v4 x4.toInt64 v1 μ_2) else f_X12_oddsIn_B80 N c3 kb e88 v4 ((10 : Int32) - x4).toInt64 v1 μ_2) else e88 v1 μ_2
theorem tb_X12_oddsIn_L17 (N : Nat) (c3 : Int32) (kb : Int64 → Int32 → z_S → Option (Int64 × z_S)) (e88 : Int64 → z_S → Option (Int64 × z_S)) (hkb : ∀ (a1 : Int64) (a4 : Int32) (μ : z_S), z_sim false rJ mX12_oddsIn 1 (kb a1 a4 μ) 17 [(0, .ref 253), (1, .long a1), (3, .int c3), (4, .int a4)] [] μ) (he88 : ∀ (a1 : Int64) (μ : z_S), z_sim false rJ mX12_oddsIn 1 (e88 a1 μ) 88 [(0, .ref 253), (1, .long a1), (3, .int c3)] [] μ) (v1 : Int64) (v4 : Int32) (μ : z_S) : z_sim false rJ mX12_oddsIn 1 (b_X12_oddsIn_L17 N c3 kb e88 v1 v4 μ) 17 [(0, .ref 253), (1, .long v1), (3, .int c3), (4, .int v4)] [] μ := by
  unfold b_X12_oddsIn_L17
  refine s_iload (pc := 17) 3 dX12_oddsIn_17 rfl ?_
  refine s_aload_n (pc := 19) 0 dX12_oddsIn_19 rfl rfl ?_
  refine s_callVI (pc := 20) (as := []) (st := [.int v4]) dX12_oddsIn_20 lk_12_419 kd_253 (t_X12_letterMany N μ) (by omega) rfl (Nat.le_of_ble_eq_true rfl) rfl (fun x3 μ_2 => ?_)
  refine s_icmp_ge (pc := 23) (tgt := 88) dX12_oddsIn_23 (by decide) ?_ ?_
  · refine s_aload_n (pc := 26) 0 dX12_oddsIn_26 rfl rfl ?_
    refine s_getR (pc := 27) (ci := 12) (k := 45) (r := 290) dX12_oddsIn_27 fl_12_124 kd_253 rfl rs_253_45 ?_
    refine s_bipush (pc := 30) (v := (64 : Int32)) dX12_oddsIn_30 (by decide) ?_
    refine s_bipush (pc := 32) (v := (8 : Int32)) dX12_oddsIn_32 (by decide) ?_
    refine s_iload_n (pc := 34) 2 dX12_oddsIn_34 rfl rfl ?_
    refine s_imul (pc := 35) dX12_oddsIn_35 ?_
    refine s_iadd (pc := 36) dX12_oddsIn_36 ?_
    refine s_iload (pc := 37) 3 dX12_oddsIn_37 rfl ?_
    refine s_iadd (pc := 39) dX12_oddsIn_39 ?_
    refine s_iald (pc := 40) dX12_oddsIn_40 kd_290 ?_
    refine s_iconst (pc := 41) (v := (1 : Int32)) dX12_oddsIn_41 (by decide) ?_
    refine s_isub (pc := 42) dX12_oddsIn_42 ?_
    refine s_letI (fun x4 => ?_)
    refine s_istore (pc := 43) (lv' := [(5, .int x4), (0, .ref 253), (1, .long v1), (3, .int c3), (4, .int v4)]) dX12_oddsIn_43 (by decide) rfl ?_
    refine s_iload (pc := 45) 0 dX12_oddsIn_45 rfl ?_
    refine s_iconst (pc := 47) (v := (-1 : Int32)) dX12_oddsIn_47 (by decide) ?_
    refine s_icmp_eq (pc := 48) (tgt := 82) dX12_oddsIn_48 (by decide) ?_ ?_
    · refine s_sub (lv' := [(0, .ref 253), (1, .long v1), (3, .int c3), (4, .int v4)]) [1, 2, 3, 4] rfl ?_
      exact t_X12_oddsIn_B82 N c3 kb e88 hkb he88 v1 v4 μ_2
    · refine s_lload_n (pc := 51) 2 dX12_oddsIn_51 rfl rfl ?_
      refine s_aload_n (pc := 52) 1 dX12_oddsIn_52 rfl rfl ?_
      refine s_getR (pc := 53) (ci := 12) (k := 57) (r := 298) dX12_oddsIn_53 fl_12_148 kd_253 rfl rs_253_57 ?_
      refine s_iload_n (pc := 56) 3 dX12_oddsIn_56 rfl rfl ?_
      refine s_iald (pc := 57) dX12_oddsIn_57 kd_298 ?_
      refine s_aload_n (pc := 58) 1 dX12_oddsIn_58 rfl rfl ?_
      refine s_getR (pc := 59) (ci := 12) (k := 57) (r := 298) dX12_oddsIn_59 fl_12_148 kd_253 rfl rs_253_57 ?_
      refine s_iload (pc := 62) 4 dX12_oddsIn_62 rfl ?_
      refine s_iald (pc := 64) dX12_oddsIn_64 kd_298 ?_
      refine s_icmp_ne (pc := 65) (tgt := 74) dX12_oddsIn_65 (by decide) ?_ ?_
      · refine s_iload (pc := 68) 0 dX12_oddsIn_68 rfl ?_
        refine s_i2l (pc := 70) dX12_oddsIn_70 ?_
        refine s_goto (pc := 71) (tgt := 80) dX12_oddsIn_71 (by decide) ?_
        refine s_sub (lv' := [(0, .ref 253), (3, .int c3), (4, .int v4)]) [1, 3, 4] rfl ?_
        exact t_X12_oddsIn_B80 N c3 kb e88 hkb he88 v4 x4.toInt64 v1 μ_2
      · refine s_bipush (pc := 74) (v := (10 : Int32)) dX12_oddsIn_74 (by decide) ?_
        refine s_iload (pc := 76) 0 dX12_oddsIn_76 rfl ?_
        refine s_isub (pc := 78) dX12_oddsIn_78 ?_
        refine s_i2l (pc := 79) dX12_oddsIn_79 ?_
        refine s_sub (lv' := [(0, .ref 253), (3, .int c3), (4, .int v4)]) [1, 3, 4] rfl ?_
        exact t_X12_oddsIn_B80 N c3 kb e88 hkb he88 v4 ((10 : Int32) - x4).toInt64 v1 μ_2
  · refine s_sub (lv' := [(0, .ref 253), (1, .long v1), (3, .int c3)]) [0, 1, 2] rfl ?_
    exact he88 v1 μ_2
def f_X12_oddsIn_L17 (N : Nat) (c3 : Int32) (e88 : Int64 → z_S → Option (Int64 × z_S)) : Nat → Int64 → Int32 → z_S → Option (Int64 × z_S)
  | 0, _, _, _ => none
  | n + 1, v1, v4, μ => b_X12_oddsIn_L17 N c3 (f_X12_oddsIn_L17 N c3 e88 n) e88 v1 v4 μ
theorem t_X12_oddsIn_L17 (N : Nat) (c3 : Int32) (e88 : Int64 → z_S → Option (Int64 × z_S)) (he88 : ∀ (a1 : Int64) (μ : z_S), z_sim false rJ mX12_oddsIn 1 (e88 a1 μ) 88 [(0, .ref 253), (1, .long a1), (3, .int c3)] [] μ) : ∀ (n : Nat) (v1 : Int64) (v4 : Int32) (μ : z_S), z_sim false rJ mX12_oddsIn 1 (f_X12_oddsIn_L17 N c3 e88 n v1 v4 μ) 17 [(0, .ref 253), (1, .long v1), (3, .int c3), (4, .int v4)] [] μ
  | 0, _, _, _ => s_none
  | n + 1, v1, v4, μ => tb_X12_oddsIn_L17 N c3 (f_X12_oddsIn_L17 N c3 e88 n) e88 (t_X12_oddsIn_L17 N c3 e88 he88 n) he88 v1 v4 μ
def b_X12_oddsIn_L4 (N : Nat) (kb : Int64 → Int32 → z_S → Option (Int64 × z_S)) (v1 : Int64) (v3 : Int32) (μ : z_S) : Option (Int64 × z_S) :=
  z_bn (f_X12_letterMany N μ) fun x1 μ_1 => if v3 < x1 then (z_bd (v3 + (1 : Int32)) fun x2 => f_X12_oddsIn_L17 N v3 (fun y88_1 μ88 => z_bd (v3 + 1) fun x7 => kb y88_1 x7 μ88) N v1 x2 μ_1) else some (v1, μ_1)
theorem tb_X12_oddsIn_L4 (N : Nat) (kb : Int64 → Int32 → z_S → Option (Int64 × z_S)) (hkb : ∀ (a1 : Int64) (a3 : Int32) (μ : z_S), z_sim false rJ mX12_oddsIn 1 (kb a1 a3 μ) 4 [(0, .ref 253), (1, .long a1), (3, .int a3)] [] μ) (v1 : Int64) (v3 : Int32) (μ : z_S) : z_sim false rJ mX12_oddsIn 1 (b_X12_oddsIn_L4 N kb v1 v3 μ) 4 [(0, .ref 253), (1, .long v1), (3, .int v3)] [] μ := by
  unfold b_X12_oddsIn_L4
  refine s_iload_n (pc := 4) 2 dX12_oddsIn_4 rfl rfl ?_
  refine s_aload_n (pc := 5) 0 dX12_oddsIn_5 rfl rfl ?_
  refine s_callVI (pc := 6) (as := []) (st := [.int v3]) dX12_oddsIn_6 lk_12_419 kd_253 (t_X12_letterMany N μ) (by omega) rfl (Nat.le_of_ble_eq_true rfl) rfl (fun x1 μ_1 => ?_)
  refine s_icmp_ge (pc := 9) (tgt := 94) dX12_oddsIn_9 (by decide) ?_ ?_
  · refine s_iload_n (pc := 12) 2 dX12_oddsIn_12 rfl rfl ?_
    refine s_iconst (pc := 13) (v := (1 : Int32)) dX12_oddsIn_13 (by decide) ?_
    refine s_iadd (pc := 14) dX12_oddsIn_14 ?_
    refine s_letI (fun x2 => ?_)
    refine s_istore (pc := 15) (lv' := [(4, .int x2), (0, .ref 253), (1, .long v1), (3, .int v3)]) dX12_oddsIn_15 (by decide) rfl ?_
    refine s_sub (lv' := [(0, .ref 253), (1, .long v1), (3, .int v3), (4, .int x2)]) [1, 2, 3, 0] rfl ?_
    refine t_X12_oddsIn_L17 N v3 _ ?_ N v1 x2 μ_1
    · intro y88_1 μ88
      refine s_iincB (pc := 88) (lv' := fun x7 => [(3, .int x7), (0, .ref 253), (1, .long y88_1)]) (c := 1) 2 dX12_oddsIn_88 rfl (by decide) (by decide) (fun _ => rfl) (fun x7 => ?_)
      refine s_goto (pc := 91) (tgt := 4) dX12_oddsIn_91 (by decide) ?_
      refine s_sub (lv' := [(0, .ref 253), (1, .long y88_1), (3, .int x7)]) [1, 2, 0] rfl ?_
      exact hkb y88_1 x7 μ88
  · refine s_lload_n (pc := 94) 1 dX12_oddsIn_94 rfl rfl ?_
    exact s_lret (pc := 95) dX12_oddsIn_95 rfl
def f_X12_oddsIn_L4 (N : Nat) : Nat → Int64 → Int32 → z_S → Option (Int64 × z_S)
  | 0, _, _, _ => none
  | n + 1, v1, v3, μ => b_X12_oddsIn_L4 N (f_X12_oddsIn_L4 N n) v1 v3 μ
theorem t_X12_oddsIn_L4 (N : Nat) : ∀ (n : Nat) (v1 : Int64) (v3 : Int32) (μ : z_S), z_sim false rJ mX12_oddsIn 1 (f_X12_oddsIn_L4 N n v1 v3 μ) 4 [(0, .ref 253), (1, .long v1), (3, .int v3)] [] μ
  | 0, _, _, _ => s_none
  | n + 1, v1, v3, μ => tb_X12_oddsIn_L4 N (f_X12_oddsIn_L4 N n) (t_X12_oddsIn_L4 N n) v1 v3 μ
def f_X12_oddsIn (N : Nat) (μ : z_S) : Option (Int64 × z_S) :=
  f_X12_oddsIn_L4 N N (1 : Int64) (0 : Int32) μ
theorem t_X12_oddsIn (N : Nat) (μ : z_S) : z_met false rJ mX12_oddsIn 1 [.ref 253] μ (f_X12_oddsIn N μ) := by
  refine z_met.of (by decide +kernel) (by show _ ≤ _; first | decide | exact Nat.le_of_ble_eq_true rfl) (lv := [(0, .ref 253)]) rfl ?_
  unfold f_X12_oddsIn
  refine s_lconst (pc := 0) (v := (1 : Int64)) dX12_oddsIn_0 (by decide) ?_
  refine s_lstore_n (pc := 1) (lv' := [(1, .long (1 : Int64)), (0, .ref 253)]) dX12_oddsIn_1 rfl (by decide) rfl ?_
  refine s_iconst (pc := 2) (v := (0 : Int32)) dX12_oddsIn_2 (by decide) ?_
  refine s_istore_n (pc := 3) (lv' := [(3, .int (0 : Int32)), (1, .long (1 : Int64)), (0, .ref 253)]) dX12_oddsIn_3 rfl (by decide) rfl ?_
  refine s_sub (lv' := [(0, .ref 253), (1, .long (1 : Int64)), (3, .int (0 : Int32))]) [2, 1, 0] rfl ?_
  refine t_X12_oddsIn_L4 N N (1 : Int64) (0 : Int32) μ
def b_X12_children_L17 (N : Nat) (c1 : Int32) (kb : Int32 → z_S → Option (Int32 × z_S)) (e43 : z_S → Option (Int32 × z_S)) (v2 : Int32) (μ : z_S) : Option (Int32 × z_S) :=
  if v2 < (8 : Int32) then (z_in v2 8 <| z_bd (z_setI μ 298 v2.toNatClampNeg (0 : Int32)) fun μ_1 => z_in v2 8 <| z_bd (z_setI μ_1 300 v2.toNatClampNeg (0 : Int32)) fun μ_2 => z_bd (v2 + 1) fun x1 => kb x1 μ_2) else e43 μ
theorem tb_X12_children_L17 (N : Nat) (c1 : Int32) (kb : Int32 → z_S → Option (Int32 × z_S)) (e43 : z_S → Option (Int32 × z_S)) (hkb : ∀ (a2 : Int32) (μ : z_S), z_sim false rI mX12_children 2 (kb a2 μ) 17 [(0, .ref 253), (1, .int c1), (2, .int a2)] [] μ) (he43 : ∀ (μ : z_S), z_sim false rI mX12_children 2 (e43 μ) 43 [(0, .ref 253), (1, .int c1)] [] μ) (v2 : Int32) (μ : z_S) : z_sim false rI mX12_children 2 (b_X12_children_L17 N c1 kb e43 v2 μ) 17 [(0, .ref 253), (1, .int c1), (2, .int v2)] [] μ := by
  unfold b_X12_children_L17
  refine s_iload_n (pc := 17) 2 dX12_children_17 rfl rfl ?_
  refine s_bipush (pc := 18) (v := (8 : Int32)) dX12_children_18 (by decide) ?_
  refine s_icmp_ge (pc := 20) (tgt := 43) dX12_children_20 (by decide) ?_ ?_
  · refine s_aload_n (pc := 23) 0 dX12_children_23 rfl rfl ?_
    refine s_getR (pc := 24) (ci := 12) (k := 57) (r := 298) dX12_children_24 fl_12_148 kd_253 rfl rs_253_57 ?_
    refine s_iload_n (pc := 27) 2 dX12_children_27 rfl rfl ?_
    refine s_iconst (pc := 28) (v := (0 : Int32)) dX12_children_28 (by decide) ?_
    refine s_iast (pc := 29) dX12_children_29 kd_298 (fun μ_1 => ?_)
    refine s_aload_n (pc := 30) 0 dX12_children_30 rfl rfl ?_
    refine s_getR (pc := 31) (ci := 12) (k := 59) (r := 300) dX12_children_31 fl_12_154 kd_253 rfl rs_253_59 ?_
    refine s_iload_n (pc := 34) 2 dX12_children_34 rfl rfl ?_
    refine s_iconst (pc := 35) (v := (0 : Int32)) dX12_children_35 (by decide) ?_
    refine s_iast (pc := 36) dX12_children_36 kd_300 (fun μ_2 => ?_)
    refine s_iincB (pc := 37) (lv' := fun x1 => [(2, .int x1), (0, .ref 253), (1, .int c1)]) (c := 1) 2 dX12_children_37 rfl (by decide) (by decide) (fun _ => rfl) (fun x1 => ?_)
    refine s_goto (pc := 40) (tgt := 17) dX12_children_40 (by decide) ?_
    refine s_sub (lv' := [(0, .ref 253), (1, .int c1), (2, .int x1)]) [1, 2, 0] rfl ?_
    exact hkb x1 μ_2
  · refine s_sub (lv' := [(0, .ref 253), (1, .int c1)]) [0, 1] rfl ?_
    exact he43 μ
def f_X12_children_L17 (N : Nat) (c1 : Int32) (e43 : z_S → Option (Int32 × z_S)) : Nat → Int32 → z_S → Option (Int32 × z_S)
  | 0, _, _ => none
  | n + 1, v2, μ => b_X12_children_L17 N c1 (f_X12_children_L17 N c1 e43 n) e43 v2 μ
theorem t_X12_children_L17 (N : Nat) (c1 : Int32) (e43 : z_S → Option (Int32 × z_S)) (he43 : ∀ (μ : z_S), z_sim false rI mX12_children 2 (e43 μ) 43 [(0, .ref 253), (1, .int c1)] [] μ) : ∀ (n : Nat) (v2 : Int32) (μ : z_S), z_sim false rI mX12_children 2 (f_X12_children_L17 N c1 e43 n v2 μ) 17 [(0, .ref 253), (1, .int c1), (2, .int v2)] [] μ
  | 0, _, _ => s_none
  | n + 1, v2, μ => tb_X12_children_L17 N c1 (f_X12_children_L17 N c1 e43 n) e43 (t_X12_children_L17 N c1 e43 he43 n) he43 v2 μ
def b_X12_children_L77 (N : Nat) (c1 : Int32) (c2 : Int64) (kb : Int32 → z_S → Option (Int32 × z_S)) (e104 : z_S → Option (Int32 × z_S)) (v6 : Int32) (μ : z_S) : Option (Int32 × z_S) :=
  if v6 < (8 : Int32) then (z_in v6 8 <| z_in v6 8 <| z_bd (z_setI μ 300 v6.toNatClampNeg (μ.1 298 v6.toNatClampNeg)) fun μ_6 => z_bd (v6 + 1) fun x5 => kb x5 μ_6) else e104 μ
theorem tb_X12_children_L77 (N : Nat) (c1 : Int32) (c2 : Int64) (kb : Int32 → z_S → Option (Int32 × z_S)) (e104 : z_S → Option (Int32 × z_S)) (hkb : ∀ (a6 : Int32) (μ : z_S), z_sim false rI mX12_children 2 (kb a6 μ) 77 [(0, .ref 253), (1, .int c1), (2, .long c2), (6, .int a6)] [] μ) (he104 : ∀ (μ : z_S), z_sim false rI mX12_children 2 (e104 μ) 104 [(0, .ref 253), (1, .int c1), (2, .long c2)] [] μ) (v6 : Int32) (μ : z_S) : z_sim false rI mX12_children 2 (b_X12_children_L77 N c1 c2 kb e104 v6 μ) 77 [(0, .ref 253), (1, .int c1), (2, .long c2), (6, .int v6)] [] μ := by
  unfold b_X12_children_L77
  refine s_iload (pc := 77) 3 dX12_children_77 rfl ?_
  refine s_bipush (pc := 79) (v := (8 : Int32)) dX12_children_79 (by decide) ?_
  refine s_icmp_ge (pc := 81) (tgt := 104) dX12_children_81 (by decide) ?_ ?_
  · refine s_aload_n (pc := 84) 0 dX12_children_84 rfl rfl ?_
    refine s_getR (pc := 85) (ci := 12) (k := 59) (r := 300) dX12_children_85 fl_12_154 kd_253 rfl rs_253_59 ?_
    refine s_iload (pc := 88) 3 dX12_children_88 rfl ?_
    refine s_aload_n (pc := 90) 0 dX12_children_90 rfl rfl ?_
    refine s_getR (pc := 91) (ci := 12) (k := 57) (r := 298) dX12_children_91 fl_12_148 kd_253 rfl rs_253_57 ?_
    refine s_iload (pc := 94) 3 dX12_children_94 rfl ?_
    refine s_iald (pc := 96) dX12_children_96 kd_298 ?_
    refine s_iast (pc := 97) dX12_children_97 kd_300 (fun μ_6 => ?_)
    refine s_iincB (pc := 98) (lv' := fun x5 => [(6, .int x5), (0, .ref 253), (1, .int c1), (2, .long c2)]) (c := 1) 3 dX12_children_98 rfl (by decide) (by decide) (fun _ => rfl) (fun x5 => ?_)
    refine s_goto (pc := 101) (tgt := 77) dX12_children_101 (by decide) ?_
    refine s_sub (lv' := [(0, .ref 253), (1, .int c1), (2, .long c2), (6, .int x5)]) [1, 2, 3, 0] rfl ?_
    exact hkb x5 μ_6
  · refine s_sub (lv' := [(0, .ref 253), (1, .int c1), (2, .long c2)]) [0, 1, 2] rfl ?_
    exact he104 μ
def f_X12_children_L77 (N : Nat) (c1 : Int32) (c2 : Int64) (e104 : z_S → Option (Int32 × z_S)) : Nat → Int32 → z_S → Option (Int32 × z_S)
  | 0, _, _ => none
  | n + 1, v6, μ => b_X12_children_L77 N c1 c2 (f_X12_children_L77 N c1 c2 e104 n) e104 v6 μ
theorem t_X12_children_L77 (N : Nat) (c1 : Int32) (c2 : Int64) (e104 : z_S → Option (Int32 × z_S)) (he104 : ∀ (μ : z_S), z_sim false rI mX12_children 2 (e104 μ) 104 [(0, .ref 253), (1, .int c1), (2, .long c2)] [] μ) : ∀ (n : Nat) (v6 : Int32) (μ : z_S), z_sim false rI mX12_children 2 (f_X12_children_L77 N c1 c2 e104 n v6 μ) 77 [(0, .ref 253), (1, .int c1), (2, .long c2), (6, .int v6)] [] μ
  | 0, _, _ => s_none
  | n + 1, v6, μ => tb_X12_children_L77 N c1 c2 (f_X12_children_L77 N c1 c2 e104 n) e104 (t_X12_children_L77 N c1 c2 e104 he104 n) he104 v6 μ
def b_X12_children_L48 (N : Nat) (c1 : Int32) (kb : Int64 → z_S → Option (Int32 × z_S)) (e107 : z_S → Option (Int32 × z_S)) (v2 : Int64) (μ : z_S) : Option (Int32 × z_S) :=
  z_bn (f_X12_isNextGroups N μ) fun x3 μ_4 => if x3 = 0 then (e107 μ_4) else z_bn (f_X12_oddsIn N μ_4) fun x4 μ_5 => if v2 < x4 then (f_X12_children_L77 N c1 x4 (fun μ104 => kb x4 μ104) N (0 : Int32) μ_5) else kb v2 μ_5
theorem tb_X12_children_L48 (N : Nat) (c1 : Int32) (kb : Int64 → z_S → Option (Int32 × z_S)) (e107 : z_S → Option (Int32 × z_S)) (hkb : ∀ (a2 : Int64) (μ : z_S), z_sim false rI mX12_children 2 (kb a2 μ) 48 [(0, .ref 253), (1, .int c1), (2, .long a2)] [] μ) (he107 : ∀ (μ : z_S), z_sim false rI mX12_children 2 (e107 μ) 107 [(0, .ref 253), (1, .int c1)] [] μ) (v2 : Int64) (μ : z_S) : z_sim false rI mX12_children 2 (b_X12_children_L48 N c1 kb e107 v2 μ) 48 [(0, .ref 253), (1, .int c1), (2, .long v2)] [] μ := by
  unfold b_X12_children_L48
  refine s_aload_n (pc := 48) 0 dX12_children_48 rfl rfl ?_
  refine s_callVI (pc := 49) (as := []) (st := []) dX12_children_49 lk_12_557 kd_253 (t_X12_isNextGroups N μ) (by omega) rfl (by decide) rfl (fun x3 μ_4 => ?_)
  refine s_if_eq (pc := 52) (tgt := 107) dX12_children_52 (by decide) ?_ ?_
  · refine s_sub (lv' := [(0, .ref 253), (1, .int c1)]) [0, 1] rfl ?_
    exact he107 μ_4
  · refine s_aload_n (pc := 55) 0 dX12_children_55 rfl rfl ?_
    refine s_callVJ (pc := 56) (as := []) (st := []) dX12_children_56 lk_12_554 kd_253 (t_X12_oddsIn N μ_4) (by omega) rfl (by decide) rfl (fun x4 μ_5 => ?_)
    refine s_lstore (pc := 59) (lv' := [(4, .long x4), (0, .ref 253), (1, .int c1), (2, .long v2)]) dX12_children_59 (by decide) rfl ?_
    refine s_lload (pc := 61) 0 dX12_children_61 rfl ?_
    refine s_lload_n (pc := 63) 3 dX12_children_63 rfl rfl ?_
    refine s_lcmp_gt (pc := 64) (tgt := 71) dX12_children_64 dX12_children_65 (by decide) ?_ ?_
    · refine s_lload (pc := 71) 0 dX12_children_71 rfl ?_
      refine s_lstore_n (pc := 73) (lv' := [(2, .long x4), (4, .long x4), (0, .ref 253), (1, .int c1)]) dX12_children_73 rfl (by decide) rfl ?_
      refine s_iconst (pc := 74) (v := (0 : Int32)) dX12_children_74 (by decide) ?_
      refine s_istore (pc := 75) (lv' := [(6, .int (0 : Int32)), (2, .long x4), (4, .long x4), (0, .ref 253), (1, .int c1)]) dX12_children_75 (by decide) rfl ?_
      refine s_sub (lv' := [(0, .ref 253), (1, .int c1), (2, .long x4), (6, .int (0 : Int32))]) [3, 4, 1, 0] rfl ?_
      refine t_X12_children_L77 N c1 x4 _ ?_ N (0 : Int32) μ_5
      · intro μ104
        refine s_goto (pc := 104) (tgt := 48) dX12_children_104 (by decide) ?_
        exact hkb x4 μ104
    · refine s_goto (pc := 68) (tgt := 48) dX12_children_68 (by decide) ?_
      refine s_sub (lv' := [(0, .ref 253), (1, .int c1), (2, .long v2)]) [1, 2, 3] rfl ?_
      exact hkb v2 μ_5
def f_X12_children_L48 (N : Nat) (c1 : Int32) (e107 : z_S → Option (Int32 × z_S)) : Nat → Int64 → z_S → Option (Int32 × z_S)
  | 0, _, _ => none
  | n + 1, v2, μ => b_X12_children_L48 N c1 (f_X12_children_L48 N c1 e107 n) e107 v2 μ
theorem t_X12_children_L48 (N : Nat) (c1 : Int32) (e107 : z_S → Option (Int32 × z_S)) (he107 : ∀ (μ : z_S), z_sim false rI mX12_children 2 (e107 μ) 107 [(0, .ref 253), (1, .int c1)] [] μ) : ∀ (n : Nat) (v2 : Int64) (μ : z_S), z_sim false rI mX12_children 2 (f_X12_children_L48 N c1 e107 n v2 μ) 48 [(0, .ref 253), (1, .int c1), (2, .long v2)] [] μ
  | 0, _, _ => s_none
  | n + 1, v2, μ => tb_X12_children_L48 N c1 (f_X12_children_L48 N c1 e107 n) e107 (t_X12_children_L48 N c1 e107 he107 n) he107 v2 μ
def f_X12_children_B145 (N : Nat) (c1 : Int32) (kb : Int32 → Int32 → z_S → Option (Int32 × z_S)) (e151 : Int32 → z_S → Option (Int32 × z_S)) (v4 : Int32) (v5 : Int32) (μ : z_S) : Option (Int32 × z_S) :=
  z_bd (v5 + 1) fun x7 => kb v4 x7 μ
theorem t_X12_children_B145 (N : Nat) (c1 : Int32)  (kb : Int32 → Int32 → z_S → Option (Int32 × z_S)) (e151 : Int32 → z_S → Option (Int32 × z_S)) (hkb : ∀ (a4 : Int32) (a5 : Int32) (μ : z_S), z_sim false rI mX12_children 2 (kb a4 a5 μ) 113 [(0, .ref 253), (1, .int c1), (4, .int a4), (5, .int a5)] [] μ) (he151 : ∀ (a4 : Int32) (μ : z_S), z_sim false rI mX12_children 2 (e151 a4 μ) 151 [(0, .ref 253), (1, .int c1), (4, .int a4)] [] μ) (v4 : Int32) (v5 : Int32)  (μ : z_S) : z_sim false rI mX12_children 2 (f_X12_children_B145 N c1 kb e151 v4 v5 μ) 145 [(0, .ref 253), (1, .int c1), (4, .int v4), (5, .int v5)] [] μ := by
  unfold f_X12_children_B145
  refine s_iincB (pc := 145) (lv' := fun x7 => [(5, .int x7), (0, .ref 253), (1, .int c1), (4, .int v4)]) (c := 1) 3 dX12_children_145 rfl (by decide) (by decide) (fun _ => rfl) (fun x7 => ?_)
  refine s_goto (pc := 148) (tgt := 113) dX12_children_148 (by decide) ?_
  refine s_sub (lv' := [(0, .ref 253), (1, .int c1), (4, .int v4), (5, .int x7)]) [1, 2, 3, 0] rfl ?_
  exact hkb v4 x7 μ
def b_X12_children_L113 (N : Nat) (c1 : Int32) (kb : Int32 → Int32 → z_S → Option (Int32 × z_S)) (e151 : Int32 → z_S → Option (Int32 × z_S)) (v4 : Int32) (v5 : Int32) (μ : z_S) : Option (Int32 × z_S) :=
  z_bn (f_X12_letterMany N μ) fun x6 μ_7 => if v5 < x6 then (z_in v5 8 <| if (μ_7.1 300 v5.toNatClampNeg) < v4 then (f_X12_children_B145 N c1 kb e151 v4 v5 μ_7) else z_in v5 8 <| z_bd ((μ_7.1 300 v5.toNatClampNeg) + (1 : Int32)) fun x8 => f_X12_children_B145 N c1 kb e151 x8 v5 μ_7) else e151 v4 μ_7
theorem tb_X12_children_L113 (N : Nat) (c1 : Int32) (kb : Int32 → Int32 → z_S → Option (Int32 × z_S)) (e151 : Int32 → z_S → Option (Int32 × z_S)) (hkb : ∀ (a4 : Int32) (a5 : Int32) (μ : z_S), z_sim false rI mX12_children 2 (kb a4 a5 μ) 113 [(0, .ref 253), (1, .int c1), (4, .int a4), (5, .int a5)] [] μ) (he151 : ∀ (a4 : Int32) (μ : z_S), z_sim false rI mX12_children 2 (e151 a4 μ) 151 [(0, .ref 253), (1, .int c1), (4, .int a4)] [] μ) (v4 : Int32) (v5 : Int32) (μ : z_S) : z_sim false rI mX12_children 2 (b_X12_children_L113 N c1 kb e151 v4 v5 μ) 113 [(0, .ref 253), (1, .int c1), (4, .int v4), (5, .int v5)] [] μ := by
  unfold b_X12_children_L113
  refine s_iload (pc := 113) 3 dX12_children_113 rfl ?_
  refine s_aload_n (pc := 115) 0 dX12_children_115 rfl rfl ?_
  refine s_callVI (pc := 116) (as := []) (st := [.int v5]) dX12_children_116 lk_12_419 kd_253 (t_X12_letterMany N μ) (by omega) rfl (Nat.le_of_ble_eq_true rfl) rfl (fun x6 μ_7 => ?_)
  refine s_icmp_ge (pc := 119) (tgt := 151) dX12_children_119 (by decide) ?_ ?_
  · refine s_aload_n (pc := 122) 0 dX12_children_122 rfl rfl ?_
    refine s_getR (pc := 123) (ci := 12) (k := 59) (r := 300) dX12_children_123 fl_12_154 kd_253 rfl rs_253_59 ?_
    refine s_iload (pc := 126) 3 dX12_children_126 rfl ?_
    refine s_iald (pc := 128) dX12_children_128 kd_300 ?_
    refine s_iload (pc := 129) 2 dX12_children_129 rfl ?_
    refine s_icmp_lt (pc := 131) (tgt := 145) dX12_children_131 (by decide) ?_ ?_
    · exact t_X12_children_B145 N c1 kb e151 hkb he151 v4 v5 μ_7
    · refine s_aload_n (pc := 134) 0 dX12_children_134 rfl rfl ?_
      refine s_getR (pc := 135) (ci := 12) (k := 59) (r := 300) dX12_children_135 fl_12_154 kd_253 rfl rs_253_59 ?_
      refine s_iload (pc := 138) 3 dX12_children_138 rfl ?_
      refine s_iald (pc := 140) dX12_children_140 kd_300 ?_
      refine s_iconst (pc := 141) (v := (1 : Int32)) dX12_children_141 (by decide) ?_
      refine s_iadd (pc := 142) dX12_children_142 ?_
      refine s_letI (fun x8 => ?_)
      refine s_istore (pc := 143) (lv' := [(4, .int x8), (0, .ref 253), (1, .int c1), (5, .int v5)]) dX12_children_143 (by decide) rfl ?_
      refine s_sub (lv' := [(0, .ref 253), (1, .int c1), (4, .int x8), (5, .int v5)]) [1, 2, 0, 3] rfl ?_
      exact t_X12_children_B145 N c1 kb e151 hkb he151 x8 v5 μ_7
  · refine s_sub (lv' := [(0, .ref 253), (1, .int c1), (4, .int v4)]) [0, 1, 2] rfl ?_
    exact he151 v4 μ_7
def f_X12_children_L113 (N : Nat) (c1 : Int32) (e151 : Int32 → z_S → Option (Int32 × z_S)) : Nat → Int32 → Int32 → z_S → Option (Int32 × z_S)
  | 0, _, _, _ => none
  | n + 1, v4, v5, μ => b_X12_children_L113 N c1 (f_X12_children_L113 N c1 e151 n) e151 v4 v5 μ
theorem t_X12_children_L113 (N : Nat) (c1 : Int32) (e151 : Int32 → z_S → Option (Int32 × z_S)) (he151 : ∀ (a4 : Int32) (μ : z_S), z_sim false rI mX12_children 2 (e151 a4 μ) 151 [(0, .ref 253), (1, .int c1), (4, .int a4)] [] μ) : ∀ (n : Nat) (v4 : Int32) (v5 : Int32) (μ : z_S), z_sim false rI mX12_children 2 (f_X12_children_L113 N c1 e151 n v4 v5 μ) 113 [(0, .ref 253), (1, .int c1), (4, .int v4), (5, .int v5)] [] μ
  | 0, _, _, _ => s_none
  | n + 1, v4, v5, μ => tb_X12_children_L113 N c1 (f_X12_children_L113 N c1 e151 n) e151 (t_X12_children_L113 N c1 e151 he151 n) he151 v4 v5 μ
def f_X12_children_B15 (N : Nat)  (v1 : Int32) (μ : z_S) : Option (Int32 × z_S) :=
  f_X12_children_L17 N v1 (fun μ43 => z_bn (f_X12_oddsIn N μ43) fun x2 μ_3 => f_X12_children_L48 N v1 (fun μ107 => f_X12_children_L113 N v1 (fun y151_4 μ151 => if v1 = (-1 : Int32) then (some (y151_4, μ151)) else z_in v1 8 <| some ((μ151.1 300 v1.toNatClampNeg), μ151)) N (0 : Int32) (0 : Int32) μ107) N x2 μ_3) N (0 : Int32) μ
theorem t_X12_children_B15 (N : Nat)     (v1 : Int32)  (μ : z_S) : z_sim false rI mX12_children 2 (f_X12_children_B15 N   v1 μ) 15 [(0, .ref 253), (1, .int v1)] [] μ := by
  unfold f_X12_children_B15
  refine s_iconst (pc := 15) (v := (0 : Int32)) dX12_children_15 (by decide) ?_
  refine s_istore_n (pc := 16) (lv' := [(2, .int (0 : Int32)), (0, .ref 253), (1, .int v1)]) dX12_children_16 rfl (by decide) rfl ?_
  refine s_sub (lv' := [(0, .ref 253), (1, .int v1), (2, .int (0 : Int32))]) [1, 2, 0] rfl ?_
  refine t_X12_children_L17 N v1 _ ?_ N (0 : Int32) μ
  · intro μ43
    refine s_aload_n (pc := 43) 0 dX12_children_43 rfl rfl ?_
    refine s_callVJ (pc := 44) (as := []) (st := []) dX12_children_44 lk_12_554 kd_253 (t_X12_oddsIn N μ43) (by omega) rfl (by decide) rfl (fun x2 μ_3 => ?_)
    refine s_lstore_n (pc := 47) (lv' := [(2, .long x2), (0, .ref 253), (1, .int v1)]) dX12_children_47 rfl (by decide) rfl ?_
    refine s_sub (lv' := [(0, .ref 253), (1, .int v1), (2, .long x2)]) [1, 2, 0] rfl ?_
    refine t_X12_children_L48 N v1 _ ?_ N x2 μ_3
    · intro μ107
      refine s_iconst (pc := 107) (v := (0 : Int32)) dX12_children_107 (by decide) ?_
      refine s_istore (pc := 108) (lv' := [(4, .int (0 : Int32)), (0, .ref 253), (1, .int v1)]) dX12_children_108 (by decide) rfl ?_
      refine s_iconst (pc := 110) (v := (0 : Int32)) dX12_children_110 (by decide) ?_
      refine s_istore (pc := 111) (lv' := [(5, .int (0 : Int32)), (4, .int (0 : Int32)), (0, .ref 253), (1, .int v1)]) dX12_children_111 (by decide) rfl ?_
      refine s_sub (lv' := [(0, .ref 253), (1, .int v1), (4, .int (0 : Int32)), (5, .int (0 : Int32))]) [2, 3, 1, 0] rfl ?_
      refine t_X12_children_L113 N v1 _ ?_ N (0 : Int32) (0 : Int32) μ107
      · intro y151_4 μ151
        refine s_iload_n (pc := 151) 1 dX12_children_151 rfl rfl ?_
        refine s_iconst (pc := 152) (v := (-1 : Int32)) dX12_children_152 (by decide) ?_
        refine s_icmp_ne (pc := 153) (tgt := 161) dX12_children_153 (by decide) ?_ ?_
        · refine s_iload (pc := 156) 2 dX12_children_156 rfl ?_
          refine s_goto (pc := 158) (tgt := 167) dX12_children_158 (by decide) ?_
          exact s_iret (pc := 167) rfl dX12_children_167 rfl
        · refine s_aload_n (pc := 161) 0 dX12_children_161 rfl rfl ?_
          refine s_getR (pc := 162) (ci := 12) (k := 59) (r := 300) dX12_children_162 fl_12_154 kd_253 rfl rs_253_59 ?_
          refine s_iload_n (pc := 165) 1 dX12_children_165 rfl rfl ?_
          refine s_iald (pc := 166) dX12_children_166 kd_300 ?_
          exact s_iret (pc := 167) rfl dX12_children_167 rfl
def f_X12_children (N : Nat) (a1 : Int32) (μ : z_S) : Option (Int32 × z_S) :=
  if a1 = (-1 : Int32) then (f_X12_children_B15 N a1 μ) else z_bn (f_X12_isMail N a1 μ) fun x9 μ_8 => if x9 = 0 then (some ((-1 : Int32), μ_8)) else f_X12_children_B15 N a1 μ_8
theorem t_X12_children (N : Nat) (a1 : Int32) (μ : z_S) : z_met false rI mX12_children 2 [.ref 253, .int a1] μ (f_X12_children N a1 μ) := by
  refine z_met.of (by decide +kernel) (by show _ ≤ _; first | decide | exact Nat.le_of_ble_eq_true rfl) (lv := [(0, .ref 253), (1, .int a1)]) rfl ?_
  unfold f_X12_children
  refine s_iload_n (pc := 0) 1 dX12_children_0 rfl rfl ?_
  refine s_iconst (pc := 1) (v := (-1 : Int32)) dX12_children_1 (by decide) ?_
  refine s_icmp_eq (pc := 2) (tgt := 15) dX12_children_2 (by decide) ?_ ?_
  · exact t_X12_children_B15 N a1 μ
  · refine s_aload_n (pc := 5) 0 dX12_children_5 rfl rfl ?_
    refine s_iload_n (pc := 6) 1 dX12_children_6 rfl rfl ?_
    refine s_callVI (pc := 7) (as := [.int a1]) (st := []) dX12_children_7 lk_12_501 kd_253 (t_X12_isMail N a1 μ) (by omega) rfl (by decide) rfl (fun x9 μ_8 => ?_)
    refine s_if_ne (pc := 10) (tgt := 15) dX12_children_10 (by decide) ?_ ?_
    · refine s_iconst (pc := 13) (v := (-1 : Int32)) dX12_children_13 (by decide) ?_
      exact s_iret (pc := 14) rfl dX12_children_14 rfl
    · exact t_X12_children_B15 N a1 μ_8
def f_X12_refuses (N : Nat) (a1 : Int32) (μ : z_S) : Option (Int32 × z_S) :=
  z_in a1 6 <| z_in a1 6 <| z_bd (z_setI μ 255 a1.toNatClampNeg ((μ.1 255 a1.toNatClampNeg) + (1 : Int32))) fun μ_1 => some ((-1 : Int32), μ_1)
theorem t_X12_refuses (N : Nat) (a1 : Int32) (μ : z_S) : z_met false rI mX12_refuses 0 [.ref 253, .int a1] μ (f_X12_refuses N a1 μ) := by
  refine z_met.of (by decide +kernel) (by show _ ≤ _; first | decide | exact Nat.le_of_ble_eq_true rfl) (lv := [(0, .ref 253), (1, .int a1)]) rfl ?_
  unfold f_X12_refuses
  refine s_aload_n (pc := 0) 0 dX12_refuses_0 rfl rfl ?_
  refine s_getR (pc := 1) (ci := 12) (k := 9) (r := 255) dX12_refuses_1 fl_12_17 kd_253 rfl rs_253_9 ?_
  refine s_iload_n (pc := 4) 1 dX12_refuses_4 rfl rfl ?_
  refine s_dup2 (pc := 5) dX12_refuses_5 rfl rfl ?_
  refine s_iald (pc := 6) dX12_refuses_6 kd_255 ?_
  refine s_iconst (pc := 7) (v := (1 : Int32)) dX12_refuses_7 (by decide) ?_
  refine s_iadd (pc := 8) dX12_refuses_8 ?_
  refine s_iast (pc := 9) dX12_refuses_9 kd_255 (fun μ_1 => ?_)
  refine s_iconst (pc := 10) (v := (-1 : Int32)) dX12_refuses_10 (by decide) ?_
  exact s_iret (pc := 11) rfl dX12_refuses_11 rfl
def b_X12_see_L36 (N : Nat) (c1 : Int32) (kb : Int32 → Int32 → z_S → Option (Int32 × z_S)) (e62 : Int32 → z_S → Option (Int32 × z_S)) (v2 : Int32) (v3 : Int32) (μ : z_S) : Option (Int32 × z_S) :=
  if v3 < c1 then (if v2 = 0 then (e62 v2 μ) else z_in v3 1600 <| z_bn (f_X12_isMail N (μ.1 254 v3.toNatClampNeg) μ) fun x2 μ_2 => z_bd (v3 + 3) fun x3 => kb x2 x3 μ_2) else e62 v2 μ
theorem tb_X12_see_L36 (N : Nat) (c1 : Int32) (kb : Int32 → Int32 → z_S → Option (Int32 × z_S)) (e62 : Int32 → z_S → Option (Int32 × z_S)) (hkb : ∀ (a2 : Int32) (a3 : Int32) (μ : z_S), z_sim false rI mX12_see 2 (kb a2 a3 μ) 36 [(0, .ref 253), (1, .int c1), (2, .int a2), (3, .int a3)] [] μ) (he62 : ∀ (a2 : Int32) (μ : z_S), z_sim false rI mX12_see 2 (e62 a2 μ) 62 [(0, .ref 253), (1, .int c1), (2, .int a2)] [] μ) (v2 : Int32) (v3 : Int32) (μ : z_S) : z_sim false rI mX12_see 2 (b_X12_see_L36 N c1 kb e62 v2 v3 μ) 36 [(0, .ref 253), (1, .int c1), (2, .int v2), (3, .int v3)] [] μ := by
  unfold b_X12_see_L36
  refine s_iload_n (pc := 36) 3 dX12_see_36 rfl rfl ?_
  refine s_iload_n (pc := 37) 1 dX12_see_37 rfl rfl ?_
  refine s_icmp_ge (pc := 38) (tgt := 62) dX12_see_38 (by decide) ?_ ?_
  · refine s_iload_n (pc := 41) 2 dX12_see_41 rfl rfl ?_
    refine s_if_eq (pc := 42) (tgt := 62) dX12_see_42 (by decide) ?_ ?_
    · refine s_sub (lv' := [(0, .ref 253), (1, .int c1), (2, .int v2)]) [0, 1, 2] rfl ?_
      exact he62 v2 μ
    · refine s_aload_n (pc := 45) 0 dX12_see_45 rfl rfl ?_
      refine s_aload_n (pc := 46) 0 dX12_see_46 rfl rfl ?_
      refine s_getR (pc := 47) (ci := 12) (k := 0) (r := 254) dX12_see_47 fl_12_7 kd_253 rfl rs_253_0 ?_
      refine s_iload_n (pc := 50) 3 dX12_see_50 rfl rfl ?_
      refine s_iald (pc := 51) dX12_see_51 kd_254 ?_
      refine s_callVI (pc := 52) (as := [.int (μ.1 254 v3.toNatClampNeg)]) (st := []) dX12_see_52 lk_12_501 kd_253 (t_X12_isMail N (μ.1 254 v3.toNatClampNeg) μ) (by omega) rfl (by decide) rfl (fun x2 μ_2 => ?_)
      refine s_istore_n (pc := 55) (lv' := [(2, .int x2), (0, .ref 253), (1, .int c1), (3, .int v3)]) dX12_see_55 rfl (by decide) rfl ?_
      refine s_iincB (pc := 56) (lv' := fun x3 => [(3, .int x3), (2, .int x2), (0, .ref 253), (1, .int c1)]) (c := 3) 3 dX12_see_56 rfl (by decide) (by decide) (fun _ => rfl) (fun x3 => ?_)
      refine s_goto (pc := 59) (tgt := 36) dX12_see_59 (by decide) ?_
      refine s_sub (lv' := [(0, .ref 253), (1, .int c1), (2, .int x2), (3, .int x3)]) [2, 3, 1, 0] rfl ?_
      exact hkb x2 x3 μ_2
  · refine s_sub (lv' := [(0, .ref 253), (1, .int c1), (2, .int v2)]) [0, 1, 2] rfl ?_
    exact he62 v2 μ
def f_X12_see_L36 (N : Nat) (c1 : Int32) (e62 : Int32 → z_S → Option (Int32 × z_S)) : Nat → Int32 → Int32 → z_S → Option (Int32 × z_S)
  | 0, _, _, _ => none
  | n + 1, v2, v3, μ => b_X12_see_L36 N c1 (f_X12_see_L36 N c1 e62 n) e62 v2 v3 μ
theorem t_X12_see_L36 (N : Nat) (c1 : Int32) (e62 : Int32 → z_S → Option (Int32 × z_S)) (he62 : ∀ (a2 : Int32) (μ : z_S), z_sim false rI mX12_see 2 (e62 a2 μ) 62 [(0, .ref 253), (1, .int c1), (2, .int a2)] [] μ) : ∀ (n : Nat) (v2 : Int32) (v3 : Int32) (μ : z_S), z_sim false rI mX12_see 2 (f_X12_see_L36 N c1 e62 n v2 v3 μ) 36 [(0, .ref 253), (1, .int c1), (2, .int v2), (3, .int v3)] [] μ
  | 0, _, _, _ => s_none
  | n + 1, v2, v3, μ => tb_X12_see_L36 N c1 (f_X12_see_L36 N c1 e62 n) e62 (t_X12_see_L36 N c1 e62 he62 n) he62 v2 v3 μ
def b_X12_see_L74 (N : Nat) (c1 : Int32) (kb : Int32 → z_S → Option (Int32 × z_S)) (e97 : z_S → Option (Int32 × z_S)) (v3 : Int32) (μ : z_S) : Option (Int32 × z_S) :=
  if v3 < c1 then (z_in v3 1600 <| z_in v3 48 <| z_bd (z_setI μ 305 v3.toNatClampNeg (μ.1 254 v3.toNatClampNeg)) fun μ_4 => z_bd (v3 + 1) fun x5 => kb x5 μ_4) else e97 μ
theorem tb_X12_see_L74 (N : Nat) (c1 : Int32) (kb : Int32 → z_S → Option (Int32 × z_S)) (e97 : z_S → Option (Int32 × z_S)) (hkb : ∀ (a3 : Int32) (μ : z_S), z_sim false rI mX12_see 2 (kb a3 μ) 74 [(0, .ref 253), (1, .int c1), (3, .int a3)] [] μ) (he97 : ∀ (μ : z_S), z_sim false rI mX12_see 2 (e97 μ) 97 [(0, .ref 253), (1, .int c1)] [] μ) (v3 : Int32) (μ : z_S) : z_sim false rI mX12_see 2 (b_X12_see_L74 N c1 kb e97 v3 μ) 74 [(0, .ref 253), (1, .int c1), (3, .int v3)] [] μ := by
  unfold b_X12_see_L74
  refine s_iload_n (pc := 74) 2 dX12_see_74 rfl rfl ?_
  refine s_iload_n (pc := 75) 1 dX12_see_75 rfl rfl ?_
  refine s_icmp_ge (pc := 76) (tgt := 97) dX12_see_76 (by decide) ?_ ?_
  · refine s_aload_n (pc := 79) 0 dX12_see_79 rfl rfl ?_
    refine s_getR (pc := 80) (ci := 12) (k := 66) (r := 305) dX12_see_80 fl_12_169 kd_253 rfl rs_253_66 ?_
    refine s_iload_n (pc := 83) 2 dX12_see_83 rfl rfl ?_
    refine s_aload_n (pc := 84) 0 dX12_see_84 rfl rfl ?_
    refine s_getR (pc := 85) (ci := 12) (k := 0) (r := 254) dX12_see_85 fl_12_7 kd_253 rfl rs_253_0 ?_
    refine s_iload_n (pc := 88) 2 dX12_see_88 rfl rfl ?_
    refine s_iald (pc := 89) dX12_see_89 kd_254 ?_
    refine s_iast (pc := 90) dX12_see_90 kd_305 (fun μ_4 => ?_)
    refine s_iincB (pc := 91) (lv' := fun x5 => [(3, .int x5), (0, .ref 253), (1, .int c1)]) (c := 1) 2 dX12_see_91 rfl (by decide) (by decide) (fun _ => rfl) (fun x5 => ?_)
    refine s_goto (pc := 94) (tgt := 74) dX12_see_94 (by decide) ?_
    refine s_sub (lv' := [(0, .ref 253), (1, .int c1), (3, .int x5)]) [1, 2, 0] rfl ?_
    exact hkb x5 μ_4
  · refine s_sub (lv' := [(0, .ref 253), (1, .int c1)]) [0, 1] rfl ?_
    exact he97 μ
def f_X12_see_L74 (N : Nat) (c1 : Int32) (e97 : z_S → Option (Int32 × z_S)) : Nat → Int32 → z_S → Option (Int32 × z_S)
  | 0, _, _ => none
  | n + 1, v3, μ => b_X12_see_L74 N c1 (f_X12_see_L74 N c1 e97 n) e97 v3 μ
theorem t_X12_see_L74 (N : Nat) (c1 : Int32) (e97 : z_S → Option (Int32 × z_S)) (he97 : ∀ (μ : z_S), z_sim false rI mX12_see 2 (e97 μ) 97 [(0, .ref 253), (1, .int c1)] [] μ) : ∀ (n : Nat) (v3 : Int32) (μ : z_S), z_sim false rI mX12_see 2 (f_X12_see_L74 N c1 e97 n v3 μ) 74 [(0, .ref 253), (1, .int c1), (3, .int v3)] [] μ
  | 0, _, _ => s_none
  | n + 1, v3, μ => tb_X12_see_L74 N c1 (f_X12_see_L74 N c1 e97 n) e97 (t_X12_see_L74 N c1 e97 he97 n) he97 v3 μ
def f_X12_see_B62 (N : Nat)  (v1 : Int32) (v2 : Int32) (μ : z_S) : Option (Int32 × z_S) :=
  if v2 = 0 then (z_bn (f_X12_refuses N (1 : Int32) μ) fun x4 μ_3 => some (x4, μ_3)) else f_X12_see_L74 N v1 (fun μ97 => z_nz (3 : Int32) <| z_bd (z_setI μ97 253 65 (v1 / (3 : Int32))) fun μ_5 => some ((μ_5.1 253 65), μ_5)) N (0 : Int32) μ
theorem t_X12_see_B62 (N : Nat)     (v1 : Int32) (v2 : Int32)  (μ : z_S) : z_sim false rI mX12_see 2 (f_X12_see_B62 N   v1 v2 μ) 62 [(0, .ref 253), (1, .int v1), (2, .int v2)] [] μ := by
  unfold f_X12_see_B62
  refine s_iload_n (pc := 62) 2 dX12_see_62 rfl rfl ?_
  refine s_if_ne (pc := 63) (tgt := 72) dX12_see_63 (by decide) ?_ ?_
  · refine s_aload_n (pc := 66) 0 dX12_see_66 rfl rfl ?_
    refine s_iconst (pc := 67) (v := (1 : Int32)) dX12_see_67 (by decide) ?_
    refine s_callVI (pc := 68) (as := [.int (1 : Int32)]) (st := []) dX12_see_68 lk_12_560 kd_253 (t_X12_refuses N (1 : Int32) μ) (by omega) rfl (by decide) rfl (fun x4 μ_3 => ?_)
    exact s_iret (pc := 71) rfl dX12_see_71 rfl
  · refine s_iconst (pc := 72) (v := (0 : Int32)) dX12_see_72 (by decide) ?_
    refine s_istore_n (pc := 73) (lv' := [(3, .int (0 : Int32)), (0, .ref 253), (1, .int v1), (2, .int v2)]) dX12_see_73 rfl (by decide) rfl ?_
    refine s_sub (lv' := [(0, .ref 253), (1, .int v1), (3, .int (0 : Int32))]) [1, 2, 0] rfl ?_
    refine t_X12_see_L74 N v1 _ ?_ N (0 : Int32) μ
    · intro μ97
      refine s_aload_n (pc := 97) 0 dX12_see_97 rfl rfl ?_
      refine s_iload_n (pc := 98) 1 dX12_see_98 rfl rfl ?_
      refine s_iconst (pc := 99) (v := (3 : Int32)) dX12_see_99 (by decide) ?_
      refine s_idiv (pc := 100) dX12_see_100 ?_
      refine s_putI (pc := 101) (ci := 12) (k := 65) dX12_see_101 fl_12_416 kd_253 rfl rfl (fun μ_5 => ?_)
      refine s_aload_n (pc := 104) 0 dX12_see_104 rfl rfl ?_
      refine s_getI (pc := 105) (ci := 12) (k := 65) dX12_see_105 fl_12_416 kd_253 rfl ?_
      exact s_iret (pc := 108) rfl dX12_see_108 rfl
def f_X12_see_B33 (N : Nat)  (v1 : Int32) (s0 : Int32) (μ : z_S) : Option (Int32 × z_S) :=
  f_X12_see_L36 N v1 (fun y62_2 μ62 => f_X12_see_B62 N v1 y62_2 μ62) N s0 (0 : Int32) μ
theorem t_X12_see_B33 (N : Nat)     (v1 : Int32) (s0 : Int32)  (μ : z_S) : z_sim false rI mX12_see 2 (f_X12_see_B33 N   v1 s0 μ) 33 [(0, .ref 253), (1, .int v1)] [.int s0] μ := by
  unfold f_X12_see_B33
  refine s_istore_n (pc := 33) (lv' := [(2, .int s0), (0, .ref 253), (1, .int v1)]) dX12_see_33 rfl (by decide) rfl ?_
  refine s_iconst (pc := 34) (v := (0 : Int32)) dX12_see_34 (by decide) ?_
  refine s_istore_n (pc := 35) (lv' := [(3, .int (0 : Int32)), (2, .int s0), (0, .ref 253), (1, .int v1)]) dX12_see_35 rfl (by decide) rfl ?_
  refine s_sub (lv' := [(0, .ref 253), (1, .int v1), (2, .int s0), (3, .int (0 : Int32))]) [2, 3, 1, 0] rfl ?_
  refine t_X12_see_L36 N v1 _ ?_ N s0 (0 : Int32) μ
  · intro y62_2 μ62
    exact t_X12_see_B62 N v1 y62_2 μ62
def f_X12_see_B32 (N : Nat)  (v1 : Int32) (μ : z_S) : Option (Int32 × z_S) :=
  f_X12_see_B33 N v1 (0 : Int32) μ
theorem t_X12_see_B32 (N : Nat)     (v1 : Int32)  (μ : z_S) : z_sim false rI mX12_see 2 (f_X12_see_B32 N   v1 μ) 32 [(0, .ref 253), (1, .int v1)] [] μ := by
  unfold f_X12_see_B32
  refine s_iconst (pc := 32) (v := (0 : Int32)) dX12_see_32 (by decide) ?_
  exact t_X12_see_B33 N v1 (0 : Int32) μ
def f_X12_see (N : Nat) (μ : z_S) : Option (Int32 × z_S) :=
  z_bd (μ.1 253 1) fun x1 => z_bd (z_setI μ 253 1 (0 : Int32)) fun μ_1 => if 0 < x1 then (z_nz (3 : Int32) <| if (x1 - x1 / (3 : Int32) * (3 : Int32)) = 0 then (z_nz (3 : Int32) <| if (16 : Int32) < (x1 / (3 : Int32)) then (f_X12_see_B32 N x1 μ_1) else f_X12_see_B33 N x1 (1 : Int32) μ_1) else f_X12_see_B32 N x1 μ_1) else f_X12_see_B32 N x1 μ_1
theorem t_X12_see (N : Nat) (μ : z_S) : z_met false rI mX12_see 2 [.ref 253] μ (f_X12_see N μ) := by
  refine z_met.of (by decide +kernel) (by show _ ≤ _; first | decide | exact Nat.le_of_ble_eq_true rfl) (lv := [(0, .ref 253)]) rfl ?_
  unfold f_X12_see
  refine s_aload_n (pc := 0) 0 dX12_see_0 rfl rfl ?_
  refine s_getI (pc := 1) (ci := 12) (k := 1) dX12_see_1 fl_12_260 kd_253 rfl ?_
  refine s_letI (fun x1 => ?_)
  refine s_istore_n (pc := 4) (lv' := [(1, .int x1), (0, .ref 253)]) dX12_see_4 rfl (by decide) rfl ?_
  refine s_aload_n (pc := 5) 1 dX12_see_5 rfl rfl ?_
  refine s_iconst (pc := 6) (v := (0 : Int32)) dX12_see_6 (by decide) ?_
  refine s_putI (pc := 7) (ci := 12) (k := 1) dX12_see_7 fl_12_260 kd_253 rfl rfl (fun μ_1 => ?_)
  refine s_iload_n (pc := 10) 0 dX12_see_10 rfl rfl ?_
  refine s_if_le (pc := 11) (tgt := 32) dX12_see_11 (by decide) ?_ ?_
  · refine s_iload_n (pc := 14) 0 dX12_see_14 rfl rfl ?_
    refine s_iconst (pc := 15) (v := (3 : Int32)) dX12_see_15 (by decide) ?_
    refine s_irem (pc := 16) dX12_see_16 ?_
    refine s_if_ne (pc := 17) (tgt := 32) dX12_see_17 (by decide) ?_ ?_
    · refine s_iload_n (pc := 20) 0 dX12_see_20 rfl rfl ?_
      refine s_iconst (pc := 21) (v := (3 : Int32)) dX12_see_21 (by decide) ?_
      refine s_idiv (pc := 22) dX12_see_22 ?_
      refine s_bipush (pc := 23) (v := (16 : Int32)) dX12_see_23 (by decide) ?_
      refine s_icmp_gt (pc := 25) (tgt := 32) dX12_see_25 (by decide) ?_ ?_
      · refine s_sub (lv' := [(0, .ref 253), (1, .int x1)]) [1, 0] rfl ?_
        exact t_X12_see_B32 N x1 μ_1
      · refine s_iconst (pc := 28) (v := (1 : Int32)) dX12_see_28 (by decide) ?_
        refine s_goto (pc := 29) (tgt := 33) dX12_see_29 (by decide) ?_
        refine s_sub (lv' := [(0, .ref 253), (1, .int x1)]) [1, 0] rfl ?_
        exact t_X12_see_B33 N x1 (1 : Int32) μ_1
    · refine s_sub (lv' := [(0, .ref 253), (1, .int x1)]) [1, 0] rfl ?_
      exact t_X12_see_B32 N x1 μ_1
  · refine s_sub (lv' := [(0, .ref 253), (1, .int x1)]) [1, 0] rfl ?_
    exact t_X12_see_B32 N x1 μ_1
def b_X12_isAsTold_L2 (N : Nat) (c1 : Int32) (kb : Int32 → z_S → Option (Int32 × z_S)) (v2 : Int32) (μ : z_S) : Option (Int32 × z_S) :=
  if v2 < (μ.1 253 65) then (z_in ((3 : Int32) * v2) 48 <| z_bn (f_X12_timeOf N (μ.1 305 ((3 : Int32) * v2).toNatClampNeg) c1 μ) fun x1 μ_1 => z_in (((3 : Int32) * v2) + (1 : Int32)) 48 <| z_in (((3 : Int32) * v2) + (2 : Int32)) 48 <| if x1 = (((256 : Int32) * (μ_1.1 305 (((3 : Int32) * v2) + (1 : Int32)).toNatClampNeg)) + (μ_1.1 305 (((3 : Int32) * v2) + (2 : Int32)).toNatClampNeg)) then (z_bd (v2 + 1) fun x2 => kb x2 μ_1) else some ((0 : Int32), μ_1)) else some ((1 : Int32), μ)
theorem tb_X12_isAsTold_L2 (N : Nat) (c1 : Int32) (kb : Int32 → z_S → Option (Int32 × z_S)) (hkb : ∀ (a2 : Int32) (μ : z_S), z_sim false rI mX12_isAsTold 5 (kb a2 μ) 2 [(0, .ref 253), (1, .int c1), (2, .int a2)] [] μ) (v2 : Int32) (μ : z_S) : z_sim false rI mX12_isAsTold 5 (b_X12_isAsTold_L2 N c1 kb v2 μ) 2 [(0, .ref 253), (1, .int c1), (2, .int v2)] [] μ := by
  unfold b_X12_isAsTold_L2
  refine s_iload_n (pc := 2) 2 dX12_isAsTold_2 rfl rfl ?_
  refine s_aload_n (pc := 3) 0 dX12_isAsTold_3 rfl rfl ?_
  refine s_getI (pc := 4) (ci := 12) (k := 65) dX12_isAsTold_4 fl_12_416 kd_253 rfl ?_
  refine s_icmp_ge (pc := 7) (tgt := 59) dX12_isAsTold_7 (by decide) ?_ ?_
  · refine s_aload_n (pc := 10) 0 dX12_isAsTold_10 rfl rfl ?_
    refine s_aload_n (pc := 11) 0 dX12_isAsTold_11 rfl rfl ?_
    refine s_getR (pc := 12) (ci := 12) (k := 66) (r := 305) dX12_isAsTold_12 fl_12_169 kd_253 rfl rs_253_66 ?_
    refine s_iconst (pc := 15) (v := (3 : Int32)) dX12_isAsTold_15 (by decide) ?_
    refine s_iload_n (pc := 16) 2 dX12_isAsTold_16 rfl rfl ?_
    refine s_imul (pc := 17) dX12_isAsTold_17 ?_
    refine s_iald (pc := 18) dX12_isAsTold_18 kd_305 ?_
    refine s_iload_n (pc := 19) 1 dX12_isAsTold_19 rfl rfl ?_
    refine s_callVI (pc := 20) (as := [.int (μ.1 305 ((3 : Int32) * v2).toNatClampNeg), .int c1]) (st := []) dX12_isAsTold_20 lk_12_461 kd_253 (t_X12_timeOf N (μ.1 305 ((3 : Int32) * v2).toNatClampNeg) c1 μ) (by omega) rfl (by decide) rfl (fun x1 μ_1 => ?_)
    refine s_sipush (pc := 23) (v := (256 : Int32)) dX12_isAsTold_23 (by decide) ?_
    refine s_aload_n (pc := 26) 0 dX12_isAsTold_26 rfl rfl ?_
    refine s_getR (pc := 27) (ci := 12) (k := 66) (r := 305) dX12_isAsTold_27 fl_12_169 kd_253 rfl rs_253_66 ?_
    refine s_iconst (pc := 30) (v := (3 : Int32)) dX12_isAsTold_30 (by decide) ?_
    refine s_iload_n (pc := 31) 2 dX12_isAsTold_31 rfl rfl ?_
    refine s_imul (pc := 32) dX12_isAsTold_32 ?_
    refine s_iconst (pc := 33) (v := (1 : Int32)) dX12_isAsTold_33 (by decide) ?_
    refine s_iadd (pc := 34) dX12_isAsTold_34 ?_
    refine s_iald (pc := 35) dX12_isAsTold_35 kd_305 ?_
    refine s_imul (pc := 36) dX12_isAsTold_36 ?_
    refine s_aload_n (pc := 37) 0 dX12_isAsTold_37 rfl rfl ?_
    refine s_getR (pc := 38) (ci := 12) (k := 66) (r := 305) dX12_isAsTold_38 fl_12_169 kd_253 rfl rs_253_66 ?_
    refine s_iconst (pc := 41) (v := (3 : Int32)) dX12_isAsTold_41 (by decide) ?_
    refine s_iload_n (pc := 42) 2 dX12_isAsTold_42 rfl rfl ?_
    refine s_imul (pc := 43) dX12_isAsTold_43 ?_
    refine s_iconst (pc := 44) (v := (2 : Int32)) dX12_isAsTold_44 (by decide) ?_
    refine s_iadd (pc := 45) dX12_isAsTold_45 ?_
    refine s_iald (pc := 46) dX12_isAsTold_46 kd_305 ?_
    refine s_iadd (pc := 47) dX12_isAsTold_47 ?_
    refine s_icmp_eq (pc := 48) (tgt := 53) dX12_isAsTold_48 (by decide) ?_ ?_
    · refine s_iincB (pc := 53) (lv' := fun x2 => [(2, .int x2), (0, .ref 253), (1, .int c1)]) (c := 1) 2 dX12_isAsTold_53 rfl (by decide) (by decide) (fun _ => rfl) (fun x2 => ?_)
      refine s_goto (pc := 56) (tgt := 2) dX12_isAsTold_56 (by decide) ?_
      refine s_sub (lv' := [(0, .ref 253), (1, .int c1), (2, .int x2)]) [1, 2, 0] rfl ?_
      exact hkb x2 μ_1
    · refine s_iconst (pc := 51) (v := (0 : Int32)) dX12_isAsTold_51 (by decide) ?_
      exact s_zret0 (pc := 52) dX12_isAsTold_52 rfl rfl
  · refine s_iconst (pc := 59) (v := (1 : Int32)) dX12_isAsTold_59 (by decide) ?_
    exact s_zret0 (pc := 60) dX12_isAsTold_60 rfl rfl
def f_X12_isAsTold_L2 (N : Nat) (c1 : Int32) : Nat → Int32 → z_S → Option (Int32 × z_S)
  | 0, _, _ => none
  | n + 1, v2, μ => b_X12_isAsTold_L2 N c1 (f_X12_isAsTold_L2 N c1 n) v2 μ
theorem t_X12_isAsTold_L2 (N : Nat) (c1 : Int32) : ∀ (n : Nat) (v2 : Int32) (μ : z_S), z_sim false rI mX12_isAsTold 5 (f_X12_isAsTold_L2 N c1 n v2 μ) 2 [(0, .ref 253), (1, .int c1), (2, .int v2)] [] μ
  | 0, _, _ => s_none
  | n + 1, v2, μ => tb_X12_isAsTold_L2 N c1 (f_X12_isAsTold_L2 N c1 n) (t_X12_isAsTold_L2 N c1 n) v2 μ
def f_X12_isAsTold (N : Nat) (a1 : Int32) (μ : z_S) : Option (Int32 × z_S) :=
  f_X12_isAsTold_L2 N a1 N (0 : Int32) μ
theorem t_X12_isAsTold (N : Nat) (a1 : Int32) (μ : z_S) : z_met false rI mX12_isAsTold 5 [.ref 253, .int a1] μ (f_X12_isAsTold N a1 μ) := by
  refine z_met.of (by decide +kernel) (by show _ ≤ _; first | decide | exact Nat.le_of_ble_eq_true rfl) (lv := [(0, .ref 253), (1, .int a1)]) rfl ?_
  unfold f_X12_isAsTold
  refine s_iconst (pc := 0) (v := (0 : Int32)) dX12_isAsTold_0 (by decide) ?_
  refine s_istore_n (pc := 1) (lv' := [(2, .int (0 : Int32)), (0, .ref 253), (1, .int a1)]) dX12_isAsTold_1 rfl (by decide) rfl ?_
  refine s_sub (lv' := [(0, .ref 253), (1, .int a1), (2, .int (0 : Int32))]) [1, 2, 0] rfl ?_
  refine t_X12_isAsTold_L2 N a1 N (0 : Int32) μ
def f_X12_whose_B26 (N : Nat) (kb : Int32 → Int32 → z_S → Option (Int32 × z_S)) (v1 : Int32) (v2 : Int32) (μ : z_S) : Option (Int32 × z_S) :=
  z_bd (v2 + 1) fun x3 => kb v1 x3 μ
theorem t_X12_whose_B26 (N : Nat)   (kb : Int32 → Int32 → z_S → Option (Int32 × z_S)) (hkb : ∀ (a1 : Int32) (a2 : Int32) (μ : z_S), z_sim false rI mX12_whose 6 (kb a1 a2 μ) 4 [(0, .ref 253), (1, .int a1), (2, .int a2)] [] μ) (v1 : Int32) (v2 : Int32)  (μ : z_S) : z_sim false rI mX12_whose 6 (f_X12_whose_B26 N  kb v1 v2 μ) 26 [(0, .ref 253), (1, .int v1), (2, .int v2)] [] μ := by
  unfold f_X12_whose_B26
  refine s_iincB (pc := 26) (lv' := fun x3 => [(2, .int x3), (0, .ref 253), (1, .int v1)]) (c := 1) 2 dX12_whose_26 rfl (by decide) (by decide) (fun _ => rfl) (fun x3 => ?_)
  refine s_goto (pc := 29) (tgt := 4) dX12_whose_29 (by decide) ?_
  refine s_sub (lv' := [(0, .ref 253), (1, .int v1), (2, .int x3)]) [1, 2, 0] rfl ?_
  exact hkb v1 x3 μ
def b_X12_whose_L4 (N : Nat) (kb : Int32 → Int32 → z_S → Option (Int32 × z_S)) (v1 : Int32) (v2 : Int32) (μ : z_S) : Option (Int32 × z_S) :=
  z_bn (f_X12_helperMany N μ) fun x1 μ_1 => if v2 < x1 then (z_bn (f_X12_isAsTold N v2 μ_1) fun x2 μ_2 => if x2 = 0 then (f_X12_whose_B26 N kb v1 v2 μ_2) else z_bd (v1 ||| ((1 : Int32) <<< (v2 &&& 31))) fun x4 => f_X12_whose_B26 N kb x4 v2 μ_2) else some (v1, μ_1)
theorem tb_X12_whose_L4 (N : Nat) (kb : Int32 → Int32 → z_S → Option (Int32 × z_S)) (hkb : ∀ (a1 : Int32) (a2 : Int32) (μ : z_S), z_sim false rI mX12_whose 6 (kb a1 a2 μ) 4 [(0, .ref 253), (1, .int a1), (2, .int a2)] [] μ) (v1 : Int32) (v2 : Int32) (μ : z_S) : z_sim false rI mX12_whose 6 (b_X12_whose_L4 N kb v1 v2 μ) 4 [(0, .ref 253), (1, .int v1), (2, .int v2)] [] μ := by
  unfold b_X12_whose_L4
  refine s_iload_n (pc := 4) 2 dX12_whose_4 rfl rfl ?_
  refine s_aload_n (pc := 5) 0 dX12_whose_5 rfl rfl ?_
  refine s_callVI (pc := 6) (as := []) (st := [.int v2]) dX12_whose_6 lk_12_422 kd_253 (t_X12_helperMany N μ) (by omega) rfl (Nat.le_of_ble_eq_true rfl) rfl (fun x1 μ_1 => ?_)
  refine s_icmp_ge (pc := 9) (tgt := 32) dX12_whose_9 (by decide) ?_ ?_
  · refine s_aload_n (pc := 12) 0 dX12_whose_12 rfl rfl ?_
    refine s_iload_n (pc := 13) 2 dX12_whose_13 rfl rfl ?_
    refine s_callVI (pc := 14) (as := [.int v2]) (st := []) dX12_whose_14 lk_12_563 kd_253 (t_X12_isAsTold N v2 μ_1) (by omega) rfl (by decide) rfl (fun x2 μ_2 => ?_)
    refine s_if_eq (pc := 17) (tgt := 26) dX12_whose_17 (by decide) ?_ ?_
    · exact t_X12_whose_B26 N kb hkb v1 v2 μ_2
    · refine s_iload_n (pc := 20) 1 dX12_whose_20 rfl rfl ?_
      refine s_iconst (pc := 21) (v := (1 : Int32)) dX12_whose_21 (by decide) ?_
      refine s_iload_n (pc := 22) 2 dX12_whose_22 rfl rfl ?_
      refine s_ishl (pc := 23) dX12_whose_23 ?_
      refine s_ior (pc := 24) dX12_whose_24 ?_
      refine s_letI (fun x4 => ?_)
      refine s_istore_n (pc := 25) (lv' := [(1, .int x4), (0, .ref 253), (2, .int v2)]) dX12_whose_25 rfl (by decide) rfl ?_
      refine s_sub (lv' := [(0, .ref 253), (1, .int x4), (2, .int v2)]) [1, 0, 2] rfl ?_
      exact t_X12_whose_B26 N kb hkb x4 v2 μ_2
  · refine s_iload_n (pc := 32) 1 dX12_whose_32 rfl rfl ?_
    exact s_iret (pc := 33) rfl dX12_whose_33 rfl
def f_X12_whose_L4 (N : Nat) : Nat → Int32 → Int32 → z_S → Option (Int32 × z_S)
  | 0, _, _, _ => none
  | n + 1, v1, v2, μ => b_X12_whose_L4 N (f_X12_whose_L4 N n) v1 v2 μ
theorem t_X12_whose_L4 (N : Nat) : ∀ (n : Nat) (v1 : Int32) (v2 : Int32) (μ : z_S), z_sim false rI mX12_whose 6 (f_X12_whose_L4 N n v1 v2 μ) 4 [(0, .ref 253), (1, .int v1), (2, .int v2)] [] μ
  | 0, _, _, _ => s_none
  | n + 1, v1, v2, μ => tb_X12_whose_L4 N (f_X12_whose_L4 N n) (t_X12_whose_L4 N n) v1 v2 μ
def f_X12_whose (N : Nat) (μ : z_S) : Option (Int32 × z_S) :=
  f_X12_whose_L4 N N (0 : Int32) (0 : Int32) μ
theorem t_X12_whose (N : Nat) (μ : z_S) : z_met false rI mX12_whose 6 [.ref 253] μ (f_X12_whose N μ) := by
  refine z_met.of (by decide +kernel) (by show _ ≤ _; first | decide | exact Nat.le_of_ble_eq_true rfl) (lv := [(0, .ref 253)]) rfl ?_
  unfold f_X12_whose
  refine s_iconst (pc := 0) (v := (0 : Int32)) dX12_whose_0 (by decide) ?_
  refine s_istore_n (pc := 1) (lv' := [(1, .int (0 : Int32)), (0, .ref 253)]) dX12_whose_1 rfl (by decide) rfl ?_
  refine s_iconst (pc := 2) (v := (0 : Int32)) dX12_whose_2 (by decide) ?_
  refine s_istore_n (pc := 3) (lv' := [(2, .int (0 : Int32)), (1, .int (0 : Int32)), (0, .ref 253)]) dX12_whose_3 rfl (by decide) rfl ?_
  refine s_sub (lv' := [(0, .ref 253), (1, .int (0 : Int32)), (2, .int (0 : Int32))]) [2, 1, 0] rfl ?_
  refine t_X12_whose_L4 N N (0 : Int32) (0 : Int32) μ
def f_X12_mostAlike_B69 (N : Nat) (c1 : Int32) (c2 : Int32) (c3 : Int32) (c4 : Int32) (kb : Int32 → Int32 → z_S → Option (Int32 × z_S)) (e75 : Int32 → z_S → Option (Int32 × z_S)) (v5 : Int32) (v6 : Int32) (μ : z_S) : Option (Int32 × z_S) :=
  z_bd (v6 + 1) fun x6 => kb v5 x6 μ
theorem t_X12_mostAlike_B69 (N : Nat) (c1 : Int32) (c2 : Int32) (c3 : Int32) (c4 : Int32)  (kb : Int32 → Int32 → z_S → Option (Int32 × z_S)) (e75 : Int32 → z_S → Option (Int32 × z_S)) (hkb : ∀ (a5 : Int32) (a6 : Int32) (μ : z_S), z_sim false rI mX12_mostAlike 5 (kb a5 a6 μ) 20 [(0, .ref 253), (1, .int c1), (2, .int c2), (3, .int c3), (4, .int c4), (5, .int a5), (6, .int a6)] [] μ) (he75 : ∀ (a5 : Int32) (μ : z_S), z_sim false rI mX12_mostAlike 5 (e75 a5 μ) 75 [(0, .ref 253), (1, .int c1), (2, .int c2), (3, .int c3), (4, .int c4), (5, .int a5)] [] μ) (v5 : Int32) (v6 : Int32)  (μ : z_S) : z_sim false rI mX12_mostAlike 5 (f_X12_mostAlike_B69 N c1 c2 c3 c4 kb e75 v5 v6 μ) 69 [(0, .ref 253), (1, .int c1), (2, .int c2), (3, .int c3), (4, .int c4), (5, .int v5), (6, .int v6)] [] μ := by
  unfold f_X12_mostAlike_B69
  refine s_iincB (pc := 69) (lv' := fun x6 => [(6, .int x6), (0, .ref 253), (1, .int c1), (2, .int c2), (3, .int c3), (4, .int c4), (5, .int v5)]) (c := 1) 6 dX12_mostAlike_69 rfl (by decide) (by decide) (fun _ => rfl) (fun x6 => ?_)
  refine s_goto (pc := 72) (tgt := 20) dX12_mostAlike_72 (by decide) ?_
  refine s_sub (lv' := [(0, .ref 253), (1, .int c1), (2, .int c2), (3, .int c3), (4, .int c4), (5, .int v5), (6, .int x6)]) [1, 2, 3, 4, 5, 6, 0] rfl ?_
  exact hkb v5 x6 μ
def b_X12_mostAlike_L20 (N : Nat) (c1 : Int32) (c2 : Int32) (c3 : Int32) (c4 : Int32) (kb : Int32 → Int32 → z_S → Option (Int32 × z_S)) (e75 : Int32 → z_S → Option (Int32 × z_S)) (v5 : Int32) (v6 : Int32) (μ : z_S) : Option (Int32 × z_S) :=
  z_bn (f_X12_helperMany N μ) fun x2 μ_2 => if v6 < x2 then (if ((c2 >>> (c4 &&& 31)) &&& (1 : Int32)) = (1 : Int32) then (if ((c2 >>> (v6 &&& 31)) &&& (1 : Int32)) = (1 : Int32) then (z_bn (f_X12_timeOf N c1 v6 μ_2) fun x3 μ_3 => z_bn (f_X12_timeOf N c1 c4 μ_3) fun x4 μ_4 => if x3 = x4 then (z_bd (v5 + 1) fun x5 => f_X12_mostAlike_B69 N c1 c2 c3 c4 kb e75 x5 v6 μ_4) else f_X12_mostAlike_B69 N c1 c2 c3 c4 kb e75 v5 v6 μ_4) else f_X12_mostAlike_B69 N c1 c2 c3 c4 kb e75 v5 v6 μ_2) else f_X12_mostAlike_B69 N c1 c2 c3 c4 kb e75 v5 v6 μ_2) else e75 v5 μ_2
theorem tb_X12_mostAlike_L20 (N : Nat) (c1 : Int32) (c2 : Int32) (c3 : Int32) (c4 : Int32) (kb : Int32 → Int32 → z_S → Option (Int32 × z_S)) (e75 : Int32 → z_S → Option (Int32 × z_S)) (hkb : ∀ (a5 : Int32) (a6 : Int32) (μ : z_S), z_sim false rI mX12_mostAlike 5 (kb a5 a6 μ) 20 [(0, .ref 253), (1, .int c1), (2, .int c2), (3, .int c3), (4, .int c4), (5, .int a5), (6, .int a6)] [] μ) (he75 : ∀ (a5 : Int32) (μ : z_S), z_sim false rI mX12_mostAlike 5 (e75 a5 μ) 75 [(0, .ref 253), (1, .int c1), (2, .int c2), (3, .int c3), (4, .int c4), (5, .int a5)] [] μ) (v5 : Int32) (v6 : Int32) (μ : z_S) : z_sim false rI mX12_mostAlike 5 (b_X12_mostAlike_L20 N c1 c2 c3 c4 kb e75 v5 v6 μ) 20 [(0, .ref 253), (1, .int c1), (2, .int c2), (3, .int c3), (4, .int c4), (5, .int v5), (6, .int v6)] [] μ := by
  unfold b_X12_mostAlike_L20
  refine s_iload (pc := 20) 6 dX12_mostAlike_20 rfl ?_
  refine s_aload_n (pc := 22) 0 dX12_mostAlike_22 rfl rfl ?_
  refine s_callVI (pc := 23) (as := []) (st := [.int v6]) dX12_mostAlike_23 lk_12_422 kd_253 (t_X12_helperMany N μ) (by omega) rfl (Nat.le_of_ble_eq_true rfl) rfl (fun x2 μ_2 => ?_)
  refine s_icmp_ge (pc := 26) (tgt := 75) dX12_mostAlike_26 (by decide) ?_ ?_
  · refine s_iload_n (pc := 29) 2 dX12_mostAlike_29 rfl rfl ?_
    refine s_iload (pc := 30) 4 dX12_mostAlike_30 rfl ?_
    refine s_ishr (pc := 32) dX12_mostAlike_32 ?_
    refine s_iconst (pc := 33) (v := (1 : Int32)) dX12_mostAlike_33 (by decide) ?_
    refine s_iand (pc := 34) dX12_mostAlike_34 ?_
    refine s_iconst (pc := 35) (v := (1 : Int32)) dX12_mostAlike_35 (by decide) ?_
    refine s_icmp_ne (pc := 36) (tgt := 69) dX12_mostAlike_36 (by decide) ?_ ?_
    · refine s_iload_n (pc := 39) 2 dX12_mostAlike_39 rfl rfl ?_
      refine s_iload (pc := 40) 6 dX12_mostAlike_40 rfl ?_
      refine s_ishr (pc := 42) dX12_mostAlike_42 ?_
      refine s_iconst (pc := 43) (v := (1 : Int32)) dX12_mostAlike_43 (by decide) ?_
      refine s_iand (pc := 44) dX12_mostAlike_44 ?_
      refine s_iconst (pc := 45) (v := (1 : Int32)) dX12_mostAlike_45 (by decide) ?_
      refine s_icmp_ne (pc := 46) (tgt := 69) dX12_mostAlike_46 (by decide) ?_ ?_
      · refine s_aload_n (pc := 49) 0 dX12_mostAlike_49 rfl rfl ?_
        refine s_iload_n (pc := 50) 1 dX12_mostAlike_50 rfl rfl ?_
        refine s_iload (pc := 51) 6 dX12_mostAlike_51 rfl ?_
        refine s_callVI (pc := 53) (as := [.int c1, .int v6]) (st := []) dX12_mostAlike_53 lk_12_461 kd_253 (t_X12_timeOf N c1 v6 μ_2) (by omega) rfl (by decide) rfl (fun x3 μ_3 => ?_)
        refine s_aload_n (pc := 56) 0 dX12_mostAlike_56 rfl rfl ?_
        refine s_iload_n (pc := 57) 1 dX12_mostAlike_57 rfl rfl ?_
        refine s_iload (pc := 58) 4 dX12_mostAlike_58 rfl ?_
        refine s_callVI (pc := 60) (as := [.int c1, .int c4]) (st := [.int x3]) dX12_mostAlike_60 lk_12_461 kd_253 (t_X12_timeOf N c1 c4 μ_3) (by omega) rfl (Nat.le_of_ble_eq_true rfl) rfl (fun x4 μ_4 => ?_)
        refine s_icmp_ne (pc := 63) (tgt := 69) dX12_mostAlike_63 (by decide) ?_ ?_
        · refine s_iincB (pc := 66) (lv' := fun x5 => [(5, .int x5), (0, .ref 253), (1, .int c1), (2, .int c2), (3, .int c3), (4, .int c4), (6, .int v6)]) (c := 1) 5 dX12_mostAlike_66 rfl (by decide) (by decide) (fun _ => rfl) (fun x5 => ?_)
          refine s_sub (lv' := [(0, .ref 253), (1, .int c1), (2, .int c2), (3, .int c3), (4, .int c4), (5, .int x5), (6, .int v6)]) [1, 2, 3, 4, 5, 0, 6] rfl ?_
          exact t_X12_mostAlike_B69 N c1 c2 c3 c4 kb e75 hkb he75 x5 v6 μ_4
        · exact t_X12_mostAlike_B69 N c1 c2 c3 c4 kb e75 hkb he75 v5 v6 μ_4
      · exact t_X12_mostAlike_B69 N c1 c2 c3 c4 kb e75 hkb he75 v5 v6 μ_2
    · exact t_X12_mostAlike_B69 N c1 c2 c3 c4 kb e75 hkb he75 v5 v6 μ_2
  · refine s_sub (lv' := [(0, .ref 253), (1, .int c1), (2, .int c2), (3, .int c3), (4, .int c4), (5, .int v5)]) [0, 1, 2, 3, 4, 5] rfl ?_
    exact he75 v5 μ_2
def f_X12_mostAlike_L20 (N : Nat) (c1 : Int32) (c2 : Int32) (c3 : Int32) (c4 : Int32) (e75 : Int32 → z_S → Option (Int32 × z_S)) : Nat → Int32 → Int32 → z_S → Option (Int32 × z_S)
  | 0, _, _, _ => none
  | n + 1, v5, v6, μ => b_X12_mostAlike_L20 N c1 c2 c3 c4 (f_X12_mostAlike_L20 N c1 c2 c3 c4 e75 n) e75 v5 v6 μ
theorem t_X12_mostAlike_L20 (N : Nat) (c1 : Int32) (c2 : Int32) (c3 : Int32) (c4 : Int32) (e75 : Int32 → z_S → Option (Int32 × z_S)) (he75 : ∀ (a5 : Int32) (μ : z_S), z_sim false rI mX12_mostAlike 5 (e75 a5 μ) 75 [(0, .ref 253), (1, .int c1), (2, .int c2), (3, .int c3), (4, .int c4), (5, .int a5)] [] μ) : ∀ (n : Nat) (v5 : Int32) (v6 : Int32) (μ : z_S), z_sim false rI mX12_mostAlike 5 (f_X12_mostAlike_L20 N c1 c2 c3 c4 e75 n v5 v6 μ) 20 [(0, .ref 253), (1, .int c1), (2, .int c2), (3, .int c3), (4, .int c4), (5, .int v5), (6, .int v6)] [] μ
  | 0, _, _, _ => s_none
  | n + 1, v5, v6, μ => tb_X12_mostAlike_L20 N c1 c2 c3 c4 (f_X12_mostAlike_L20 N c1 c2 c3 c4 e75 n) e75 (t_X12_mostAlike_L20 N c1 c2 c3 c4 e75 he75 n) he75 v5 v6 μ
