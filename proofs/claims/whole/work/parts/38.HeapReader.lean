def f_X3_kindOf (N : Nat) (a0 : Int32) (μ : z_S) : Option (Int32 × z_S) :=
  z_bd a0 fun x1 => if x1 = 0 then (some ((0 : Int32), μ)) else if x1 = 1 then (some ((-1 : Int32), μ)) else if x1 = 2 then (some ((-1 : Int32), μ)) else if x1 = 3 then (some ((-1 : Int32), μ)) else if x1 = 4 then (some ((1 : Int32), μ)) else if x1 = 5 then (some ((-1 : Int32), μ)) else if x1 = 6 then (some ((7 : Int32), μ)) else if x1 = 7 then (some ((3 : Int32), μ)) else if x1 = 8 then (some ((4 : Int32), μ)) else if x1 = 9 then (some ((2 : Int32), μ)) else if x1 = 10 then (some ((-1 : Int32), μ)) else if x1 = 11 then (some ((-1 : Int32), μ)) else if x1 = 12 then (some ((-1 : Int32), μ)) else if x1 = 13 then (some ((5 : Int32), μ)) else if x1 = 14 then (some ((6 : Int32), μ)) else if x1 = 15 then (some ((8 : Int32), μ)) else if x1 = 16 then (some ((9 : Int32), μ)) else some ((-1 : Int32), μ)
theorem t_X3_kindOf (N : Nat) (a0 : Int32) (μ : z_S) : z_met true rI mX3_kindOf 0 [.int a0] μ (f_X3_kindOf N a0 μ) := by
  refine z_met.of (by decide +kernel) (by show _ ≤ _; first | decide | exact Nat.le_of_ble_eq_true rfl) (lv := [(0, .int a0)]) rfl ?_
  unfold f_X3_kindOf
  refine s_iload_n (pc := 0) 0 dX3_kindOf_0 rfl rfl ?_
  refine s_letI (fun x1 => ?_)
  refine s_ite (fun hs1 => ?_) (fun hs1 => ?_)
  · subst hs1
    refine s_tswIn (pc := 1) (tgt := 84) dX3_kindOf_1 (by decide) (by decide) rfl (by decide) ?_
    refine s_iconst (pc := 84) (v := (0 : Int32)) dX3_kindOf_84 (by decide) ?_
    exact s_iret (pc := 85) rfl dX3_kindOf_85 rfl
  refine s_ite (fun hs2 => ?_) (fun hs2 => ?_)
  · subst hs2
    refine s_tswIn (pc := 1) (tgt := 108) dX3_kindOf_1 (by decide) (by decide) rfl (by decide) ?_
    refine s_iconst (pc := 108) (v := (-1 : Int32)) dX3_kindOf_108 (by decide) ?_
    exact s_iret (pc := 109) rfl dX3_kindOf_109 rfl
  refine s_ite (fun hs3 => ?_) (fun hs3 => ?_)
  · subst hs3
    refine s_tswIn (pc := 1) (tgt := 108) dX3_kindOf_1 (by decide) (by decide) rfl (by decide) ?_
    refine s_iconst (pc := 108) (v := (-1 : Int32)) dX3_kindOf_108 (by decide) ?_
    exact s_iret (pc := 109) rfl dX3_kindOf_109 rfl
  refine s_ite (fun hs4 => ?_) (fun hs4 => ?_)
  · subst hs4
    refine s_tswIn (pc := 1) (tgt := 108) dX3_kindOf_1 (by decide) (by decide) rfl (by decide) ?_
    refine s_iconst (pc := 108) (v := (-1 : Int32)) dX3_kindOf_108 (by decide) ?_
    exact s_iret (pc := 109) rfl dX3_kindOf_109 rfl
  refine s_ite (fun hs5 => ?_) (fun hs5 => ?_)
  · subst hs5
    refine s_tswIn (pc := 1) (tgt := 86) dX3_kindOf_1 (by decide) (by decide) rfl (by decide) ?_
    refine s_iconst (pc := 86) (v := (1 : Int32)) dX3_kindOf_86 (by decide) ?_
    exact s_iret (pc := 87) rfl dX3_kindOf_87 rfl
  refine s_ite (fun hs6 => ?_) (fun hs6 => ?_)
  · subst hs6
    refine s_tswIn (pc := 1) (tgt := 108) dX3_kindOf_1 (by decide) (by decide) rfl (by decide) ?_
    refine s_iconst (pc := 108) (v := (-1 : Int32)) dX3_kindOf_108 (by decide) ?_
    exact s_iret (pc := 109) rfl dX3_kindOf_109 rfl
  refine s_ite (fun hs7 => ?_) (fun hs7 => ?_)
  · subst hs7
    refine s_tswIn (pc := 1) (tgt := 99) dX3_kindOf_1 (by decide) (by decide) rfl (by decide) ?_
    refine s_bipush (pc := 99) (v := (7 : Int32)) dX3_kindOf_99 (by decide) ?_
    exact s_iret (pc := 101) rfl dX3_kindOf_101 rfl
  refine s_ite (fun hs8 => ?_) (fun hs8 => ?_)
  · subst hs8
    refine s_tswIn (pc := 1) (tgt := 90) dX3_kindOf_1 (by decide) (by decide) rfl (by decide) ?_
    refine s_iconst (pc := 90) (v := (3 : Int32)) dX3_kindOf_90 (by decide) ?_
    exact s_iret (pc := 91) rfl dX3_kindOf_91 rfl
  refine s_ite (fun hs9 => ?_) (fun hs9 => ?_)
  · subst hs9
    refine s_tswIn (pc := 1) (tgt := 92) dX3_kindOf_1 (by decide) (by decide) rfl (by decide) ?_
    refine s_iconst (pc := 92) (v := (4 : Int32)) dX3_kindOf_92 (by decide) ?_
    exact s_iret (pc := 93) rfl dX3_kindOf_93 rfl
  refine s_ite (fun hs10 => ?_) (fun hs10 => ?_)
  · subst hs10
    refine s_tswIn (pc := 1) (tgt := 88) dX3_kindOf_1 (by decide) (by decide) rfl (by decide) ?_
    refine s_iconst (pc := 88) (v := (2 : Int32)) dX3_kindOf_88 (by decide) ?_
    exact s_iret (pc := 89) rfl dX3_kindOf_89 rfl
  refine s_ite (fun hs11 => ?_) (fun hs11 => ?_)
  · subst hs11
    refine s_tswIn (pc := 1) (tgt := 108) dX3_kindOf_1 (by decide) (by decide) rfl (by decide) ?_
    refine s_iconst (pc := 108) (v := (-1 : Int32)) dX3_kindOf_108 (by decide) ?_
    exact s_iret (pc := 109) rfl dX3_kindOf_109 rfl
  refine s_ite (fun hs12 => ?_) (fun hs12 => ?_)
  · subst hs12
    refine s_tswIn (pc := 1) (tgt := 108) dX3_kindOf_1 (by decide) (by decide) rfl (by decide) ?_
    refine s_iconst (pc := 108) (v := (-1 : Int32)) dX3_kindOf_108 (by decide) ?_
    exact s_iret (pc := 109) rfl dX3_kindOf_109 rfl
  refine s_ite (fun hs13 => ?_) (fun hs13 => ?_)
  · subst hs13
    refine s_tswIn (pc := 1) (tgt := 108) dX3_kindOf_1 (by decide) (by decide) rfl (by decide) ?_
    refine s_iconst (pc := 108) (v := (-1 : Int32)) dX3_kindOf_108 (by decide) ?_
    exact s_iret (pc := 109) rfl dX3_kindOf_109 rfl
  refine s_ite (fun hs14 => ?_) (fun hs14 => ?_)
  · subst hs14
    refine s_tswIn (pc := 1) (tgt := 94) dX3_kindOf_1 (by decide) (by decide) rfl (by decide) ?_
    refine s_iconst (pc := 94) (v := (5 : Int32)) dX3_kindOf_94 (by decide) ?_
    exact s_iret (pc := 95) rfl dX3_kindOf_95 rfl
  refine s_ite (fun hs15 => ?_) (fun hs15 => ?_)
  · subst hs15
    refine s_tswIn (pc := 1) (tgt := 96) dX3_kindOf_1 (by decide) (by decide) rfl (by decide) ?_
    refine s_bipush (pc := 96) (v := (6 : Int32)) dX3_kindOf_96 (by decide) ?_
    exact s_iret (pc := 98) rfl dX3_kindOf_98 rfl
  refine s_ite (fun hs16 => ?_) (fun hs16 => ?_)
  · subst hs16
    refine s_tswIn (pc := 1) (tgt := 102) dX3_kindOf_1 (by decide) (by decide) rfl (by decide) ?_
    refine s_bipush (pc := 102) (v := (8 : Int32)) dX3_kindOf_102 (by decide) ?_
    exact s_iret (pc := 104) rfl dX3_kindOf_104 rfl
  refine s_ite (fun hs17 => ?_) (fun hs17 => ?_)
  · subst hs17
    refine s_tswIn (pc := 1) (tgt := 105) dX3_kindOf_1 (by decide) (by decide) rfl (by decide) ?_
    refine s_bipush (pc := 105) (v := (9 : Int32)) dX3_kindOf_105 (by decide) ?_
    exact s_iret (pc := 107) rfl dX3_kindOf_107 rfl
  · have q_hs1 := lv_neT (a := 0) hs1 (by decide)
    have q_hs2 := lv_neT (a := 1) hs2 (by decide)
    have q_hs3 := lv_neT (a := 2) hs3 (by decide)
    have q_hs4 := lv_neT (a := 3) hs4 (by decide)
    have q_hs5 := lv_neT (a := 4) hs5 (by decide)
    have q_hs6 := lv_neT (a := 5) hs6 (by decide)
    have q_hs7 := lv_neT (a := 6) hs7 (by decide)
    have q_hs8 := lv_neT (a := 7) hs8 (by decide)
    have q_hs9 := lv_neT (a := 8) hs9 (by decide)
    have q_hs10 := lv_neT (a := 9) hs10 (by decide)
    have q_hs11 := lv_neT (a := 10) hs11 (by decide)
    have q_hs12 := lv_neT (a := 11) hs12 (by decide)
    have q_hs13 := lv_neT (a := 12) hs13 (by decide)
    have q_hs14 := lv_neT (a := 13) hs14 (by decide)
    have q_hs15 := lv_neT (a := 14) hs15 (by decide)
    have q_hs16 := lv_neT (a := 15) hs16 (by decide)
    have q_hs17 := lv_neT (a := 16) hs17 (by decide)
    refine s_tswOut (pc := 1) (tgt := 108) dX3_kindOf_1 (by omega) (by decide) ?_
    refine s_iconst (pc := 108) (v := (-1 : Int32)) dX3_kindOf_108 (by decide) ?_
    exact s_iret (pc := 109) rfl dX3_kindOf_109 rfl
def b_X3_newName_L17 (N : Nat) (c1 : Int32) (c2 : Int32) (kb : Int32 → z_S → Option (Int32 × z_S)) (e50 : z_S → Option (Int32 × z_S)) (e35 : z_S → Option (Int32 × z_S)) (v3 : Int32) (μ : z_S) : Option (Int32 × z_S) :=
  if v3 < (3 : Int32) then (z_bn (f_X2_find N (z_hn μ.2.2.2) v3 c2 μ) fun x2 μ_2 => if x2 = (-1 : Int32) then (z_bd (v3 + 1) fun x3 => kb x3 μ_2) else e35 μ_2) else e50 μ
theorem tb_X3_newName_L17 (N : Nat) (c1 : Int32) (c2 : Int32) (kb : Int32 → z_S → Option (Int32 × z_S)) (e50 : z_S → Option (Int32 × z_S)) (e35 : z_S → Option (Int32 × z_S)) (hkb : ∀ (a3 : Int32) (μ : z_S), z_sim true rI mX3_newName 2 (kb a3 μ) 17 [(0, .ref 95), (1, .int c1), (2, .int c2), (3, .int a3)] [] μ) (he50 : ∀ (μ : z_S), z_sim true rI mX3_newName 2 (e50 μ) 50 [(0, .ref 95), (1, .int c1), (2, .int c2)] [] μ) (he35 : ∀ (μ : z_S), z_sim true rI mX3_newName 2 (e35 μ) 35 [(0, .ref 95)] [] μ) (v3 : Int32) (μ : z_S) : z_sim true rI mX3_newName 2 (b_X3_newName_L17 N c1 c2 kb e50 e35 v3 μ) 17 [(0, .ref 95), (1, .int c1), (2, .int c2), (3, .int v3)] [] μ := by
  unfold b_X3_newName_L17
  refine s_iload_n (pc := 17) 3 dX3_newName_17 rfl rfl ?_
  refine s_iconst (pc := 18) (v := (3 : Int32)) dX3_newName_18 (by decide) ?_
  refine s_icmp_ge (pc := 19) (tgt := 50) dX3_newName_19 (by decide) ?_ ?_
  · refine s_aload_n (pc := 22) 0 dX3_newName_22 rfl rfl ?_
    refine s_getH (pc := 23) dX3_newName_23 fl_3_12 ?_
    refine s_iload_n (pc := 26) 3 dX3_newName_26 rfl rfl ?_
    refine s_iload_n (pc := 27) 2 dX3_newName_27 rfl rfl ?_
    refine s_callVI (pc := 28) (as := [.int v3, .int c2]) (st := []) dX3_newName_28 lk_3_155 (z_hn_k μ.2.2.2) (t_X2_find N (z_hn μ.2.2.2) v3 c2 μ) (by omega) rfl (by decide) rfl (fun x2 μ_2 => ?_)
    refine s_iconst (pc := 31) (v := (-1 : Int32)) dX3_newName_31 (by decide) ?_
    refine s_icmp_eq (pc := 32) (tgt := 44) dX3_newName_32 (by decide) ?_ ?_
    · refine s_iincB (pc := 44) (lv' := fun x3 => [(3, .int x3), (0, .ref 95), (1, .int c1), (2, .int c2)]) (c := 1) 3 dX3_newName_44 rfl (by decide) (by decide) (fun _ => rfl) (fun x3 => ?_)
      refine s_goto (pc := 47) (tgt := 17) dX3_newName_47 (by decide) ?_
      refine s_sub (lv' := [(0, .ref 95), (1, .int c1), (2, .int c2), (3, .int x3)]) [1, 2, 3, 0] rfl ?_
      exact hkb x3 μ_2
    · refine s_sub (lv' := [(0, .ref 95)]) [0] rfl ?_
      exact he35 μ_2
  · refine s_sub (lv' := [(0, .ref 95), (1, .int c1), (2, .int c2)]) [0, 1, 2] rfl ?_
    exact he50 μ
def f_X3_newName_L17 (N : Nat) (c1 : Int32) (c2 : Int32) (e50 : z_S → Option (Int32 × z_S)) (e35 : z_S → Option (Int32 × z_S)) : Nat → Int32 → z_S → Option (Int32 × z_S)
  | 0, _, _ => none
  | n + 1, v3, μ => b_X3_newName_L17 N c1 c2 (f_X3_newName_L17 N c1 c2 e50 e35 n) e50 e35 v3 μ
theorem t_X3_newName_L17 (N : Nat) (c1 : Int32) (c2 : Int32) (e50 : z_S → Option (Int32 × z_S)) (e35 : z_S → Option (Int32 × z_S)) (he50 : ∀ (μ : z_S), z_sim true rI mX3_newName 2 (e50 μ) 50 [(0, .ref 95), (1, .int c1), (2, .int c2)] [] μ) (he35 : ∀ (μ : z_S), z_sim true rI mX3_newName 2 (e35 μ) 35 [(0, .ref 95)] [] μ) : ∀ (n : Nat) (v3 : Int32) (μ : z_S), z_sim true rI mX3_newName 2 (f_X3_newName_L17 N c1 c2 e50 e35 n v3 μ) 17 [(0, .ref 95), (1, .int c1), (2, .int c2), (3, .int v3)] [] μ
  | 0, _, _ => s_none
  | n + 1, v3, μ => tb_X3_newName_L17 N c1 c2 (f_X3_newName_L17 N c1 c2 e50 e35 n) e50 e35 (t_X3_newName_L17 N c1 c2 e50 e35 he50 he35 n) he50 he35 v3 μ
def f_X3_newName (N : Nat) (a1 : Int32) (μ : z_S) : Option (Int32 × z_S) :=
  z_bn (f_X10_nameHere N μ) fun x1 μ_1 => if x1 = (-1 : Int32) then (some ((0 : Int32), μ_1)) else f_X3_newName_L17 N a1 x1 (fun μ50 => z_in a1 3 <| z_in a1 10 <| z_in (μ50.1 ((z_hn μ50.2.2.2) + 1) a1.toNatClampNeg) 8 <| z_bd (z_setI μ50 ((z_hn μ50.2.2.2) + 3 + a1.toNatClampNeg) (μ50.1 ((z_hn μ50.2.2.2) + 1) a1.toNatClampNeg).toNatClampNeg x1) fun μ_3 => z_bn (f_X10_next N μ_3) fun _ μ_4 => some ((1 : Int32), μ_4)) (fun μ35 => z_bn (f_X10_fail N (3 : Int32) μ35) fun x4 μ_5 => z_zb x4 (some (x4, μ_5))) N (0 : Int32) μ_1
theorem t_X3_newName (N : Nat) (a1 : Int32) (μ : z_S) : z_met true rI mX3_newName 2 [.ref 95, .int a1] μ (f_X3_newName N a1 μ) := by
  refine z_met.of (by decide +kernel) (by show _ ≤ _; first | decide | exact Nat.le_of_ble_eq_true rfl) (lv := [(0, .ref 95), (1, .int a1)]) rfl ?_
  unfold f_X3_newName
  refine s_aload_n (pc := 0) 0 dX3_newName_0 rfl rfl ?_
  refine s_getR (pc := 1) (ci := 3) (k := 0) (r := 1) dX3_newName_1 fl_3_18 kd_95 rfl rs_95_0 ?_
  refine s_callVI (pc := 4) (as := []) (st := []) dX3_newName_4 lk_3_151 kd_1 (t_X10_nameHere N μ) (by omega) rfl (by decide) rfl (fun x1 μ_1 => ?_)
  refine s_istore_n (pc := 7) (lv' := [(2, .int x1), (0, .ref 95), (1, .int a1)]) dX3_newName_7 rfl (by decide) rfl ?_
  refine s_iload_n (pc := 8) 0 dX3_newName_8 rfl rfl ?_
  refine s_iconst (pc := 9) (v := (-1 : Int32)) dX3_newName_9 (by decide) ?_
  refine s_icmp_ne (pc := 10) (tgt := 15) dX3_newName_10 (by decide) ?_ ?_
  · refine s_iconst (pc := 13) (v := (0 : Int32)) dX3_newName_13 (by decide) ?_
    exact s_zret0 (pc := 14) dX3_newName_14 rfl rfl
  · refine s_iconst (pc := 15) (v := (0 : Int32)) dX3_newName_15 (by decide) ?_
    refine s_istore_n (pc := 16) (lv' := [(3, .int (0 : Int32)), (2, .int x1), (0, .ref 95), (1, .int a1)]) dX3_newName_16 rfl (by decide) rfl ?_
    refine s_sub (lv' := [(0, .ref 95), (1, .int a1), (2, .int x1), (3, .int (0 : Int32))]) [2, 3, 1, 0] rfl ?_
    refine t_X3_newName_L17 N a1 x1 _ _ ?_ ?_ N (0 : Int32) μ_1
    · intro μ50
      refine s_aload_n (pc := 50) 0 dX3_newName_50 rfl rfl ?_
      refine s_getH (pc := 51) dX3_newName_51 fl_3_12 ?_
      refine s_getR (pc := 54) (ci := 2) (k := 1) (r := ((z_hn μ50.2.2.2) + 2)) dX3_newName_54 fl_3_158 (z_hn_k μ50.2.2.2) rfl (gr_2_0_1 (z_hn_k μ50.2.2.2)) ?_
      refine s_iload_n (pc := 57) 1 dX3_newName_57 rfl rfl ?_
      refine s_aald (pc := 58) (r := ((z_hn μ50.2.2.2) + 3 + a1.toNatClampNeg)) dX3_newName_58 (gk_2_2 (z_hn_k μ50.2.2.2)) (by decide) (by decide) (fun hi => ga_2_2 (z_hn_k μ50.2.2.2) hi) (fun hi1 => ?_)
      refine s_aload_n (pc := 59) 0 dX3_newName_59 rfl rfl ?_
      refine s_getH (pc := 60) dX3_newName_60 fl_3_12 ?_
      refine s_getR (pc := 63) (ci := 2) (k := 0) (r := ((z_hn μ50.2.2.2) + 1)) dX3_newName_63 fl_3_59 (z_hn_k μ50.2.2.2) rfl (gr_2_0_0 (z_hn_k μ50.2.2.2)) ?_
      refine s_iload_n (pc := 66) 1 dX3_newName_66 rfl rfl ?_
      refine s_iald (pc := 67) dX3_newName_67 (gk_2_1 (z_hn_k μ50.2.2.2)) ?_
      refine s_iload_n (pc := 68) 2 dX3_newName_68 rfl rfl ?_
      refine s_iast (pc := 69) dX3_newName_69 (gb_2_2 (z_hn_k μ50.2.2.2) hi1) (fun μ_3 => ?_)
      refine s_aload_n (pc := 70) 0 dX3_newName_70 rfl rfl ?_
      refine s_getR (pc := 71) (ci := 3) (k := 0) (r := 1) dX3_newName_71 fl_3_18 kd_95 rfl rs_95_0 ?_
      refine s_callVV (pc := 74) (as := []) (st := []) dX3_newName_74 lk_3_66 kd_1 (t_X10_next N μ_3) (by omega) rfl (by decide) rfl (fun _ μ_4 => ?_)
      refine s_iconst (pc := 77) (v := (1 : Int32)) dX3_newName_77 (by decide) ?_
      exact s_zret0 (pc := 78) dX3_newName_78 rfl rfl
    · intro μ35
      refine s_aload_n (pc := 35) 0 dX3_newName_35 rfl rfl ?_
      refine s_getR (pc := 36) (ci := 3) (k := 0) (r := 1) dX3_newName_36 fl_3_18 kd_95 rfl rs_95_0 ?_
      refine s_iconst (pc := 39) (v := (3 : Int32)) dX3_newName_39 (by decide) ?_
      refine s_callVI (pc := 40) (as := [.int (3 : Int32)]) (st := []) dX3_newName_40 lk_3_49 kd_1 (t_X10_fail N (3 : Int32) μ35) (by omega) rfl (by decide) rfl (fun x4 μ_5 => ?_)
      exact s_zret (pc := 43) dX3_newName_43 rfl
def f_X3_measure (N : Nat) (a1 : Int32) (a2 : Int32) (a3 : Int32) (o4 : Nat) (a5 : Int32) (μ : z_S) : Option (Int32 × z_S) :=
  z_kd true o4 20 <| if (μ.1 1 7) = a1 then (z_bn (f_X10_next N μ) fun _ μ_1 => z_bn (f_X10_takeNumber N a2 a3 μ_1) fun x1 μ_2 => z_in a5 (z_kw true o4).2 <| z_bd (z_setI μ_2 o4 a5.toNatClampNeg x1) fun μ_3 => z_in a5 (z_kw true o4).2 <| if (μ_3.1 o4 a5.toNatClampNeg) = (-1 : Int32) then (some ((0 : Int32), μ_3)) else some ((1 : Int32), μ_3)) else z_bn (f_X10_fail N (1 : Int32) μ) fun x2 μ_4 => z_zb x2 (some (x2, μ_4))
theorem t_X3_measure (N : Nat) (a1 : Int32) (a2 : Int32) (a3 : Int32) (o4 : Nat) (a5 : Int32) (μ : z_S) : z_met true rI mX3_measure 3 [.ref 95, .int a1, .int a2, .int a3, .ref o4, .int a5] μ (f_X3_measure N a1 a2 a3 o4 a5 μ) := by
  refine z_met.of (by decide +kernel) (by show _ ≤ _; first | decide | exact Nat.le_of_ble_eq_true rfl) (lv := [(0, .ref 95), (1, .int a1), (2, .int a2), (3, .int a3), (4, .ref o4), (5, .int a5)]) rfl ?_
  unfold f_X3_measure
  refine s_kd (fun hk4 => ?_)
  refine s_aload_n (pc := 0) 0 dX3_measure_0 rfl rfl ?_
  refine s_getR (pc := 1) (ci := 3) (k := 0) (r := 1) dX3_measure_1 fl_3_18 kd_95 rfl rs_95_0 ?_
  refine s_getI (pc := 4) (ci := 10) (k := 7) dX3_measure_4 fl_3_52 kd_1 rfl ?_
  refine s_iload_n (pc := 7) 1 dX3_measure_7 rfl rfl ?_
  refine s_icmp_eq (pc := 8) (tgt := 20) dX3_measure_8 (by decide) ?_ ?_
  · refine s_aload_n (pc := 20) 0 dX3_measure_20 rfl rfl ?_
    refine s_getR (pc := 21) (ci := 3) (k := 0) (r := 1) dX3_measure_21 fl_3_18 kd_95 rfl rs_95_0 ?_
    refine s_callVV (pc := 24) (as := []) (st := []) dX3_measure_24 lk_3_66 kd_1 (t_X10_next N μ) (by omega) rfl (by decide) rfl (fun _ μ_1 => ?_)
    refine s_aload (pc := 27) 4 dX3_measure_27 rfl ?_
    refine s_iload (pc := 29) 5 dX3_measure_29 rfl ?_
    refine s_aload_n (pc := 31) 0 dX3_measure_31 rfl rfl ?_
    refine s_getR (pc := 32) (ci := 3) (k := 0) (r := 1) dX3_measure_32 fl_3_18 kd_95 rfl rs_95_0 ?_
    refine s_iload_n (pc := 35) 2 dX3_measure_35 rfl rfl ?_
    refine s_iload_n (pc := 36) 3 dX3_measure_36 rfl rfl ?_
    refine s_callVI (pc := 37) (as := [.int a2, .int a3]) (st := [.int a5, .ref o4]) dX3_measure_37 lk_3_93 kd_1 (t_X10_takeNumber N a2 a3 μ_1) (by omega) rfl (Nat.le_of_ble_eq_true rfl) rfl (fun x1 μ_2 => ?_)
    refine s_iast (pc := 40) dX3_measure_40 hk4 (fun μ_3 => ?_)
    refine s_aload (pc := 41) 4 dX3_measure_41 rfl ?_
    refine s_iload (pc := 43) 5 dX3_measure_43 rfl ?_
    refine s_iald (pc := 45) dX3_measure_45 hk4 ?_
    refine s_iconst (pc := 46) (v := (-1 : Int32)) dX3_measure_46 (by decide) ?_
    refine s_icmp_eq (pc := 47) (tgt := 54) dX3_measure_47 (by decide) ?_ ?_
    · refine s_iconst (pc := 54) (v := (0 : Int32)) dX3_measure_54 (by decide) ?_
      exact s_zret0 (pc := 55) dX3_measure_55 rfl rfl
    · refine s_iconst (pc := 50) (v := (1 : Int32)) dX3_measure_50 (by decide) ?_
      refine s_goto (pc := 51) (tgt := 55) dX3_measure_51 (by decide) ?_
      exact s_zret0 (pc := 55) dX3_measure_55 rfl rfl
  · refine s_aload_n (pc := 11) 0 dX3_measure_11 rfl rfl ?_
    refine s_getR (pc := 12) (ci := 3) (k := 0) (r := 1) dX3_measure_12 fl_3_18 kd_95 rfl rs_95_0 ?_
    refine s_iconst (pc := 15) (v := (1 : Int32)) dX3_measure_15 (by decide) ?_
    refine s_callVI (pc := 16) (as := [.int (1 : Int32)]) (st := []) dX3_measure_16 lk_3_49 kd_1 (t_X10_fail N (1 : Int32) μ) (by omega) rfl (by decide) rfl (fun x2 μ_4 => ?_)
    exact s_zret (pc := 19) dX3_measure_19 rfl
def f_X3_letterContent (N : Nat) (μ : z_S) : Option (Int32 × z_S) :=
  z_bd (μ.1 ((z_hn μ.2.2.2) + 1) 0) fun x1 => z_bn (f_X3_newName N (0 : Int32) μ) fun x2 μ_1 => if x2 = 0 then (some ((0 : Int32), μ_1)) else z_bn (f_X3_measure N (1 : Int32) (0 : Int32) (20 : Int32) ((z_hn μ_1.2.2.2) + 6) x1 μ_1) fun x3 μ_2 => if x3 = 0 then (some ((0 : Int32), μ_2)) else z_bn (f_X3_measure N (2 : Int32) (0 : Int32) (9 : Int32) ((z_hn μ_2.2.2.2) + 7) x1 μ_2) fun x4 μ_3 => if x4 = 0 then (some ((0 : Int32), μ_3)) else z_bn (f_X3_measure N (3 : Int32) (0 : Int32) (10 : Int32) ((z_hn μ_3.2.2.2) + 8) x1 μ_3) fun x5 μ_4 => if x5 = 0 then (some ((0 : Int32), μ_4)) else some ((1 : Int32), μ_4)
theorem t_X3_letterContent (N : Nat) (μ : z_S) : z_met true rI mX3_letterContent 4 [.ref 95] μ (f_X3_letterContent N μ) := by
  refine z_met.of (by decide +kernel) (by show _ ≤ _; first | decide | exact Nat.le_of_ble_eq_true rfl) (lv := [(0, .ref 95)]) rfl ?_
  unfold f_X3_letterContent
  refine s_aload_n (pc := 0) 0 dX3_letterContent_0 rfl rfl ?_
  refine s_getH (pc := 1) dX3_letterContent_1 fl_3_12 ?_
  refine s_getR (pc := 4) (ci := 2) (k := 0) (r := ((z_hn μ.2.2.2) + 1)) dX3_letterContent_4 fl_3_59 (z_hn_k μ.2.2.2) rfl (gr_2_0_0 (z_hn_k μ.2.2.2)) ?_
  refine s_iconst (pc := 7) (v := (0 : Int32)) dX3_letterContent_7 (by decide) ?_
  refine s_ialdK (pc := 8) (k := 0) dX3_letterContent_8 (gk_2_1 (z_hn_k μ.2.2.2)) (by decide) (by decide) (by decide) ?_
  refine s_letI (fun x1 => ?_)
  refine s_istore_n (pc := 9) (lv' := [(1, .int x1), (0, .ref 95)]) dX3_letterContent_9 rfl (by decide) rfl ?_
  refine s_aload_n (pc := 10) 1 dX3_letterContent_10 rfl rfl ?_
  refine s_iconst (pc := 11) (v := (0 : Int32)) dX3_letterContent_11 (by decide) ?_
  refine s_callVI (pc := 12) (as := [.int (0 : Int32)]) (st := []) dX3_letterContent_12 lk_3_103 kd_95 (t_X3_newName N (0 : Int32) μ) (by omega) rfl (by decide) rfl (fun x2 μ_1 => ?_)
  refine s_if_eq (pc := 15) (tgt := 79) dX3_letterContent_15 (by decide) ?_ ?_
  · refine s_iconst (pc := 79) (v := (0 : Int32)) dX3_letterContent_79 (by decide) ?_
    exact s_zret0 (pc := 80) dX3_letterContent_80 rfl rfl
  · refine s_aload_n (pc := 18) 1 dX3_letterContent_18 rfl rfl ?_
    refine s_iconst (pc := 19) (v := (1 : Int32)) dX3_letterContent_19 (by decide) ?_
    refine s_iconst (pc := 20) (v := (0 : Int32)) dX3_letterContent_20 (by decide) ?_
    refine s_bipush (pc := 21) (v := (20 : Int32)) dX3_letterContent_21 (by decide) ?_
    refine s_aload_n (pc := 23) 1 dX3_letterContent_23 rfl rfl ?_
    refine s_getH (pc := 24) dX3_letterContent_24 fl_3_12 ?_
    refine s_getR (pc := 27) (ci := 2) (k := 2) (r := ((z_hn μ_1.2.2.2) + 6)) dX3_letterContent_27 fl_3_106 (z_hn_k μ_1.2.2.2) rfl (gr_2_0_2 (z_hn_k μ_1.2.2.2)) ?_
    refine s_iload_n (pc := 30) 0 dX3_letterContent_30 rfl rfl ?_
    refine s_callVI (pc := 31) (as := [.int (1 : Int32), .int (0 : Int32), .int (20 : Int32), .ref ((z_hn μ_1.2.2.2) + 6), .int x1]) (st := []) dX3_letterContent_31 lk_3_109 kd_95 (t_X3_measure N (1 : Int32) (0 : Int32) (20 : Int32) ((z_hn μ_1.2.2.2) + 6) x1 μ_1) (by omega) rfl (by decide) rfl (fun x3 μ_2 => ?_)
    refine s_if_eq (pc := 34) (tgt := 79) dX3_letterContent_34 (by decide) ?_ ?_
    · refine s_iconst (pc := 79) (v := (0 : Int32)) dX3_letterContent_79 (by decide) ?_
      exact s_zret0 (pc := 80) dX3_letterContent_80 rfl rfl
    · refine s_aload_n (pc := 37) 1 dX3_letterContent_37 rfl rfl ?_
      refine s_iconst (pc := 38) (v := (2 : Int32)) dX3_letterContent_38 (by decide) ?_
      refine s_iconst (pc := 39) (v := (0 : Int32)) dX3_letterContent_39 (by decide) ?_
      refine s_bipush (pc := 40) (v := (9 : Int32)) dX3_letterContent_40 (by decide) ?_
      refine s_aload_n (pc := 42) 1 dX3_letterContent_42 rfl rfl ?_
      refine s_getH (pc := 43) dX3_letterContent_43 fl_3_12 ?_
      refine s_getR (pc := 46) (ci := 2) (k := 3) (r := ((z_hn μ_2.2.2.2) + 7)) dX3_letterContent_46 fl_3_113 (z_hn_k μ_2.2.2.2) rfl (gr_2_0_3 (z_hn_k μ_2.2.2.2)) ?_
      refine s_iload_n (pc := 49) 0 dX3_letterContent_49 rfl rfl ?_
      refine s_callVI (pc := 50) (as := [.int (2 : Int32), .int (0 : Int32), .int (9 : Int32), .ref ((z_hn μ_2.2.2.2) + 7), .int x1]) (st := []) dX3_letterContent_50 lk_3_109 kd_95 (t_X3_measure N (2 : Int32) (0 : Int32) (9 : Int32) ((z_hn μ_2.2.2.2) + 7) x1 μ_2) (by omega) rfl (by decide) rfl (fun x4 μ_3 => ?_)
      refine s_if_eq (pc := 53) (tgt := 79) dX3_letterContent_53 (by decide) ?_ ?_
      · refine s_iconst (pc := 79) (v := (0 : Int32)) dX3_letterContent_79 (by decide) ?_
        exact s_zret0 (pc := 80) dX3_letterContent_80 rfl rfl
      · refine s_aload_n (pc := 56) 1 dX3_letterContent_56 rfl rfl ?_
        refine s_iconst (pc := 57) (v := (3 : Int32)) dX3_letterContent_57 (by decide) ?_
        refine s_iconst (pc := 58) (v := (0 : Int32)) dX3_letterContent_58 (by decide) ?_
        refine s_bipush (pc := 59) (v := (10 : Int32)) dX3_letterContent_59 (by decide) ?_
        refine s_aload_n (pc := 61) 1 dX3_letterContent_61 rfl rfl ?_
        refine s_getH (pc := 62) dX3_letterContent_62 fl_3_12 ?_
        refine s_getR (pc := 65) (ci := 2) (k := 4) (r := ((z_hn μ_3.2.2.2) + 8)) dX3_letterContent_65 fl_3_116 (z_hn_k μ_3.2.2.2) rfl (gr_2_0_4 (z_hn_k μ_3.2.2.2)) ?_
        refine s_iload_n (pc := 68) 0 dX3_letterContent_68 rfl rfl ?_
        refine s_callVI (pc := 69) (as := [.int (3 : Int32), .int (0 : Int32), .int (10 : Int32), .ref ((z_hn μ_3.2.2.2) + 8), .int x1]) (st := []) dX3_letterContent_69 lk_3_109 kd_95 (t_X3_measure N (3 : Int32) (0 : Int32) (10 : Int32) ((z_hn μ_3.2.2.2) + 8) x1 μ_3) (by omega) rfl (by decide) rfl (fun x5 μ_4 => ?_)
        refine s_if_eq (pc := 72) (tgt := 79) dX3_letterContent_72 (by decide) ?_ ?_
        · refine s_iconst (pc := 79) (v := (0 : Int32)) dX3_letterContent_79 (by decide) ?_
          exact s_zret0 (pc := 80) dX3_letterContent_80 rfl rfl
        · refine s_iconst (pc := 75) (v := (1 : Int32)) dX3_letterContent_75 (by decide) ?_
          refine s_goto (pc := 76) (tgt := 80) dX3_letterContent_76 (by decide) ?_
          exact s_zret0 (pc := 80) dX3_letterContent_80 rfl rfl
def f_X3_giftContent (N : Nat) (μ : z_S) : Option (Int32 × z_S) :=
  z_bn (f_X3_newName N (1 : Int32) μ) fun x1 μ_1 => if x1 = 0 then (some ((0 : Int32), μ_1)) else z_bn (f_X3_measure N (5 : Int32) (0 : Int32) (3 : Int32) ((z_hn μ_1.2.2.2) + 28) (μ_1.1 ((z_hn μ_1.2.2.2) + 1) 1) μ_1) fun x2 μ_2 => if x2 = 0 then (some ((0 : Int32), μ_2)) else some ((1 : Int32), μ_2)
theorem t_X3_giftContent (N : Nat) (μ : z_S) : z_met true rI mX3_giftContent 4 [.ref 95] μ (f_X3_giftContent N μ) := by
  refine z_met.of (by decide +kernel) (by show _ ≤ _; first | decide | exact Nat.le_of_ble_eq_true rfl) (lv := [(0, .ref 95)]) rfl ?_
  unfold f_X3_giftContent
  refine s_aload_n (pc := 0) 0 dX3_giftContent_0 rfl rfl ?_
  refine s_iconst (pc := 1) (v := (1 : Int32)) dX3_giftContent_1 (by decide) ?_
  refine s_callVI (pc := 2) (as := [.int (1 : Int32)]) (st := []) dX3_giftContent_2 lk_3_103 kd_95 (t_X3_newName N (1 : Int32) μ) (by omega) rfl (by decide) rfl (fun x1 μ_1 => ?_)
  refine s_if_eq (pc := 5) (tgt := 38) dX3_giftContent_5 (by decide) ?_ ?_
  · refine s_iconst (pc := 38) (v := (0 : Int32)) dX3_giftContent_38 (by decide) ?_
    exact s_zret0 (pc := 39) dX3_giftContent_39 rfl rfl
  · refine s_aload_n (pc := 8) 0 dX3_giftContent_8 rfl rfl ?_
    refine s_iconst (pc := 9) (v := (5 : Int32)) dX3_giftContent_9 (by decide) ?_
    refine s_iconst (pc := 10) (v := (0 : Int32)) dX3_giftContent_10 (by decide) ?_
    refine s_iconst (pc := 11) (v := (3 : Int32)) dX3_giftContent_11 (by decide) ?_
    refine s_aload_n (pc := 12) 0 dX3_giftContent_12 rfl rfl ?_
    refine s_getH (pc := 13) dX3_giftContent_13 fl_3_12 ?_
    refine s_getR (pc := 16) (ci := 2) (k := 8) (r := ((z_hn μ_1.2.2.2) + 28)) dX3_giftContent_16 fl_3_119 (z_hn_k μ_1.2.2.2) rfl (gr_2_0_8 (z_hn_k μ_1.2.2.2)) ?_
    refine s_aload_n (pc := 19) 0 dX3_giftContent_19 rfl rfl ?_
    refine s_getH (pc := 20) dX3_giftContent_20 fl_3_12 ?_
    refine s_getR (pc := 23) (ci := 2) (k := 0) (r := ((z_hn μ_1.2.2.2) + 1)) dX3_giftContent_23 fl_3_59 (z_hn_k μ_1.2.2.2) rfl (gr_2_0_0 (z_hn_k μ_1.2.2.2)) ?_
    refine s_iconst (pc := 26) (v := (1 : Int32)) dX3_giftContent_26 (by decide) ?_
    refine s_ialdK (pc := 27) (k := 1) dX3_giftContent_27 (gk_2_1 (z_hn_k μ_1.2.2.2)) (by decide) (by decide) (by decide) ?_
    refine s_callVI (pc := 28) (as := [.int (5 : Int32), .int (0 : Int32), .int (3 : Int32), .ref ((z_hn μ_1.2.2.2) + 28), .int (μ_1.1 ((z_hn μ_1.2.2.2) + 1) 1)]) (st := []) dX3_giftContent_28 lk_3_109 kd_95 (t_X3_measure N (5 : Int32) (0 : Int32) (3 : Int32) ((z_hn μ_1.2.2.2) + 28) (μ_1.1 ((z_hn μ_1.2.2.2) + 1) 1) μ_1) (by omega) rfl (by decide) rfl (fun x2 μ_2 => ?_)
    refine s_if_eq (pc := 31) (tgt := 38) dX3_giftContent_31 (by decide) ?_ ?_
    · refine s_iconst (pc := 38) (v := (0 : Int32)) dX3_giftContent_38 (by decide) ?_
      exact s_zret0 (pc := 39) dX3_giftContent_39 rfl rfl
    · refine s_iconst (pc := 34) (v := (1 : Int32)) dX3_giftContent_34 (by decide) ?_
      refine s_goto (pc := 35) (tgt := 39) dX3_giftContent_35 (by decide) ?_
      exact s_zret0 (pc := 39) dX3_giftContent_39 rfl rfl
def f_X3_helperContent (N : Nat) (μ : z_S) : Option (Int32 × z_S) :=
  z_bd (μ.1 ((z_hn μ.2.2.2) + 1) 2) fun x1 => z_bn (f_X3_newName N (2 : Int32) μ) fun x2 μ_1 => if x2 = 0 then (some ((0 : Int32), μ_1)) else z_bn (f_X3_measure N (10 : Int32) (1 : Int32) (240 : Int32) ((z_hn μ_1.2.2.2) + 29) x1 μ_1) fun x3 μ_2 => if x3 = 0 then (some ((0 : Int32), μ_2)) else z_bn (f_X3_measure N (11 : Int32) (0 : Int32) (9 : Int32) ((z_hn μ_2.2.2.2) + 30) x1 μ_2) fun x4 μ_3 => if x4 = 0 then (some ((0 : Int32), μ_3)) else z_bn (f_X3_measure N (12 : Int32) (0 : Int32) (10 : Int32) ((z_hn μ_3.2.2.2) + 31) x1 μ_3) fun x5 μ_4 => if x5 = 0 then (some ((0 : Int32), μ_4)) else some ((1 : Int32), μ_4)
theorem t_X3_helperContent (N : Nat) (μ : z_S) : z_met true rI mX3_helperContent 4 [.ref 95] μ (f_X3_helperContent N μ) := by
  refine z_met.of (by decide +kernel) (by show _ ≤ _; first | decide | exact Nat.le_of_ble_eq_true rfl) (lv := [(0, .ref 95)]) rfl ?_
  unfold f_X3_helperContent
  refine s_aload_n (pc := 0) 0 dX3_helperContent_0 rfl rfl ?_
  refine s_getH (pc := 1) dX3_helperContent_1 fl_3_12 ?_
  refine s_getR (pc := 4) (ci := 2) (k := 0) (r := ((z_hn μ.2.2.2) + 1)) dX3_helperContent_4 fl_3_59 (z_hn_k μ.2.2.2) rfl (gr_2_0_0 (z_hn_k μ.2.2.2)) ?_
  refine s_iconst (pc := 7) (v := (2 : Int32)) dX3_helperContent_7 (by decide) ?_
  refine s_ialdK (pc := 8) (k := 2) dX3_helperContent_8 (gk_2_1 (z_hn_k μ.2.2.2)) (by decide) (by decide) (by decide) ?_
  refine s_letI (fun x1 => ?_)
  refine s_istore_n (pc := 9) (lv' := [(1, .int x1), (0, .ref 95)]) dX3_helperContent_9 rfl (by decide) rfl ?_
  refine s_aload_n (pc := 10) 1 dX3_helperContent_10 rfl rfl ?_
  refine s_iconst (pc := 11) (v := (2 : Int32)) dX3_helperContent_11 (by decide) ?_
  refine s_callVI (pc := 12) (as := [.int (2 : Int32)]) (st := []) dX3_helperContent_12 lk_3_103 kd_95 (t_X3_newName N (2 : Int32) μ) (by omega) rfl (by decide) rfl (fun x2 μ_1 => ?_)
  refine s_if_eq (pc := 15) (tgt := 83) dX3_helperContent_15 (by decide) ?_ ?_
  · refine s_iconst (pc := 83) (v := (0 : Int32)) dX3_helperContent_83 (by decide) ?_
    exact s_zret0 (pc := 84) dX3_helperContent_84 rfl rfl
  · refine s_aload_n (pc := 18) 1 dX3_helperContent_18 rfl rfl ?_
    refine s_bipush (pc := 19) (v := (10 : Int32)) dX3_helperContent_19 (by decide) ?_
    refine s_iconst (pc := 21) (v := (1 : Int32)) dX3_helperContent_21 (by decide) ?_
    refine s_sipush (pc := 22) (v := (240 : Int32)) dX3_helperContent_22 (by decide) ?_
    refine s_aload_n (pc := 25) 1 dX3_helperContent_25 rfl rfl ?_
    refine s_getH (pc := 26) dX3_helperContent_26 fl_3_12 ?_
    refine s_getR (pc := 29) (ci := 2) (k := 9) (r := ((z_hn μ_1.2.2.2) + 29)) dX3_helperContent_29 fl_3_122 (z_hn_k μ_1.2.2.2) rfl (gr_2_0_9 (z_hn_k μ_1.2.2.2)) ?_
    refine s_iload_n (pc := 32) 0 dX3_helperContent_32 rfl rfl ?_
    refine s_callVI (pc := 33) (as := [.int (10 : Int32), .int (1 : Int32), .int (240 : Int32), .ref ((z_hn μ_1.2.2.2) + 29), .int x1]) (st := []) dX3_helperContent_33 lk_3_109 kd_95 (t_X3_measure N (10 : Int32) (1 : Int32) (240 : Int32) ((z_hn μ_1.2.2.2) + 29) x1 μ_1) (by omega) rfl (by decide) rfl (fun x3 μ_2 => ?_)
    refine s_if_eq (pc := 36) (tgt := 83) dX3_helperContent_36 (by decide) ?_ ?_
    · refine s_iconst (pc := 83) (v := (0 : Int32)) dX3_helperContent_83 (by decide) ?_
      exact s_zret0 (pc := 84) dX3_helperContent_84 rfl rfl
    · refine s_aload_n (pc := 39) 1 dX3_helperContent_39 rfl rfl ?_
      refine s_bipush (pc := 40) (v := (11 : Int32)) dX3_helperContent_40 (by decide) ?_
      refine s_iconst (pc := 42) (v := (0 : Int32)) dX3_helperContent_42 (by decide) ?_
      refine s_bipush (pc := 43) (v := (9 : Int32)) dX3_helperContent_43 (by decide) ?_
      refine s_aload_n (pc := 45) 1 dX3_helperContent_45 rfl rfl ?_
      refine s_getH (pc := 46) dX3_helperContent_46 fl_3_12 ?_
      refine s_getR (pc := 49) (ci := 2) (k := 10) (r := ((z_hn μ_2.2.2.2) + 30)) dX3_helperContent_49 fl_3_125 (z_hn_k μ_2.2.2.2) rfl (gr_2_0_10 (z_hn_k μ_2.2.2.2)) ?_
      refine s_iload_n (pc := 52) 0 dX3_helperContent_52 rfl rfl ?_
      refine s_callVI (pc := 53) (as := [.int (11 : Int32), .int (0 : Int32), .int (9 : Int32), .ref ((z_hn μ_2.2.2.2) + 30), .int x1]) (st := []) dX3_helperContent_53 lk_3_109 kd_95 (t_X3_measure N (11 : Int32) (0 : Int32) (9 : Int32) ((z_hn μ_2.2.2.2) + 30) x1 μ_2) (by omega) rfl (by decide) rfl (fun x4 μ_3 => ?_)
      refine s_if_eq (pc := 56) (tgt := 83) dX3_helperContent_56 (by decide) ?_ ?_
      · refine s_iconst (pc := 83) (v := (0 : Int32)) dX3_helperContent_83 (by decide) ?_
        exact s_zret0 (pc := 84) dX3_helperContent_84 rfl rfl
      · refine s_aload_n (pc := 59) 1 dX3_helperContent_59 rfl rfl ?_
        refine s_bipush (pc := 60) (v := (12 : Int32)) dX3_helperContent_60 (by decide) ?_
        refine s_iconst (pc := 62) (v := (0 : Int32)) dX3_helperContent_62 (by decide) ?_
        refine s_bipush (pc := 63) (v := (10 : Int32)) dX3_helperContent_63 (by decide) ?_
        refine s_aload_n (pc := 65) 1 dX3_helperContent_65 rfl rfl ?_
        refine s_getH (pc := 66) dX3_helperContent_66 fl_3_12 ?_
        refine s_getR (pc := 69) (ci := 2) (k := 11) (r := ((z_hn μ_3.2.2.2) + 31)) dX3_helperContent_69 fl_3_128 (z_hn_k μ_3.2.2.2) rfl (gr_2_0_11 (z_hn_k μ_3.2.2.2)) ?_
        refine s_iload_n (pc := 72) 0 dX3_helperContent_72 rfl rfl ?_
        refine s_callVI (pc := 73) (as := [.int (12 : Int32), .int (0 : Int32), .int (10 : Int32), .ref ((z_hn μ_3.2.2.2) + 31), .int x1]) (st := []) dX3_helperContent_73 lk_3_109 kd_95 (t_X3_measure N (12 : Int32) (0 : Int32) (10 : Int32) ((z_hn μ_3.2.2.2) + 31) x1 μ_3) (by omega) rfl (by decide) rfl (fun x5 μ_4 => ?_)
        refine s_if_eq (pc := 76) (tgt := 83) dX3_helperContent_76 (by decide) ?_ ?_
        · refine s_iconst (pc := 83) (v := (0 : Int32)) dX3_helperContent_83 (by decide) ?_
          exact s_zret0 (pc := 84) dX3_helperContent_84 rfl rfl
        · refine s_iconst (pc := 79) (v := (1 : Int32)) dX3_helperContent_79 (by decide) ?_
          refine s_goto (pc := 80) (tgt := 84) dX3_helperContent_80 (by decide) ?_
          exact s_zret0 (pc := 84) dX3_helperContent_84 rfl rfl
def f_X3_knownHere (N : Nat) (a1 : Int32) (μ : z_S) : Option (Int32 × z_S) :=
  z_bn (f_X10_nameHere N μ) fun x1 μ_1 => if x1 = (-1 : Int32) then (some ((-1 : Int32), μ_1)) else z_bn (f_X2_find N (z_hn μ_1.2.2.2) a1 x1 μ_1) fun x2 μ_2 => if x2 = (-1 : Int32) then (z_bn (f_X10_fail N (3 : Int32) μ_2) fun x3 μ_3 => some (x2, μ_3)) else some (x2, μ_2)
theorem t_X3_knownHere (N : Nat) (a1 : Int32) (μ : z_S) : z_met true rI mX3_knownHere 2 [.ref 95, .int a1] μ (f_X3_knownHere N a1 μ) := by
  refine z_met.of (by decide +kernel) (by show _ ≤ _; first | decide | exact Nat.le_of_ble_eq_true rfl) (lv := [(0, .ref 95), (1, .int a1)]) rfl ?_
  unfold f_X3_knownHere
  refine s_aload_n (pc := 0) 0 dX3_knownHere_0 rfl rfl ?_
  refine s_getR (pc := 1) (ci := 3) (k := 0) (r := 1) dX3_knownHere_1 fl_3_18 kd_95 rfl rs_95_0 ?_
  refine s_callVI (pc := 4) (as := []) (st := []) dX3_knownHere_4 lk_3_151 kd_1 (t_X10_nameHere N μ) (by omega) rfl (by decide) rfl (fun x1 μ_1 => ?_)
  refine s_istore_n (pc := 7) (lv' := [(2, .int x1), (0, .ref 95), (1, .int a1)]) dX3_knownHere_7 rfl (by decide) rfl ?_
  refine s_iload_n (pc := 8) 0 dX3_knownHere_8 rfl rfl ?_
  refine s_iconst (pc := 9) (v := (-1 : Int32)) dX3_knownHere_9 (by decide) ?_
  refine s_icmp_ne (pc := 10) (tgt := 15) dX3_knownHere_10 (by decide) ?_ ?_
  · refine s_iconst (pc := 13) (v := (-1 : Int32)) dX3_knownHere_13 (by decide) ?_
    exact s_iret (pc := 14) rfl dX3_knownHere_14 rfl
  · refine s_aload_n (pc := 15) 1 dX3_knownHere_15 rfl rfl ?_
    refine s_getH (pc := 16) dX3_knownHere_16 fl_3_12 ?_
    refine s_iload_n (pc := 19) 2 dX3_knownHere_19 rfl rfl ?_
    refine s_iload_n (pc := 20) 0 dX3_knownHere_20 rfl rfl ?_
    refine s_callVI (pc := 21) (as := [.int a1, .int x1]) (st := []) dX3_knownHere_21 lk_3_155 (z_hn_k μ_1.2.2.2) (t_X2_find N (z_hn μ_1.2.2.2) a1 x1 μ_1) (by omega) rfl (by decide) rfl (fun x2 μ_2 => ?_)
    refine s_istore_n (pc := 24) (lv' := [(3, .int x2), (2, .int x1), (0, .ref 95), (1, .int a1)]) dX3_knownHere_24 rfl (by decide) rfl ?_
    refine s_iload_n (pc := 25) 0 dX3_knownHere_25 rfl rfl ?_
    refine s_iconst (pc := 26) (v := (-1 : Int32)) dX3_knownHere_26 (by decide) ?_
    refine s_icmp_ne (pc := 27) (tgt := 39) dX3_knownHere_27 (by decide) ?_ ?_
    · refine s_aload_n (pc := 30) 2 dX3_knownHere_30 rfl rfl ?_
      refine s_getR (pc := 31) (ci := 3) (k := 0) (r := 1) dX3_knownHere_31 fl_3_18 kd_95 rfl rs_95_0 ?_
      refine s_iconst (pc := 34) (v := (3 : Int32)) dX3_knownHere_34 (by decide) ?_
      refine s_callVI (pc := 35) (as := [.int (3 : Int32)]) (st := []) dX3_knownHere_35 lk_3_49 kd_1 (t_X10_fail N (3 : Int32) μ_2) (by omega) rfl (by decide) rfl (fun x3 μ_3 => ?_)
      refine s_pop (pc := 38) dX3_knownHere_38 rfl ?_
      refine s_iload_n (pc := 39) 0 dX3_knownHere_39 rfl rfl ?_
      exact s_iret (pc := 40) rfl dX3_knownHere_40 rfl
    · refine s_iload_n (pc := 39) 0 dX3_knownHere_39 rfl rfl ?_
      exact s_iret (pc := 40) rfl dX3_knownHere_40 rfl
def f_X3_takeName (N : Nat) (a1 : Int32) (μ : z_S) : Option (Int32 × z_S) :=
  z_bn (f_X3_knownHere N a1 μ) fun x1 μ_1 => if x1 = (-1 : Int32) then (some (x1, μ_1)) else z_bn (f_X10_next N μ_1) fun _ μ_2 => some (x1, μ_2)
theorem t_X3_takeName (N : Nat) (a1 : Int32) (μ : z_S) : z_met true rI mX3_takeName 3 [.ref 95, .int a1] μ (f_X3_takeName N a1 μ) := by
  refine z_met.of (by decide +kernel) (by show _ ≤ _; first | decide | exact Nat.le_of_ble_eq_true rfl) (lv := [(0, .ref 95), (1, .int a1)]) rfl ?_
  unfold f_X3_takeName
  refine s_aload_n (pc := 0) 0 dX3_takeName_0 rfl rfl ?_
  refine s_iload_n (pc := 1) 1 dX3_takeName_1 rfl rfl ?_
  refine s_callVI (pc := 2) (as := [.int a1]) (st := []) dX3_takeName_2 lk_3_134 kd_95 (t_X3_knownHere N a1 μ) (by omega) rfl (by decide) rfl (fun x1 μ_1 => ?_)
  refine s_istore_n (pc := 5) (lv' := [(2, .int x1), (0, .ref 95), (1, .int a1)]) dX3_takeName_5 rfl (by decide) rfl ?_
  refine s_iload_n (pc := 6) 0 dX3_takeName_6 rfl rfl ?_
  refine s_iconst (pc := 7) (v := (-1 : Int32)) dX3_takeName_7 (by decide) ?_
  refine s_icmp_eq (pc := 8) (tgt := 18) dX3_takeName_8 (by decide) ?_ ?_
  · refine s_iload_n (pc := 18) 0 dX3_takeName_18 rfl rfl ?_
    exact s_iret (pc := 19) rfl dX3_takeName_19 rfl
  · refine s_aload_n (pc := 11) 1 dX3_takeName_11 rfl rfl ?_
    refine s_getR (pc := 12) (ci := 3) (k := 0) (r := 1) dX3_takeName_12 fl_3_18 kd_95 rfl rs_95_0 ?_
    refine s_callVV (pc := 15) (as := []) (st := []) dX3_takeName_15 lk_3_66 kd_1 (t_X10_next N μ_1) (by omega) rfl (by decide) rfl (fun _ μ_2 => ?_)
    refine s_iload_n (pc := 18) 0 dX3_takeName_18 rfl rfl ?_
    exact s_iret (pc := 19) rfl dX3_takeName_19 rfl
def f_X3_nearContent_B45 (N : Nat)   (μ : z_S) : Option (Int32 × z_S) :=
  z_bn (f_X10_fail N (3 : Int32) μ) fun x2 μ_2 => z_zb x2 (some (x2, μ_2))
theorem t_X3_nearContent_B45 (N : Nat)       (μ : z_S) : z_sim true rI mX3_nearContent 4 (f_X3_nearContent_B45 N    μ) 45 [(0, .ref 95)] [] μ := by
  unfold f_X3_nearContent_B45
  refine s_aload_n (pc := 45) 0 dX3_nearContent_45 rfl rfl ?_
  refine s_getR (pc := 46) (ci := 3) (k := 0) (r := 1) dX3_nearContent_46 fl_3_18 kd_95 rfl rs_95_0 ?_
  refine s_iconst (pc := 49) (v := (3 : Int32)) dX3_nearContent_49 (by decide) ?_
  refine s_callVI (pc := 50) (as := [.int (3 : Int32)]) (st := []) dX3_nearContent_50 lk_3_49 kd_1 (t_X10_fail N (3 : Int32) μ) (by omega) rfl (by decide) rfl (fun x2 μ_2 => ?_)
  exact s_zret (pc := 53) dX3_nearContent_53 rfl
def f_X3_nearContent_B20 (N : Nat)  (v1 : Int32) (s0 : Int32) (μ : z_S) : Option (Int32 × z_S) :=
  if s0 = (-1 : Int32) then (some ((0 : Int32), μ)) else if v1 = s0 then (f_X3_nearContent_B45 N μ) else z_bn (f_X2_isNear N (z_hn μ.2.2.2) v1 s0 μ) fun x3 μ_3 => if x3 = 0 then (z_bn (f_X10_next N μ_3) fun _ μ_4 => z_in v1 8 <| z_in v1 8 <| z_bd (z_setI μ_4 ((z_hn μ_4.2.2.2) + 9) v1.toNatClampNeg ((μ_4.1 ((z_hn μ_4.2.2.2) + 9) v1.toNatClampNeg) ||| ((1 : Int32) <<< (s0 &&& 31)))) fun μ_5 => z_in s0 8 <| z_in s0 8 <| z_bd (z_setI μ_5 ((z_hn μ_5.2.2.2) + 9) s0.toNatClampNeg ((μ_5.1 ((z_hn μ_5.2.2.2) + 9) s0.toNatClampNeg) ||| ((1 : Int32) <<< (v1 &&& 31)))) fun μ_6 => some ((1 : Int32), μ_6)) else f_X3_nearContent_B45 N μ_3
theorem t_X3_nearContent_B20 (N : Nat)     (v1 : Int32) (s0 : Int32)  (μ : z_S) : z_sim true rI mX3_nearContent 4 (f_X3_nearContent_B20 N   v1 s0 μ) 20 [(0, .ref 95), (1, .int v1)] [.int s0] μ := by
  unfold f_X3_nearContent_B20
  refine s_istore_n (pc := 20) (lv' := [(2, .int s0), (0, .ref 95), (1, .int v1)]) dX3_nearContent_20 rfl (by decide) rfl ?_
  refine s_iload_n (pc := 21) 0 dX3_nearContent_21 rfl rfl ?_
  refine s_iconst (pc := 22) (v := (-1 : Int32)) dX3_nearContent_22 (by decide) ?_
  refine s_icmp_ne (pc := 23) (tgt := 28) dX3_nearContent_23 (by decide) ?_ ?_
  · refine s_iconst (pc := 26) (v := (0 : Int32)) dX3_nearContent_26 (by decide) ?_
    exact s_zret0 (pc := 27) dX3_nearContent_27 rfl rfl
  · refine s_iload_n (pc := 28) 2 dX3_nearContent_28 rfl rfl ?_
    refine s_iload_n (pc := 29) 0 dX3_nearContent_29 rfl rfl ?_
    refine s_icmp_eq (pc := 30) (tgt := 45) dX3_nearContent_30 (by decide) ?_ ?_
    · refine s_sub (lv' := [(0, .ref 95)]) [1] rfl ?_
      exact t_X3_nearContent_B45 N μ
    · refine s_aload_n (pc := 33) 1 dX3_nearContent_33 rfl rfl ?_
      refine s_getH (pc := 34) dX3_nearContent_34 fl_3_12 ?_
      refine s_iload_n (pc := 37) 2 dX3_nearContent_37 rfl rfl ?_
      refine s_iload_n (pc := 38) 0 dX3_nearContent_38 rfl rfl ?_
      refine s_callVI (pc := 39) (as := [.int v1, .int s0]) (st := []) dX3_nearContent_39 lk_3_137 (z_hn_k μ.2.2.2) (t_X2_isNear N (z_hn μ.2.2.2) v1 s0 μ) (by omega) rfl (by decide) rfl (fun x3 μ_3 => ?_)
      refine s_if_eq (pc := 42) (tgt := 54) dX3_nearContent_42 (by decide) ?_ ?_
      · refine s_aload_n (pc := 54) 1 dX3_nearContent_54 rfl rfl ?_
        refine s_getR (pc := 55) (ci := 3) (k := 0) (r := 1) dX3_nearContent_55 fl_3_18 kd_95 rfl rs_95_0 ?_
        refine s_callVV (pc := 58) (as := []) (st := []) dX3_nearContent_58 lk_3_66 kd_1 (t_X10_next N μ_3) (by omega) rfl (by decide) rfl (fun _ μ_4 => ?_)
        refine s_aload_n (pc := 61) 1 dX3_nearContent_61 rfl rfl ?_
        refine s_getH (pc := 62) dX3_nearContent_62 fl_3_12 ?_
        refine s_getR (pc := 65) (ci := 2) (k := 5) (r := ((z_hn μ_4.2.2.2) + 9)) dX3_nearContent_65 fl_3_141 (z_hn_k μ_4.2.2.2) rfl (gr_2_0_5 (z_hn_k μ_4.2.2.2)) ?_
        refine s_iload_n (pc := 68) 2 dX3_nearContent_68 rfl rfl ?_
        refine s_dup2 (pc := 69) dX3_nearContent_69 rfl rfl ?_
        refine s_iald (pc := 70) dX3_nearContent_70 (gk_2_9 (z_hn_k μ_4.2.2.2)) ?_
        refine s_iconst (pc := 71) (v := (1 : Int32)) dX3_nearContent_71 (by decide) ?_
        refine s_iload_n (pc := 72) 0 dX3_nearContent_72 rfl rfl ?_
        refine s_ishl (pc := 73) dX3_nearContent_73 ?_
        refine s_ior (pc := 74) dX3_nearContent_74 ?_
        refine s_iast (pc := 75) dX3_nearContent_75 (gk_2_9 (z_hn_k μ_4.2.2.2)) (fun μ_5 => ?_)
        refine s_aload_n (pc := 76) 1 dX3_nearContent_76 rfl rfl ?_
        refine s_getH (pc := 77) dX3_nearContent_77 fl_3_12 ?_
        refine s_getR (pc := 80) (ci := 2) (k := 5) (r := ((z_hn μ_5.2.2.2) + 9)) dX3_nearContent_80 fl_3_141 (z_hn_k μ_5.2.2.2) rfl (gr_2_0_5 (z_hn_k μ_5.2.2.2)) ?_
        refine s_iload_n (pc := 83) 0 dX3_nearContent_83 rfl rfl ?_
        refine s_dup2 (pc := 84) dX3_nearContent_84 rfl rfl ?_
        refine s_iald (pc := 85) dX3_nearContent_85 (gk_2_9 (z_hn_k μ_5.2.2.2)) ?_
        refine s_iconst (pc := 86) (v := (1 : Int32)) dX3_nearContent_86 (by decide) ?_
        refine s_iload_n (pc := 87) 2 dX3_nearContent_87 rfl rfl ?_
        refine s_ishl (pc := 88) dX3_nearContent_88 ?_
        refine s_ior (pc := 89) dX3_nearContent_89 ?_
        refine s_iast (pc := 90) dX3_nearContent_90 (gk_2_9 (z_hn_k μ_5.2.2.2)) (fun μ_6 => ?_)
        refine s_iconst (pc := 91) (v := (1 : Int32)) dX3_nearContent_91 (by decide) ?_
        exact s_zret0 (pc := 92) dX3_nearContent_92 rfl rfl
      · refine s_sub (lv' := [(0, .ref 95)]) [1] rfl ?_
        exact t_X3_nearContent_B45 N μ_3
def f_X3_nearContent (N : Nat) (μ : z_S) : Option (Int32 × z_S) :=
  z_bn (f_X3_takeName N (0 : Int32) μ) fun x1 μ_1 => if x1 = (-1 : Int32) then (f_X3_nearContent_B20 N x1 (-1 : Int32) μ_1) else z_bn (f_X3_knownHere N (0 : Int32) μ_1) fun x4 μ_7 => f_X3_nearContent_B20 N x1 x4 μ_7
theorem t_X3_nearContent (N : Nat) (μ : z_S) : z_met true rI mX3_nearContent 4 [.ref 95] μ (f_X3_nearContent N μ) := by
  refine z_met.of (by decide +kernel) (by show _ ≤ _; first | decide | exact Nat.le_of_ble_eq_true rfl) (lv := [(0, .ref 95)]) rfl ?_
  unfold f_X3_nearContent
  refine s_aload_n (pc := 0) 0 dX3_nearContent_0 rfl rfl ?_
  refine s_iconst (pc := 1) (v := (0 : Int32)) dX3_nearContent_1 (by decide) ?_
  refine s_callVI (pc := 2) (as := [.int (0 : Int32)]) (st := []) dX3_nearContent_2 lk_3_131 kd_95 (t_X3_takeName N (0 : Int32) μ) (by omega) rfl (by decide) rfl (fun x1 μ_1 => ?_)
  refine s_istore_n (pc := 5) (lv' := [(1, .int x1), (0, .ref 95)]) dX3_nearContent_5 rfl (by decide) rfl ?_
  refine s_iload_n (pc := 6) 0 dX3_nearContent_6 rfl rfl ?_
  refine s_iconst (pc := 7) (v := (-1 : Int32)) dX3_nearContent_7 (by decide) ?_
  refine s_icmp_ne (pc := 8) (tgt := 15) dX3_nearContent_8 (by decide) ?_ ?_
  · refine s_iconst (pc := 11) (v := (-1 : Int32)) dX3_nearContent_11 (by decide) ?_
    refine s_goto (pc := 12) (tgt := 20) dX3_nearContent_12 (by decide) ?_
    refine s_sub (lv' := [(0, .ref 95), (1, .int x1)]) [1, 0] rfl ?_
    exact t_X3_nearContent_B20 N x1 (-1 : Int32) μ_1
  · refine s_aload_n (pc := 15) 1 dX3_nearContent_15 rfl rfl ?_
    refine s_iconst (pc := 16) (v := (0 : Int32)) dX3_nearContent_16 (by decide) ?_
    refine s_callVI (pc := 17) (as := [.int (0 : Int32)]) (st := []) dX3_nearContent_17 lk_3_134 kd_95 (t_X3_knownHere N (0 : Int32) μ_1) (by omega) rfl (by decide) rfl (fun x4 μ_7 => ?_)
    refine s_sub (lv' := [(0, .ref 95), (1, .int x1)]) [1, 0] rfl ?_
    exact t_X3_nearContent_B20 N x1 x4 μ_7
def f_X3_likeContent_B48 (N : Nat)   (μ : z_S) : Option (Int32 × z_S) :=
  z_bn (f_X10_fail N (3 : Int32) μ) fun x2 μ_2 => z_zb x2 (some (x2, μ_2))
theorem t_X3_likeContent_B48 (N : Nat)       (μ : z_S) : z_sim true rI mX3_likeContent 4 (f_X3_likeContent_B48 N    μ) 48 [(0, .ref 95)] [] μ := by
  unfold f_X3_likeContent_B48
  refine s_aload_n (pc := 48) 0 dX3_likeContent_48 rfl rfl ?_
  refine s_getR (pc := 49) (ci := 3) (k := 0) (r := 1) dX3_likeContent_49 fl_3_18 kd_95 rfl rs_95_0 ?_
  refine s_iconst (pc := 52) (v := (3 : Int32)) dX3_likeContent_52 (by decide) ?_
  refine s_callVI (pc := 53) (as := [.int (3 : Int32)]) (st := []) dX3_likeContent_53 lk_3_49 kd_1 (t_X10_fail N (3 : Int32) μ) (by omega) rfl (by decide) rfl (fun x2 μ_2 => ?_)
  exact s_zret (pc := 56) dX3_likeContent_56 rfl
def f_X3_likeContent_B20 (N : Nat)  (v1 : Int32) (s0 : Int32) (μ : z_S) : Option (Int32 × z_S) :=
  if s0 = (-1 : Int32) then (some ((0 : Int32), μ)) else if v1 = s0 then (f_X3_likeContent_B48 N μ) else z_in v1 8 <| z_in s0 8 <| if (μ.1 ((z_hn μ.2.2.2) + 20 + v1.toNatClampNeg) s0.toNatClampNeg) = (-1 : Int32) then (z_bn (f_X10_next N μ) fun _ μ_3 => z_bn (f_X10_takeNumber N (0 : Int32) (10 : Int32) μ_3) fun x3 μ_4 => z_in v1 8 <| z_in s0 8 <| z_bd (z_setI μ_4 ((z_hn μ_4.2.2.2) + 20 + v1.toNatClampNeg) s0.toNatClampNeg x3) fun μ_5 => z_in s0 8 <| z_in v1 8 <| z_bd (z_setI μ_5 ((z_hn μ_5.2.2.2) + 20 + s0.toNatClampNeg) v1.toNatClampNeg x3) fun μ_6 => if x3 = (-1 : Int32) then (some ((0 : Int32), μ_6)) else some ((1 : Int32), μ_6)) else f_X3_likeContent_B48 N μ
theorem t_X3_likeContent_B20 (N : Nat)     (v1 : Int32) (s0 : Int32)  (μ : z_S) : z_sim true rI mX3_likeContent 4 (f_X3_likeContent_B20 N   v1 s0 μ) 20 [(0, .ref 95), (1, .int v1)] [.int s0] μ := by
  unfold f_X3_likeContent_B20
  refine s_istore_n (pc := 20) (lv' := [(2, .int s0), (0, .ref 95), (1, .int v1)]) dX3_likeContent_20 rfl (by decide) rfl ?_
  refine s_iload_n (pc := 21) 0 dX3_likeContent_21 rfl rfl ?_
  refine s_iconst (pc := 22) (v := (-1 : Int32)) dX3_likeContent_22 (by decide) ?_
  refine s_icmp_ne (pc := 23) (tgt := 28) dX3_likeContent_23 (by decide) ?_ ?_
  · refine s_iconst (pc := 26) (v := (0 : Int32)) dX3_likeContent_26 (by decide) ?_
    exact s_zret0 (pc := 27) dX3_likeContent_27 rfl rfl
  · refine s_iload_n (pc := 28) 2 dX3_likeContent_28 rfl rfl ?_
    refine s_iload_n (pc := 29) 0 dX3_likeContent_29 rfl rfl ?_
    refine s_icmp_eq (pc := 30) (tgt := 48) dX3_likeContent_30 (by decide) ?_ ?_
    · refine s_sub (lv' := [(0, .ref 95)]) [1] rfl ?_
      exact t_X3_likeContent_B48 N μ
    · refine s_aload_n (pc := 33) 1 dX3_likeContent_33 rfl rfl ?_
      refine s_getH (pc := 34) dX3_likeContent_34 fl_3_12 ?_
      refine s_getR (pc := 37) (ci := 2) (k := 7) (r := ((z_hn μ.2.2.2) + 19)) dX3_likeContent_37 fl_3_144 (z_hn_k μ.2.2.2) rfl (gr_2_0_7 (z_hn_k μ.2.2.2)) ?_
      refine s_iload_n (pc := 40) 2 dX3_likeContent_40 rfl rfl ?_
      refine s_aald (pc := 41) (r := ((z_hn μ.2.2.2) + 20 + v1.toNatClampNeg)) dX3_likeContent_41 (gk_2_19 (z_hn_k μ.2.2.2)) (by decide) (by decide) (fun hi => ga_2_19 (z_hn_k μ.2.2.2) hi) (fun hi1 => ?_)
      refine s_iload_n (pc := 42) 0 dX3_likeContent_42 rfl rfl ?_
      refine s_iald (pc := 43) dX3_likeContent_43 (gb_2_19 (z_hn_k μ.2.2.2) hi1) ?_
      refine s_iconst (pc := 44) (v := (-1 : Int32)) dX3_likeContent_44 (by decide) ?_
      refine s_icmp_eq (pc := 45) (tgt := 57) dX3_likeContent_45 (by decide) ?_ ?_
      · refine s_aload_n (pc := 57) 1 dX3_likeContent_57 rfl rfl ?_
        refine s_getR (pc := 58) (ci := 3) (k := 0) (r := 1) dX3_likeContent_58 fl_3_18 kd_95 rfl rs_95_0 ?_
        refine s_callVV (pc := 61) (as := []) (st := []) dX3_likeContent_61 lk_3_66 kd_1 (t_X10_next N μ) (by omega) rfl (by decide) rfl (fun _ μ_3 => ?_)
        refine s_aload_n (pc := 64) 1 dX3_likeContent_64 rfl rfl ?_
        refine s_getR (pc := 65) (ci := 3) (k := 0) (r := 1) dX3_likeContent_65 fl_3_18 kd_95 rfl rs_95_0 ?_
        refine s_iconst (pc := 68) (v := (0 : Int32)) dX3_likeContent_68 (by decide) ?_
        refine s_bipush (pc := 69) (v := (10 : Int32)) dX3_likeContent_69 (by decide) ?_
        refine s_callVI (pc := 71) (as := [.int (0 : Int32), .int (10 : Int32)]) (st := []) dX3_likeContent_71 lk_3_93 kd_1 (t_X10_takeNumber N (0 : Int32) (10 : Int32) μ_3) (by omega) rfl (by decide) rfl (fun x3 μ_4 => ?_)
        refine s_istore_n (pc := 74) (lv' := [(3, .int x3), (2, .int s0), (0, .ref 95), (1, .int v1)]) dX3_likeContent_74 rfl (by decide) rfl ?_
        refine s_aload_n (pc := 75) 2 dX3_likeContent_75 rfl rfl ?_
        refine s_getH (pc := 76) dX3_likeContent_76 fl_3_12 ?_
        refine s_getR (pc := 79) (ci := 2) (k := 7) (r := ((z_hn μ_4.2.2.2) + 19)) dX3_likeContent_79 fl_3_144 (z_hn_k μ_4.2.2.2) rfl (gr_2_0_7 (z_hn_k μ_4.2.2.2)) ?_
        refine s_iload_n (pc := 82) 3 dX3_likeContent_82 rfl rfl ?_
        refine s_aald (pc := 83) (r := ((z_hn μ_4.2.2.2) + 20 + v1.toNatClampNeg)) dX3_likeContent_83 (gk_2_19 (z_hn_k μ_4.2.2.2)) (by decide) (by decide) (fun hi => ga_2_19 (z_hn_k μ_4.2.2.2) hi) (fun hi2 => ?_)
        refine s_iload_n (pc := 84) 1 dX3_likeContent_84 rfl rfl ?_
        refine s_iload_n (pc := 85) 0 dX3_likeContent_85 rfl rfl ?_
        refine s_iast (pc := 86) dX3_likeContent_86 (gb_2_19 (z_hn_k μ_4.2.2.2) hi2) (fun μ_5 => ?_)
        refine s_aload_n (pc := 87) 2 dX3_likeContent_87 rfl rfl ?_
        refine s_getH (pc := 88) dX3_likeContent_88 fl_3_12 ?_
        refine s_getR (pc := 91) (ci := 2) (k := 7) (r := ((z_hn μ_5.2.2.2) + 19)) dX3_likeContent_91 fl_3_144 (z_hn_k μ_5.2.2.2) rfl (gr_2_0_7 (z_hn_k μ_5.2.2.2)) ?_
        refine s_iload_n (pc := 94) 1 dX3_likeContent_94 rfl rfl ?_
        refine s_aald (pc := 95) (r := ((z_hn μ_5.2.2.2) + 20 + s0.toNatClampNeg)) dX3_likeContent_95 (gk_2_19 (z_hn_k μ_5.2.2.2)) (by decide) (by decide) (fun hi => ga_2_19 (z_hn_k μ_5.2.2.2) hi) (fun hi3 => ?_)
        refine s_iload_n (pc := 96) 3 dX3_likeContent_96 rfl rfl ?_
        refine s_iload_n (pc := 97) 0 dX3_likeContent_97 rfl rfl ?_
        refine s_iast (pc := 98) dX3_likeContent_98 (gb_2_19 (z_hn_k μ_5.2.2.2) hi3) (fun μ_6 => ?_)
        refine s_iload_n (pc := 99) 0 dX3_likeContent_99 rfl rfl ?_
        refine s_iconst (pc := 100) (v := (-1 : Int32)) dX3_likeContent_100 (by decide) ?_
        refine s_icmp_eq (pc := 101) (tgt := 108) dX3_likeContent_101 (by decide) ?_ ?_
        · refine s_iconst (pc := 108) (v := (0 : Int32)) dX3_likeContent_108 (by decide) ?_
          exact s_zret0 (pc := 109) dX3_likeContent_109 rfl rfl
        · refine s_iconst (pc := 104) (v := (1 : Int32)) dX3_likeContent_104 (by decide) ?_
          refine s_goto (pc := 105) (tgt := 109) dX3_likeContent_105 (by decide) ?_
          exact s_zret0 (pc := 109) dX3_likeContent_109 rfl rfl
      · refine s_sub (lv' := [(0, .ref 95)]) [1] rfl ?_
        exact t_X3_likeContent_B48 N μ
def f_X3_likeContent (N : Nat) (μ : z_S) : Option (Int32 × z_S) :=
  z_bn (f_X3_takeName N (0 : Int32) μ) fun x1 μ_1 => if x1 = (-1 : Int32) then (f_X3_likeContent_B20 N x1 (-1 : Int32) μ_1) else z_bn (f_X3_knownHere N (0 : Int32) μ_1) fun x4 μ_7 => f_X3_likeContent_B20 N x1 x4 μ_7
theorem t_X3_likeContent (N : Nat) (μ : z_S) : z_met true rI mX3_likeContent 4 [.ref 95] μ (f_X3_likeContent N μ) := by
  refine z_met.of (by decide +kernel) (by show _ ≤ _; first | decide | exact Nat.le_of_ble_eq_true rfl) (lv := [(0, .ref 95)]) rfl ?_
  unfold f_X3_likeContent
  refine s_aload_n (pc := 0) 0 dX3_likeContent_0 rfl rfl ?_
  refine s_iconst (pc := 1) (v := (0 : Int32)) dX3_likeContent_1 (by decide) ?_
  refine s_callVI (pc := 2) (as := [.int (0 : Int32)]) (st := []) dX3_likeContent_2 lk_3_131 kd_95 (t_X3_takeName N (0 : Int32) μ) (by omega) rfl (by decide) rfl (fun x1 μ_1 => ?_)
  refine s_istore_n (pc := 5) (lv' := [(1, .int x1), (0, .ref 95)]) dX3_likeContent_5 rfl (by decide) rfl ?_
  refine s_iload_n (pc := 6) 0 dX3_likeContent_6 rfl rfl ?_
  refine s_iconst (pc := 7) (v := (-1 : Int32)) dX3_likeContent_7 (by decide) ?_
  refine s_icmp_ne (pc := 8) (tgt := 15) dX3_likeContent_8 (by decide) ?_ ?_
  · refine s_iconst (pc := 11) (v := (-1 : Int32)) dX3_likeContent_11 (by decide) ?_
    refine s_goto (pc := 12) (tgt := 20) dX3_likeContent_12 (by decide) ?_
    refine s_sub (lv' := [(0, .ref 95), (1, .int x1)]) [1, 0] rfl ?_
    exact t_X3_likeContent_B20 N x1 (-1 : Int32) μ_1
  · refine s_aload_n (pc := 15) 1 dX3_likeContent_15 rfl rfl ?_
    refine s_iconst (pc := 16) (v := (0 : Int32)) dX3_likeContent_16 (by decide) ?_
    refine s_callVI (pc := 17) (as := [.int (0 : Int32)]) (st := []) dX3_likeContent_17 lk_3_134 kd_95 (t_X3_knownHere N (0 : Int32) μ_1) (by omega) rfl (by decide) rfl (fun x4 μ_7 => ?_)
    refine s_sub (lv' := [(0, .ref 95), (1, .int x1)]) [1, 0] rfl ?_
    exact t_X3_likeContent_B20 N x1 x4 μ_7
def f_X3_wishContent_B40 (N : Nat)  (v1 : Int32) (v2 : Int32) (s0 : Int32) (μ : z_S) : Option (Int32 × z_S) :=
  if s0 = (-1 : Int32) then (some ((0 : Int32), μ)) else z_in v1 8 <| z_in v2 4 <| z_bd (z_setI μ ((z_hn μ.2.2.2) + 11 + v1.toNatClampNeg) v2.toNatClampNeg s0) fun μ_2 => some ((1 : Int32), μ_2)
theorem t_X3_wishContent_B40 (N : Nat)     (v1 : Int32) (v2 : Int32) (s0 : Int32)  (μ : z_S) : z_sim true rI mX3_wishContent 4 (f_X3_wishContent_B40 N   v1 v2 s0 μ) 40 [(0, .ref 95), (1, .int v1), (2, .int v2)] [.int s0] μ := by
  unfold f_X3_wishContent_B40
  refine s_istore_n (pc := 40) (lv' := [(3, .int s0), (0, .ref 95), (1, .int v1), (2, .int v2)]) dX3_wishContent_40 rfl (by decide) rfl ?_
  refine s_iload_n (pc := 41) 0 dX3_wishContent_41 rfl rfl ?_
  refine s_iconst (pc := 42) (v := (-1 : Int32)) dX3_wishContent_42 (by decide) ?_
  refine s_icmp_ne (pc := 43) (tgt := 48) dX3_wishContent_43 (by decide) ?_ ?_
  · refine s_iconst (pc := 46) (v := (0 : Int32)) dX3_wishContent_46 (by decide) ?_
    exact s_zret0 (pc := 47) dX3_wishContent_47 rfl rfl
  · refine s_aload_n (pc := 48) 1 dX3_wishContent_48 rfl rfl ?_
    refine s_getH (pc := 49) dX3_wishContent_49 fl_3_12 ?_
    refine s_getR (pc := 52) (ci := 2) (k := 6) (r := ((z_hn μ.2.2.2) + 10)) dX3_wishContent_52 fl_3_148 (z_hn_k μ.2.2.2) rfl (gr_2_0_6 (z_hn_k μ.2.2.2)) ?_
    refine s_iload_n (pc := 55) 2 dX3_wishContent_55 rfl rfl ?_
    refine s_aald (pc := 56) (r := ((z_hn μ.2.2.2) + 11 + v1.toNatClampNeg)) dX3_wishContent_56 (gk_2_10 (z_hn_k μ.2.2.2)) (by decide) (by decide) (fun hi => ga_2_10 (z_hn_k μ.2.2.2) hi) (fun hi1 => ?_)
    refine s_iload_n (pc := 57) 3 dX3_wishContent_57 rfl rfl ?_
    refine s_iload_n (pc := 58) 0 dX3_wishContent_58 rfl rfl ?_
    refine s_iast (pc := 59) dX3_wishContent_59 (gb_2_10 (z_hn_k μ.2.2.2) hi1) (fun μ_2 => ?_)
    refine s_iconst (pc := 60) (v := (1 : Int32)) dX3_wishContent_60 (by decide) ?_
    exact s_zret0 (pc := 61) dX3_wishContent_61 rfl rfl
def f_X3_wishContent_B20 (N : Nat)  (v1 : Int32) (s0 : Int32) (μ : z_S) : Option (Int32 × z_S) :=
  if s0 = (-1 : Int32) then (f_X3_wishContent_B40 N v1 s0 (-1 : Int32) μ) else z_bn (f_X10_takeNumber N (1 : Int32) (9 : Int32) μ) fun x2 μ_3 => f_X3_wishContent_B40 N v1 s0 x2 μ_3
theorem t_X3_wishContent_B20 (N : Nat)     (v1 : Int32) (s0 : Int32)  (μ : z_S) : z_sim true rI mX3_wishContent 4 (f_X3_wishContent_B20 N   v1 s0 μ) 20 [(0, .ref 95), (1, .int v1)] [.int s0] μ := by
  unfold f_X3_wishContent_B20
  refine s_istore_n (pc := 20) (lv' := [(2, .int s0), (0, .ref 95), (1, .int v1)]) dX3_wishContent_20 rfl (by decide) rfl ?_
  refine s_iload_n (pc := 21) 0 dX3_wishContent_21 rfl rfl ?_
  refine s_iconst (pc := 22) (v := (-1 : Int32)) dX3_wishContent_22 (by decide) ?_
  refine s_icmp_ne (pc := 23) (tgt := 30) dX3_wishContent_23 (by decide) ?_ ?_
  · refine s_iconst (pc := 26) (v := (-1 : Int32)) dX3_wishContent_26 (by decide) ?_
    refine s_goto (pc := 27) (tgt := 40) dX3_wishContent_27 (by decide) ?_
    refine s_sub (lv' := [(0, .ref 95), (1, .int v1), (2, .int s0)]) [1, 2, 0] rfl ?_
    exact t_X3_wishContent_B40 N v1 s0 (-1 : Int32) μ
  · refine s_aload_n (pc := 30) 1 dX3_wishContent_30 rfl rfl ?_
    refine s_getR (pc := 31) (ci := 3) (k := 0) (r := 1) dX3_wishContent_31 fl_3_18 kd_95 rfl rs_95_0 ?_
    refine s_iconst (pc := 34) (v := (1 : Int32)) dX3_wishContent_34 (by decide) ?_
    refine s_bipush (pc := 35) (v := (9 : Int32)) dX3_wishContent_35 (by decide) ?_
    refine s_callVI (pc := 37) (as := [.int (1 : Int32), .int (9 : Int32)]) (st := []) dX3_wishContent_37 lk_3_93 kd_1 (t_X10_takeNumber N (1 : Int32) (9 : Int32) μ) (by omega) rfl (by decide) rfl (fun x2 μ_3 => ?_)
    refine s_sub (lv' := [(0, .ref 95), (1, .int v1), (2, .int s0)]) [1, 2, 0] rfl ?_
    exact t_X3_wishContent_B40 N v1 s0 x2 μ_3
def f_X3_wishContent (N : Nat) (μ : z_S) : Option (Int32 × z_S) :=
  z_bn (f_X3_takeName N (0 : Int32) μ) fun x1 μ_1 => if x1 = (-1 : Int32) then (f_X3_wishContent_B20 N x1 (-1 : Int32) μ_1) else z_bn (f_X3_takeName N (1 : Int32) μ_1) fun x3 μ_4 => f_X3_wishContent_B20 N x1 x3 μ_4
theorem t_X3_wishContent (N : Nat) (μ : z_S) : z_met true rI mX3_wishContent 4 [.ref 95] μ (f_X3_wishContent N μ) := by
  refine z_met.of (by decide +kernel) (by show _ ≤ _; first | decide | exact Nat.le_of_ble_eq_true rfl) (lv := [(0, .ref 95)]) rfl ?_
  unfold f_X3_wishContent
  refine s_aload_n (pc := 0) 0 dX3_wishContent_0 rfl rfl ?_
  refine s_iconst (pc := 1) (v := (0 : Int32)) dX3_wishContent_1 (by decide) ?_
  refine s_callVI (pc := 2) (as := [.int (0 : Int32)]) (st := []) dX3_wishContent_2 lk_3_131 kd_95 (t_X3_takeName N (0 : Int32) μ) (by omega) rfl (by decide) rfl (fun x1 μ_1 => ?_)
  refine s_istore_n (pc := 5) (lv' := [(1, .int x1), (0, .ref 95)]) dX3_wishContent_5 rfl (by decide) rfl ?_
  refine s_iload_n (pc := 6) 0 dX3_wishContent_6 rfl rfl ?_
  refine s_iconst (pc := 7) (v := (-1 : Int32)) dX3_wishContent_7 (by decide) ?_
  refine s_icmp_ne (pc := 8) (tgt := 15) dX3_wishContent_8 (by decide) ?_ ?_
  · refine s_iconst (pc := 11) (v := (-1 : Int32)) dX3_wishContent_11 (by decide) ?_
    refine s_goto (pc := 12) (tgt := 20) dX3_wishContent_12 (by decide) ?_
    refine s_sub (lv' := [(0, .ref 95), (1, .int x1)]) [1, 0] rfl ?_
    exact t_X3_wishContent_B20 N x1 (-1 : Int32) μ_1
  · refine s_aload_n (pc := 15) 1 dX3_wishContent_15 rfl rfl ?_
    refine s_iconst (pc := 16) (v := (1 : Int32)) dX3_wishContent_16 (by decide) ?_
    refine s_callVI (pc := 17) (as := [.int (1 : Int32)]) (st := []) dX3_wishContent_17 lk_3_131 kd_95 (t_X3_takeName N (1 : Int32) μ_1) (by omega) rfl (by decide) rfl (fun x3 μ_4 => ?_)
    refine s_sub (lv' := [(0, .ref 95), (1, .int x1)]) [1, 0] rfl ?_
    exact t_X3_wishContent_B20 N x1 x3 μ_4
def f_X3_statement_B259 (N : Nat)  (v1 : Int32) (v2 : Int32) (μ : z_S) : Option (Int32 × z_S) :=
  z_in v1 10 <| z_in v1 10 <| z_bd (z_setI μ ((z_hn μ.2.2.2) + 1) v1.toNatClampNeg ((μ.1 ((z_hn μ.2.2.2) + 1) v1.toNatClampNeg) + (1 : Int32))) fun μ_5 => z_zb v2 (some (v2, μ_5))
theorem t_X3_statement_B259 (N : Nat)     (v1 : Int32) (v2 : Int32)  (μ : z_S) : z_sim true rI mX3_statement 50 (f_X3_statement_B259 N   v1 v2 μ) 259 [(0, .ref 95), (1, .int v1), (2, .int v2)] [] μ := by
  unfold f_X3_statement_B259
  refine s_aload_n (pc := 259) 0 dX3_statement_259 rfl rfl ?_
  refine s_getH (pc := 260) dX3_statement_260 fl_3_12 ?_
  refine s_getR (pc := 263) (ci := 2) (k := 0) (r := ((z_hn μ.2.2.2) + 1)) dX3_statement_263 fl_3_59 (z_hn_k μ.2.2.2) rfl (gr_2_0_0 (z_hn_k μ.2.2.2)) ?_
  refine s_iload_n (pc := 266) 1 dX3_statement_266 rfl rfl ?_
  refine s_dup2 (pc := 267) dX3_statement_267 rfl rfl ?_
  refine s_iald (pc := 268) dX3_statement_268 (gk_2_1 (z_hn_k μ.2.2.2)) ?_
  refine s_iconst (pc := 269) (v := (1 : Int32)) dX3_statement_269 (by decide) ?_
  refine s_iadd (pc := 270) dX3_statement_270 ?_
  refine s_iast (pc := 271) dX3_statement_271 (gk_2_1 (z_hn_k μ.2.2.2)) (fun μ_5 => ?_)
  refine s_iload_n (pc := 272) 2 dX3_statement_272 rfl rfl ?_
  exact s_zret (pc := 273) dX3_statement_273 rfl
def f_X3_statement_B221 (N : Nat)  (v1 : Int32) (s0 : Int32) (μ : z_S) : Option (Int32 × z_S) :=
  f_X3_statement_B259 N v1 s0 μ
theorem t_X3_statement_B221 (N : Nat)     (v1 : Int32) (s0 : Int32)  (μ : z_S) : z_sim true rI mX3_statement 50 (f_X3_statement_B221 N   v1 s0 μ) 221 [(0, .ref 95), (1, .int v1)] [.int s0] μ := by
  unfold f_X3_statement_B221
  refine s_istore_n (pc := 221) (lv' := [(2, .int s0), (0, .ref 95), (1, .int v1)]) dX3_statement_221 rfl (by decide) rfl ?_
  refine s_goto (pc := 222) (tgt := 259) dX3_statement_222 (by decide) ?_
  refine s_sub (lv' := [(0, .ref 95), (1, .int v1), (2, .int s0)]) [1, 2, 0] rfl ?_
  exact t_X3_statement_B259 N v1 s0 μ
def f_X3_statement_B258 (N : Nat)  (v1 : Int32) (s0 : Int32) (μ : z_S) : Option (Int32 × z_S) :=
  f_X3_statement_B259 N v1 s0 μ
theorem t_X3_statement_B258 (N : Nat)     (v1 : Int32) (s0 : Int32)  (μ : z_S) : z_sim true rI mX3_statement 50 (f_X3_statement_B258 N   v1 s0 μ) 258 [(0, .ref 95), (1, .int v1)] [.int s0] μ := by
  unfold f_X3_statement_B258
  refine s_istore_n (pc := 258) (lv' := [(2, .int s0), (0, .ref 95), (1, .int v1)]) dX3_statement_258 rfl (by decide) rfl ?_
  refine s_sub (lv' := [(0, .ref 95), (1, .int v1), (2, .int s0)]) [1, 2, 0] rfl ?_
  exact t_X3_statement_B259 N v1 s0 μ
def f_X3_statement (N : Nat) (μ : z_S) : Option (Int32 × z_S) :=
  z_bn (f_X3_kindOf N (μ.1 1 7) μ) fun x1 μ_1 => if x1 = (-1 : Int32) then (z_bn (f_X10_fail N (1 : Int32) μ_1) fun x2 μ_2 => z_zb x2 (some (x2, μ_2))) else z_in x1 10 <| z_in x1 10 <| if (μ_1.1 ((z_hn μ_1.2.2.2) + 1) x1.toNatClampNeg) < (z_km x1.toNatClampNeg) then (z_bn (f_X10_next N μ_1) fun _ μ_3 => if x1 = 0 then (z_bn (f_X3_letterContent N μ_3) fun x3 μ_4 => f_X3_statement_B259 N (0 : Int32) x3 μ_4) else if x1 = 1 then (z_bn (f_X3_giftContent N μ_3) fun x4 μ_6 => f_X3_statement_B259 N (1 : Int32) x4 μ_6) else if x1 = 2 then (z_bn (f_X3_helperContent N μ_3) fun x5 μ_7 => f_X3_statement_B259 N (2 : Int32) x5 μ_7) else if x1 = 3 then (z_bn (f_X3_nearContent N μ_3) fun x6 μ_8 => f_X3_statement_B259 N (3 : Int32) x6 μ_8) else if x1 = 4 then (z_bn (f_X3_likeContent N μ_3) fun x7 μ_9 => f_X3_statement_B259 N (4 : Int32) x7 μ_9) else if x1 = 5 then (z_bn (f_X9_readHeapSum N (z_hn μ_3.2.2.2) (0 : Int32) μ_3) fun x8 μ_10 => f_X3_statement_B259 N (5 : Int32) x8 μ_10) else if x1 = 6 then (z_bn (f_X9_readHeapSum N (z_hn μ_3.2.2.2) (1 : Int32) μ_3) fun x9 μ_11 => f_X3_statement_B259 N (6 : Int32) x9 μ_11) else if x1 = 7 then (z_bn (f_X3_wishContent N μ_3) fun x10 μ_12 => f_X3_statement_B259 N (7 : Int32) x10 μ_12) else if x1 = 8 then (z_bn (f_X10_takeNumber N (0 : Int32) (99 : Int32) μ_3) fun x11 μ_13 => z_bd (z_setI μ_13 (z_hn μ_3.2.2.2) 15 x11) fun μ_14 => if (μ_14.1 (z_hn μ_14.2.2.2) 15) = (-1 : Int32) then (f_X3_statement_B221 N (8 : Int32) (0 : Int32) μ_14) else f_X3_statement_B221 N (8 : Int32) (1 : Int32) μ_14) else z_bn (f_X10_takeNumber N (0 : Int32) (100 : Int32) μ_3) fun x12 μ_15 => z_bd (z_setI μ_15 (z_hn μ_3.2.2.2) 16 x12) fun μ_16 => if (μ_16.1 (z_hn μ_16.2.2.2) 16) = (-1 : Int32) then (f_X3_statement_B258 N x1 (0 : Int32) μ_16) else f_X3_statement_B258 N x1 (1 : Int32) μ_16) else z_bn (f_X10_fail N (5 : Int32) μ_1) fun x13 μ_17 => z_zb x13 (some (x13, μ_17))
theorem t_X3_statement (N : Nat) (μ : z_S) : z_met true rI mX3_statement 50 [.ref 95] μ (f_X3_statement N μ) := by
  refine z_met.of (by decide +kernel) (by show _ ≤ _; first | decide | exact Nat.le_of_ble_eq_true rfl) (lv := [(0, .ref 95)]) rfl ?_
  unfold f_X3_statement
  refine s_aload_n (pc := 0) 0 dX3_statement_0 rfl rfl ?_
  refine s_getR (pc := 1) (ci := 3) (k := 0) (r := 1) dX3_statement_1 fl_3_18 kd_95 rfl rs_95_0 ?_
  refine s_getI (pc := 4) (ci := 10) (k := 7) dX3_statement_4 fl_3_52 kd_1 rfl ?_
  refine s_callSI (pc := 7) (as := [.int (μ.1 1 7)]) (st := []) dX3_statement_7 lk_3_55 (t_X3_kindOf N (μ.1 1 7) μ) (by omega) rfl (by decide) rfl (fun x1 μ_1 => ?_)
  refine s_istore_n (pc := 10) (lv' := [(1, .int x1), (0, .ref 95)]) dX3_statement_10 rfl (by decide) rfl ?_
  refine s_iload_n (pc := 11) 0 dX3_statement_11 rfl rfl ?_
  refine s_iconst (pc := 12) (v := (-1 : Int32)) dX3_statement_12 (by decide) ?_
  refine s_icmp_ne (pc := 13) (tgt := 25) dX3_statement_13 (by decide) ?_ ?_
  · refine s_aload_n (pc := 16) 1 dX3_statement_16 rfl rfl ?_
    refine s_getR (pc := 17) (ci := 3) (k := 0) (r := 1) dX3_statement_17 fl_3_18 kd_95 rfl rs_95_0 ?_
    refine s_iconst (pc := 20) (v := (1 : Int32)) dX3_statement_20 (by decide) ?_
    refine s_callVI (pc := 21) (as := [.int (1 : Int32)]) (st := []) dX3_statement_21 lk_3_49 kd_1 (t_X10_fail N (1 : Int32) μ_1) (by omega) rfl (by decide) rfl (fun x2 μ_2 => ?_)
    exact s_zret (pc := 24) dX3_statement_24 rfl
  · refine s_aload_n (pc := 25) 1 dX3_statement_25 rfl rfl ?_
    refine s_getH (pc := 26) dX3_statement_26 fl_3_12 ?_
    refine s_getR (pc := 29) (ci := 2) (k := 0) (r := ((z_hn μ_1.2.2.2) + 1)) dX3_statement_29 fl_3_59 (z_hn_k μ_1.2.2.2) rfl (gr_2_0_0 (z_hn_k μ_1.2.2.2)) ?_
    refine s_iload_n (pc := 32) 0 dX3_statement_32 rfl rfl ?_
    refine s_iald (pc := 33) dX3_statement_33 (gk_2_1 (z_hn_k μ_1.2.2.2)) ?_
    refine s_kmi (pc := 34) dX3_statement_34 (fun _ _ h => h.2.2.2.2.2.2.1) 1 rfl dX3_statement_37 (k := 0) rfl dX3_statement_38 ?_
    refine s_icmp_lt (pc := 39) (tgt := 51) dX3_statement_39 (by decide) ?_ ?_
    · refine s_aload_n (pc := 51) 1 dX3_statement_51 rfl rfl ?_
      refine s_getR (pc := 52) (ci := 3) (k := 0) (r := 1) dX3_statement_52 fl_3_18 kd_95 rfl rs_95_0 ?_
      refine s_callVV (pc := 55) (as := []) (st := []) dX3_statement_55 lk_3_66 kd_1 (t_X10_next N μ_1) (by omega) rfl (by decide) rfl (fun _ μ_3 => ?_)
      refine s_iload_n (pc := 58) 0 dX3_statement_58 rfl rfl ?_
      refine s_ite (fun hs1 => ?_) (fun hs1 => ?_)
      · subst hs1
        refine s_tswIn (pc := 59) (tgt := 108) dX3_statement_59 (by decide) (by decide) rfl (by decide) ?_
        refine s_aload_n (pc := 108) 1 dX3_statement_108 rfl rfl ?_
        refine s_callVI (pc := 109) (as := []) (st := []) dX3_statement_109 lk_3_69 kd_95 (t_X3_letterContent N μ_3) (by omega) rfl (by decide) rfl (fun x3 μ_4 => ?_)
        refine s_istore_n (pc := 112) (lv' := [(2, .int x3), (1, .int (0 : Int32)), (0, .ref 95)]) dX3_statement_112 rfl (by decide) rfl ?_
        refine s_goto (pc := 113) (tgt := 259) dX3_statement_113 (by decide) ?_
        refine s_sub (lv' := [(0, .ref 95), (1, .int (0 : Int32)), (2, .int x3)]) [2, 1, 0] rfl ?_
        exact t_X3_statement_B259 N (0 : Int32) x3 μ_4
      refine s_ite (fun hs2 => ?_) (fun hs2 => ?_)
      · subst hs2
        refine s_tswIn (pc := 59) (tgt := 116) dX3_statement_59 (by decide) (by decide) rfl (by decide) ?_
        refine s_aload_n (pc := 116) 1 dX3_statement_116 rfl rfl ?_
        refine s_callVI (pc := 117) (as := []) (st := []) dX3_statement_117 lk_3_72 kd_95 (t_X3_giftContent N μ_3) (by omega) rfl (by decide) rfl (fun x4 μ_6 => ?_)
        refine s_istore_n (pc := 120) (lv' := [(2, .int x4), (1, .int (1 : Int32)), (0, .ref 95)]) dX3_statement_120 rfl (by decide) rfl ?_
        refine s_goto (pc := 121) (tgt := 259) dX3_statement_121 (by decide) ?_
        refine s_sub (lv' := [(0, .ref 95), (1, .int (1 : Int32)), (2, .int x4)]) [2, 1, 0] rfl ?_
        exact t_X3_statement_B259 N (1 : Int32) x4 μ_6
      refine s_ite (fun hs3 => ?_) (fun hs3 => ?_)
      · subst hs3
        refine s_tswIn (pc := 59) (tgt := 124) dX3_statement_59 (by decide) (by decide) rfl (by decide) ?_
        refine s_aload_n (pc := 124) 1 dX3_statement_124 rfl rfl ?_
        refine s_callVI (pc := 125) (as := []) (st := []) dX3_statement_125 lk_3_75 kd_95 (t_X3_helperContent N μ_3) (by omega) rfl (by decide) rfl (fun x5 μ_7 => ?_)
        refine s_istore_n (pc := 128) (lv' := [(2, .int x5), (1, .int (2 : Int32)), (0, .ref 95)]) dX3_statement_128 rfl (by decide) rfl ?_
        refine s_goto (pc := 129) (tgt := 259) dX3_statement_129 (by decide) ?_
        refine s_sub (lv' := [(0, .ref 95), (1, .int (2 : Int32)), (2, .int x5)]) [2, 1, 0] rfl ?_
        exact t_X3_statement_B259 N (2 : Int32) x5 μ_7
      refine s_ite (fun hs4 => ?_) (fun hs4 => ?_)
      · subst hs4
        refine s_tswIn (pc := 59) (tgt := 132) dX3_statement_59 (by decide) (by decide) rfl (by decide) ?_
        refine s_aload_n (pc := 132) 1 dX3_statement_132 rfl rfl ?_
        refine s_callVI (pc := 133) (as := []) (st := []) dX3_statement_133 lk_3_78 kd_95 (t_X3_nearContent N μ_3) (by omega) rfl (by decide) rfl (fun x6 μ_8 => ?_)
        refine s_istore_n (pc := 136) (lv' := [(2, .int x6), (1, .int (3 : Int32)), (0, .ref 95)]) dX3_statement_136 rfl (by decide) rfl ?_
        refine s_goto (pc := 137) (tgt := 259) dX3_statement_137 (by decide) ?_
        refine s_sub (lv' := [(0, .ref 95), (1, .int (3 : Int32)), (2, .int x6)]) [2, 1, 0] rfl ?_
        exact t_X3_statement_B259 N (3 : Int32) x6 μ_8
      refine s_ite (fun hs5 => ?_) (fun hs5 => ?_)
      · subst hs5
        refine s_tswIn (pc := 59) (tgt := 140) dX3_statement_59 (by decide) (by decide) rfl (by decide) ?_
        refine s_aload_n (pc := 140) 1 dX3_statement_140 rfl rfl ?_
        refine s_callVI (pc := 141) (as := []) (st := []) dX3_statement_141 lk_3_81 kd_95 (t_X3_likeContent N μ_3) (by omega) rfl (by decide) rfl (fun x7 μ_9 => ?_)
        refine s_istore_n (pc := 144) (lv' := [(2, .int x7), (1, .int (4 : Int32)), (0, .ref 95)]) dX3_statement_144 rfl (by decide) rfl ?_
        refine s_goto (pc := 145) (tgt := 259) dX3_statement_145 (by decide) ?_
        refine s_sub (lv' := [(0, .ref 95), (1, .int (4 : Int32)), (2, .int x7)]) [2, 1, 0] rfl ?_
        exact t_X3_statement_B259 N (4 : Int32) x7 μ_9
      refine s_ite (fun hs6 => ?_) (fun hs6 => ?_)
      · subst hs6
        refine s_tswIn (pc := 59) (tgt := 148) dX3_statement_59 (by decide) (by decide) rfl (by decide) ?_
        refine s_aload_n (pc := 148) 1 dX3_statement_148 rfl rfl ?_
        refine s_getR (pc := 149) (ci := 3) (k := 1) (r := 92) dX3_statement_149 fl_3_22 kd_95 rfl rs_95_1 ?_
        refine s_aload_n (pc := 152) 1 dX3_statement_152 rfl rfl ?_
        refine s_getH (pc := 153) dX3_statement_153 fl_3_12 ?_
        refine s_iconst (pc := 156) (v := (0 : Int32)) dX3_statement_156 (by decide) ?_
        refine s_callVI (pc := 157) (as := [.ref (z_hn μ_3.2.2.2), .int (0 : Int32)]) (st := []) dX3_statement_157 lk_3_84 kd_92 (t_X9_readHeapSum N (z_hn μ_3.2.2.2) (0 : Int32) μ_3) (by omega) rfl (by decide) rfl (fun x8 μ_10 => ?_)
        refine s_istore_n (pc := 160) (lv' := [(2, .int x8), (1, .int (5 : Int32)), (0, .ref 95)]) dX3_statement_160 rfl (by decide) rfl ?_
        refine s_goto (pc := 161) (tgt := 259) dX3_statement_161 (by decide) ?_
        refine s_sub (lv' := [(0, .ref 95), (1, .int (5 : Int32)), (2, .int x8)]) [2, 1, 0] rfl ?_
        exact t_X3_statement_B259 N (5 : Int32) x8 μ_10
      refine s_ite (fun hs7 => ?_) (fun hs7 => ?_)
      · subst hs7
        refine s_tswIn (pc := 59) (tgt := 164) dX3_statement_59 (by decide) (by decide) rfl (by decide) ?_
        refine s_aload_n (pc := 164) 1 dX3_statement_164 rfl rfl ?_
        refine s_getR (pc := 165) (ci := 3) (k := 1) (r := 92) dX3_statement_165 fl_3_22 kd_95 rfl rs_95_1 ?_
        refine s_aload_n (pc := 168) 1 dX3_statement_168 rfl rfl ?_
        refine s_getH (pc := 169) dX3_statement_169 fl_3_12 ?_
        refine s_iconst (pc := 172) (v := (1 : Int32)) dX3_statement_172 (by decide) ?_
        refine s_callVI (pc := 173) (as := [.ref (z_hn μ_3.2.2.2), .int (1 : Int32)]) (st := []) dX3_statement_173 lk_3_84 kd_92 (t_X9_readHeapSum N (z_hn μ_3.2.2.2) (1 : Int32) μ_3) (by omega) rfl (by decide) rfl (fun x9 μ_11 => ?_)
        refine s_istore_n (pc := 176) (lv' := [(2, .int x9), (1, .int (6 : Int32)), (0, .ref 95)]) dX3_statement_176 rfl (by decide) rfl ?_
        refine s_goto (pc := 177) (tgt := 259) dX3_statement_177 (by decide) ?_
        refine s_sub (lv' := [(0, .ref 95), (1, .int (6 : Int32)), (2, .int x9)]) [2, 1, 0] rfl ?_
        exact t_X3_statement_B259 N (6 : Int32) x9 μ_11
      refine s_ite (fun hs8 => ?_) (fun hs8 => ?_)
      · subst hs8
        refine s_tswIn (pc := 59) (tgt := 180) dX3_statement_59 (by decide) (by decide) rfl (by decide) ?_
        refine s_aload_n (pc := 180) 1 dX3_statement_180 rfl rfl ?_
        refine s_callVI (pc := 181) (as := []) (st := []) dX3_statement_181 lk_3_90 kd_95 (t_X3_wishContent N μ_3) (by omega) rfl (by decide) rfl (fun x10 μ_12 => ?_)
        refine s_istore_n (pc := 184) (lv' := [(2, .int x10), (1, .int (7 : Int32)), (0, .ref 95)]) dX3_statement_184 rfl (by decide) rfl ?_
        refine s_goto (pc := 185) (tgt := 259) dX3_statement_185 (by decide) ?_
        refine s_sub (lv' := [(0, .ref 95), (1, .int (7 : Int32)), (2, .int x10)]) [2, 1, 0] rfl ?_
        exact t_X3_statement_B259 N (7 : Int32) x10 μ_12
      refine s_ite (fun hs9 => ?_) (fun hs9 => ?_)
      · subst hs9
        refine s_tswIn (pc := 59) (tgt := 188) dX3_statement_59 (by decide) (by decide) rfl (by decide) ?_
        refine s_aload_n (pc := 188) 1 dX3_statement_188 rfl rfl ?_
        refine s_getH (pc := 189) dX3_statement_189 fl_3_12 ?_
        refine s_aload_n (pc := 192) 1 dX3_statement_192 rfl rfl ?_
        refine s_getR (pc := 193) (ci := 3) (k := 0) (r := 1) dX3_statement_193 fl_3_18 kd_95 rfl rs_95_0 ?_
        refine s_iconst (pc := 196) (v := (0 : Int32)) dX3_statement_196 (by decide) ?_
        refine s_bipush (pc := 197) (v := (99 : Int32)) dX3_statement_197 (by decide) ?_
        refine s_callVI (pc := 199) (as := [.int (0 : Int32), .int (99 : Int32)]) (st := [.ref (z_hn μ_3.2.2.2)]) dX3_statement_199 lk_3_93 kd_1 (t_X10_takeNumber N (0 : Int32) (99 : Int32) μ_3) (by omega) rfl (Nat.le_of_ble_eq_true rfl) rfl (fun x11 μ_13 => ?_)
        refine s_putI (pc := 202) (ci := 2) (k := 15) dX3_statement_202 fl_3_97 (z_hn_k μ_3.2.2.2) rfl rfl (fun μ_14 => ?_)
        refine s_aload_n (pc := 205) 1 dX3_statement_205 rfl rfl ?_
        refine s_getH (pc := 206) dX3_statement_206 fl_3_12 ?_
        refine s_getI (pc := 209) (ci := 2) (k := 15) dX3_statement_209 fl_3_97 (z_hn_k μ_14.2.2.2) rfl ?_
        refine s_iconst (pc := 212) (v := (-1 : Int32)) dX3_statement_212 (by decide) ?_
        refine s_icmp_eq (pc := 213) (tgt := 220) dX3_statement_213 (by decide) ?_ ?_
        · refine s_iconst (pc := 220) (v := (0 : Int32)) dX3_statement_220 (by decide) ?_
          refine s_sub (lv' := [(0, .ref 95), (1, .int (8 : Int32))]) [1, 0] rfl ?_
          exact t_X3_statement_B221 N (8 : Int32) (0 : Int32) μ_14
        · refine s_iconst (pc := 216) (v := (1 : Int32)) dX3_statement_216 (by decide) ?_
          refine s_goto (pc := 217) (tgt := 221) dX3_statement_217 (by decide) ?_
          refine s_sub (lv' := [(0, .ref 95), (1, .int (8 : Int32))]) [1, 0] rfl ?_
          exact t_X3_statement_B221 N (8 : Int32) (1 : Int32) μ_14
      · have q_hs1 := lv_neT (a := 0) hs1 (by decide)
        have q_hs2 := lv_neT (a := 1) hs2 (by decide)
        have q_hs3 := lv_neT (a := 2) hs3 (by decide)
        have q_hs4 := lv_neT (a := 3) hs4 (by decide)
        have q_hs5 := lv_neT (a := 4) hs5 (by decide)
        have q_hs6 := lv_neT (a := 5) hs6 (by decide)
        have q_hs7 := lv_neT (a := 6) hs7 (by decide)
        have q_hs8 := lv_neT (a := 7) hs8 (by decide)
        have q_hs9 := lv_neT (a := 8) hs9 (by decide)
        refine s_tswOut (pc := 59) (tgt := 225) dX3_statement_59 (by omega) (by decide) ?_
        refine s_aload_n (pc := 225) 1 dX3_statement_225 rfl rfl ?_
        refine s_getH (pc := 226) dX3_statement_226 fl_3_12 ?_
        refine s_aload_n (pc := 229) 1 dX3_statement_229 rfl rfl ?_
        refine s_getR (pc := 230) (ci := 3) (k := 0) (r := 1) dX3_statement_230 fl_3_18 kd_95 rfl rs_95_0 ?_
        refine s_iconst (pc := 233) (v := (0 : Int32)) dX3_statement_233 (by decide) ?_
        refine s_bipush (pc := 234) (v := (100 : Int32)) dX3_statement_234 (by decide) ?_
        refine s_callVI (pc := 236) (as := [.int (0 : Int32), .int (100 : Int32)]) (st := [.ref (z_hn μ_3.2.2.2)]) dX3_statement_236 lk_3_93 kd_1 (t_X10_takeNumber N (0 : Int32) (100 : Int32) μ_3) (by omega) rfl (Nat.le_of_ble_eq_true rfl) rfl (fun x12 μ_15 => ?_)
        refine s_putI (pc := 239) (ci := 2) (k := 16) dX3_statement_239 fl_3_100 (z_hn_k μ_3.2.2.2) rfl rfl (fun μ_16 => ?_)
        refine s_aload_n (pc := 242) 1 dX3_statement_242 rfl rfl ?_
        refine s_getH (pc := 243) dX3_statement_243 fl_3_12 ?_
        refine s_getI (pc := 246) (ci := 2) (k := 16) dX3_statement_246 fl_3_100 (z_hn_k μ_16.2.2.2) rfl ?_
        refine s_iconst (pc := 249) (v := (-1 : Int32)) dX3_statement_249 (by decide) ?_
        refine s_icmp_eq (pc := 250) (tgt := 257) dX3_statement_250 (by decide) ?_ ?_
        · refine s_iconst (pc := 257) (v := (0 : Int32)) dX3_statement_257 (by decide) ?_
          refine s_sub (lv' := [(0, .ref 95), (1, .int x1)]) [1, 0] rfl ?_
          exact t_X3_statement_B258 N x1 (0 : Int32) μ_16
        · refine s_iconst (pc := 253) (v := (1 : Int32)) dX3_statement_253 (by decide) ?_
          refine s_goto (pc := 254) (tgt := 258) dX3_statement_254 (by decide) ?_
          refine s_sub (lv' := [(0, .ref 95), (1, .int x1)]) [1, 0] rfl ?_
          exact t_X3_statement_B258 N x1 (1 : Int32) μ_16
    · refine s_aload_n (pc := 42) 1 dX3_statement_42 rfl rfl ?_
      refine s_getR (pc := 43) (ci := 3) (k := 0) (r := 1) dX3_statement_43 fl_3_18 kd_95 rfl rs_95_0 ?_
      refine s_iconst (pc := 46) (v := (5 : Int32)) dX3_statement_46 (by decide) ?_
      refine s_callVI (pc := 47) (as := [.int (5 : Int32)]) (st := []) dX3_statement_47 lk_3_49 kd_1 (t_X10_fail N (5 : Int32) μ_1) (by omega) rfl (by decide) rfl (fun x13 μ_17 => ?_)
      exact s_zret (pc := 50) dX3_statement_50 rfl
def b_X3_read_L19 (N : Nat) (kb : z_S → Option (Int32 × z_S)) (e72 : z_S → Option (Int32 × z_S)) (μ : z_S) : Option (Int32 × z_S) :=
  if (μ.1 95 3) < (80 : Int32) then (if (μ.1 1 4) = 0 then (e72 μ) else z_bn (f_X3_statement N μ) fun x1 μ_4 => if x1 = 0 then (some ((0 : Int32), μ_4)) else z_bn (f_X10_takeSign N (59 : Int32) μ_4) fun x2 μ_5 => if x2 = 0 then (some ((0 : Int32), μ_5)) else z_bd (z_setI μ_5 95 3 ((μ_5.1 95 3) + (1 : Int32))) fun μ_6 => kb μ_6) else e72 μ
theorem tb_X3_read_L19 (N : Nat) (kb : z_S → Option (Int32 × z_S)) (e72 : z_S → Option (Int32 × z_S)) (hkb : ∀ (μ : z_S), z_sim true rI mX3_read 51 (kb μ) 19 [(0, .ref 95)] [] μ) (he72 : ∀ (μ : z_S), z_sim true rI mX3_read 51 (e72 μ) 72 [(0, .ref 95)] [] μ) (μ : z_S) : z_sim true rI mX3_read 51 (b_X3_read_L19 N kb e72 μ) 19 [(0, .ref 95)] [] μ := by
  unfold b_X3_read_L19
  refine s_aload_n (pc := 19) 0 dX3_read_19 rfl rfl ?_
  refine s_getI (pc := 20) (ci := 3) (k := 3) dX3_read_20 fl_3_34 kd_95 rfl ?_
  refine s_bipush (pc := 23) (v := (80 : Int32)) dX3_read_23 (by decide) ?_
  refine s_icmp_ge (pc := 25) (tgt := 72) dX3_read_25 (by decide) ?_ ?_
  · refine s_aload_n (pc := 28) 0 dX3_read_28 rfl rfl ?_
    refine s_getR (pc := 29) (ci := 3) (k := 0) (r := 1) dX3_read_29 fl_3_18 kd_95 rfl rs_95_0 ?_
    refine s_getI (pc := 32) (ci := 10) (k := 4) dX3_read_32 fl_3_38 kd_1 rfl ?_
    refine s_if_eq (pc := 35) (tgt := 72) dX3_read_35 (by decide) ?_ ?_
    · exact he72 μ
    · refine s_aload_n (pc := 38) 0 dX3_read_38 rfl rfl ?_
      refine s_callVI (pc := 39) (as := []) (st := []) dX3_read_39 lk_3_41 kd_95 (t_X3_statement N μ) (by omega) rfl (by decide) rfl (fun x1 μ_4 => ?_)
      refine s_if_eq (pc := 42) (tgt := 57) dX3_read_42 (by decide) ?_ ?_
      · refine s_iconst (pc := 57) (v := (0 : Int32)) dX3_read_57 (by decide) ?_
        exact s_zret0 (pc := 58) dX3_read_58 rfl rfl
      · refine s_aload_n (pc := 45) 0 dX3_read_45 rfl rfl ?_
        refine s_getR (pc := 46) (ci := 3) (k := 0) (r := 1) dX3_read_46 fl_3_18 kd_95 rfl rs_95_0 ?_
        refine s_bipush (pc := 49) (v := (59 : Int32)) dX3_read_49 (by decide) ?_
        refine s_callVI (pc := 51) (as := [.int (59 : Int32)]) (st := []) dX3_read_51 lk_3_45 kd_1 (t_X10_takeSign N (59 : Int32) μ_4) (by omega) rfl (by decide) rfl (fun x2 μ_5 => ?_)
        refine s_if_ne (pc := 54) (tgt := 59) dX3_read_54 (by decide) ?_ ?_
        · refine s_iconst (pc := 57) (v := (0 : Int32)) dX3_read_57 (by decide) ?_
          exact s_zret0 (pc := 58) dX3_read_58 rfl rfl
        · refine s_aload_n (pc := 59) 0 dX3_read_59 rfl rfl ?_
          refine s_dup (pc := 60) dX3_read_60 rfl ?_
          refine s_getI (pc := 61) (ci := 3) (k := 3) dX3_read_61 fl_3_34 kd_95 rfl ?_
          refine s_iconst (pc := 64) (v := (1 : Int32)) dX3_read_64 (by decide) ?_
          refine s_iadd (pc := 65) dX3_read_65 ?_
          refine s_putI (pc := 66) (ci := 3) (k := 3) dX3_read_66 fl_3_34 kd_95 rfl rfl (fun μ_6 => ?_)
          refine s_goto (pc := 69) (tgt := 19) dX3_read_69 (by decide) ?_
          exact hkb μ_6
  · exact he72 μ
def f_X3_read_L19 (N : Nat) (e72 : z_S → Option (Int32 × z_S)) : Nat → z_S → Option (Int32 × z_S)
  | 0, _ => none
  | n + 1, μ => b_X3_read_L19 N (f_X3_read_L19 N e72 n) e72 μ
theorem t_X3_read_L19 (N : Nat) (e72 : z_S → Option (Int32 × z_S)) (he72 : ∀ (μ : z_S), z_sim true rI mX3_read 51 (e72 μ) 72 [(0, .ref 95)] [] μ) : ∀ (n : Nat) (μ : z_S), z_sim true rI mX3_read 51 (f_X3_read_L19 N e72 n μ) 19 [(0, .ref 95)] [] μ
  | 0, _ => s_none
  | n + 1, μ => tb_X3_read_L19 N (f_X3_read_L19 N e72 n) e72 (t_X3_read_L19 N e72 he72 n) he72 μ
def f_X3_read_B93 (N : Nat)   (μ : z_S) : Option (Int32 × z_S) :=
  some ((1 : Int32), μ)
theorem t_X3_read_B93 (N : Nat)       (μ : z_S) : z_sim true rI mX3_read 51 (f_X3_read_B93 N    μ) 93 [] [] μ := by
  unfold f_X3_read_B93
  refine s_iconst (pc := 93) (v := (1 : Int32)) dX3_read_93 (by decide) ?_
  refine s_goto (pc := 94) (tgt := 98) dX3_read_94 (by decide) ?_
  exact s_zret0 (pc := 98) dX3_read_98 rfl rfl
def f_X3_read_B72 (N : Nat)   (μ : z_S) : Option (Int32 × z_S) :=
  if (μ.1 1 4) = 0 then (f_X3_read_B93 N μ) else z_bn (f_X10_fail N (5 : Int32) μ) fun x3 μ_7 => if x3 = 0 then (some ((0 : Int32), μ_7)) else f_X3_read_B93 N μ_7
theorem t_X3_read_B72 (N : Nat)       (μ : z_S) : z_sim true rI mX3_read 51 (f_X3_read_B72 N    μ) 72 [(0, .ref 95)] [] μ := by
  unfold f_X3_read_B72
  refine s_aload_n (pc := 72) 0 dX3_read_72 rfl rfl ?_
  refine s_getR (pc := 73) (ci := 3) (k := 0) (r := 1) dX3_read_73 fl_3_18 kd_95 rfl rs_95_0 ?_
  refine s_getI (pc := 76) (ci := 10) (k := 4) dX3_read_76 fl_3_38 kd_1 rfl ?_
  refine s_if_eq (pc := 79) (tgt := 93) dX3_read_79 (by decide) ?_ ?_
  · refine s_sub (lv' := []) [] rfl ?_
    exact t_X3_read_B93 N μ
  · refine s_aload_n (pc := 82) 0 dX3_read_82 rfl rfl ?_
    refine s_getR (pc := 83) (ci := 3) (k := 0) (r := 1) dX3_read_83 fl_3_18 kd_95 rfl rs_95_0 ?_
    refine s_iconst (pc := 86) (v := (5 : Int32)) dX3_read_86 (by decide) ?_
    refine s_callVI (pc := 87) (as := [.int (5 : Int32)]) (st := []) dX3_read_87 lk_3_49 kd_1 (t_X10_fail N (5 : Int32) μ) (by omega) rfl (by decide) rfl (fun x3 μ_7 => ?_)
    refine s_if_eq (pc := 90) (tgt := 97) dX3_read_90 (by decide) ?_ ?_
    · refine s_iconst (pc := 97) (v := (0 : Int32)) dX3_read_97 (by decide) ?_
      exact s_zret0 (pc := 98) dX3_read_98 rfl rfl
    · refine s_sub (lv' := []) [] rfl ?_
      exact t_X3_read_B93 N μ_7
def f_X3_read (N : Nat) (μ : z_S) : Option (Int32 × z_S) :=
  z_bn (f_X2_clear N (z_hn μ.2.2.2) μ) fun _ μ_1 => z_bn (f_X10_open N μ_1) fun _ μ_2 => z_bd (z_setI μ_2 95 3 (0 : Int32)) fun μ_3 => f_X3_read_L19 N (fun μ72 => f_X3_read_B72 N μ72) N μ_3
theorem t_X3_read (N : Nat) (μ : z_S) : z_met true rI mX3_read 51 [.ref 95] μ (f_X3_read N μ) := by
  refine z_met.of (by decide +kernel) (by show _ ≤ _; first | decide | exact Nat.le_of_ble_eq_true rfl) (lv := [(0, .ref 95)]) rfl ?_
  unfold f_X3_read
  refine s_aload_n (pc := 0) 0 dX3_read_0 rfl rfl ?_
  refine s_getH (pc := 1) dX3_read_1 fl_3_12 ?_
  refine s_callVV (pc := 4) (as := []) (st := []) dX3_read_4 lk_3_26 (z_hn_k μ.2.2.2) (t_X2_clear N (z_hn μ.2.2.2) μ) (by omega) rfl (by decide) rfl (fun _ μ_1 => ?_)
  refine s_aload_n (pc := 7) 0 dX3_read_7 rfl rfl ?_
  refine s_getR (pc := 8) (ci := 3) (k := 0) (r := 1) dX3_read_8 fl_3_18 kd_95 rfl rs_95_0 ?_
  refine s_callVV (pc := 11) (as := []) (st := []) dX3_read_11 lk_3_29 kd_1 (t_X10_open N μ_1) (by omega) rfl (by decide) rfl (fun _ μ_2 => ?_)
  refine s_aload_n (pc := 14) 0 dX3_read_14 rfl rfl ?_
  refine s_iconst (pc := 15) (v := (0 : Int32)) dX3_read_15 (by decide) ?_
  refine s_putI (pc := 16) (ci := 3) (k := 3) dX3_read_16 fl_3_34 kd_95 rfl rfl (fun μ_3 => ?_)
  refine t_X3_read_L19 N _ ?_ N μ_3
  · intro μ72
    exact t_X3_read_B72 N μ72
