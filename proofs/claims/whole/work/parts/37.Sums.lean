def f_X9_opens (N : Nat) (a1 : Int32) (μ : z_S) : Option (Int32 × z_S) :=
  if a1 < (6 : Int32) then (z_bn (f_X10_next N μ) fun _ μ_1 => some ((1 : Int32), μ_1)) else z_bn (f_X10_fail N (4 : Int32) μ) fun x1 μ_2 => z_zb x1 (some (x1, μ_2))
theorem t_X9_opens (N : Nat) (a1 : Int32) (μ : z_S) : z_met true rI mX9_opens 2 [.ref 92, .int a1] μ (f_X9_opens N a1 μ) := by
  refine z_met.of (by decide +kernel) (by show _ ≤ _; first | decide | exact Nat.le_of_ble_eq_true rfl) (lv := [(0, .ref 92), (1, .int a1)]) rfl ?_
  unfold f_X9_opens
  refine s_iload_n (pc := 0) 1 dX9_opens_0 rfl rfl ?_
  refine s_bipush (pc := 1) (v := (6 : Int32)) dX9_opens_1 (by decide) ?_
  refine s_icmp_lt (pc := 3) (tgt := 15) dX9_opens_3 (by decide) ?_ ?_
  · refine s_aload_n (pc := 15) 0 dX9_opens_15 rfl rfl ?_
    refine s_getR (pc := 16) (ci := 9) (k := 1) (r := 1) dX9_opens_16 fl_9_18 kd_92 rfl rs_92_1 ?_
    refine s_callVV (pc := 19) (as := []) (st := []) dX9_opens_19 lk_9_51 kd_1 (t_X10_next N μ) (by omega) rfl (by decide) rfl (fun _ μ_1 => ?_)
    refine s_iconst (pc := 22) (v := (1 : Int32)) dX9_opens_22 (by decide) ?_
    exact s_zret0 (pc := 23) dX9_opens_23 rfl rfl
  · refine s_aload_n (pc := 6) 0 dX9_opens_6 rfl rfl ?_
    refine s_getR (pc := 7) (ci := 9) (k := 1) (r := 1) dX9_opens_7 fl_9_18 kd_92 rfl rs_92_1 ?_
    refine s_iconst (pc := 10) (v := (4 : Int32)) dX9_opens_10 (by decide) ?_
    refine s_callVI (pc := 11) (as := [.int (4 : Int32)]) (st := []) dX9_opens_11 lk_9_70 kd_1 (t_X10_fail N (4 : Int32) μ) (by omega) rfl (by decide) rfl (fun x1 μ_2 => ?_)
    exact s_zret (pc := 14) dX9_opens_14 rfl
def f_X9_commonValue (N : Nat) (a0 : Int32) (μ : z_S) : Option (Int32 × z_S) :=
  z_bd a0 fun x1 => if x1 = 1 then (some ((0 : Int32), μ)) else if x1 = 2 then (some ((1 : Int32), μ)) else if x1 = 3 then (some ((2 : Int32), μ)) else if x1 = 17 then (some ((4 : Int32), μ)) else if x1 = 18 then (some ((5 : Int32), μ)) else some ((-1 : Int32), μ)
theorem t_X9_commonValue (N : Nat) (a0 : Int32) (μ : z_S) : z_met true rI mX9_commonValue 0 [.int a0] μ (f_X9_commonValue N a0 μ) := by
  refine z_met.of (by decide +kernel) (by show _ ≤ _; first | decide | exact Nat.le_of_ble_eq_true rfl) (lv := [(0, .int a0)]) rfl ?_
  unfold f_X9_commonValue
  refine s_iload_n (pc := 0) 0 dX9_commonValue_0 rfl rfl ?_
  refine s_letI (fun x1 => ?_)
  refine s_ite (fun hs1 => ?_) (fun hs1 => ?_)
  · subst hs1
    refine s_lsw (pc := 1) (tgt := 52) dX9_commonValue_1 (by decide) rfl (by decide) ?_
    refine s_iconst (pc := 52) (v := (0 : Int32)) dX9_commonValue_52 (by decide) ?_
    exact s_iret (pc := 53) rfl dX9_commonValue_53 rfl
  refine s_ite (fun hs2 => ?_) (fun hs2 => ?_)
  · subst hs2
    refine s_lsw (pc := 1) (tgt := 54) dX9_commonValue_1 (by decide) rfl (by decide) ?_
    refine s_iconst (pc := 54) (v := (1 : Int32)) dX9_commonValue_54 (by decide) ?_
    exact s_iret (pc := 55) rfl dX9_commonValue_55 rfl
  refine s_ite (fun hs3 => ?_) (fun hs3 => ?_)
  · subst hs3
    refine s_lsw (pc := 1) (tgt := 56) dX9_commonValue_1 (by decide) rfl (by decide) ?_
    refine s_iconst (pc := 56) (v := (2 : Int32)) dX9_commonValue_56 (by decide) ?_
    exact s_iret (pc := 57) rfl dX9_commonValue_57 rfl
  refine s_ite (fun hs4 => ?_) (fun hs4 => ?_)
  · subst hs4
    refine s_lsw (pc := 1) (tgt := 58) dX9_commonValue_1 (by decide) rfl (by decide) ?_
    refine s_iconst (pc := 58) (v := (4 : Int32)) dX9_commonValue_58 (by decide) ?_
    exact s_iret (pc := 59) rfl dX9_commonValue_59 rfl
  refine s_ite (fun hs5 => ?_) (fun hs5 => ?_)
  · subst hs5
    refine s_lsw (pc := 1) (tgt := 60) dX9_commonValue_1 (by decide) rfl (by decide) ?_
    refine s_iconst (pc := 60) (v := (5 : Int32)) dX9_commonValue_60 (by decide) ?_
    exact s_iret (pc := 61) rfl dX9_commonValue_61 rfl
  · refine s_lsw (pc := 1) (off := 61) (tgt := 62) dX9_commonValue_1 (by decide) ((lv_osw hs1 (by decide)).trans ((lv_osw hs2 (by decide)).trans ((lv_osw hs3 (by decide)).trans ((lv_osw hs4 (by decide)).trans ((lv_osw hs5 (by decide)).trans rfl))))) (by decide) ?_
    refine s_iconst (pc := 62) (v := (-1 : Int32)) dX9_commonValue_62 (by decide) ?_
    exact s_iret (pc := 63) rfl dX9_commonValue_63 rfl
def f_X9_questionValue (N : Nat) (a0 : Int32) (μ : z_S) : Option (Int32 × z_S) :=
  z_bd a0 fun x1 => if x1 = 4 then (some ((9 : Int32), μ)) else if x1 = 19 then (some ((6 : Int32), μ)) else if x1 = 20 then (some ((7 : Int32), μ)) else if x1 = 21 then (some ((8 : Int32), μ)) else z_bn (f_X9_commonValue N a0 μ) fun x2 μ_1 => some (x2, μ_1)
theorem t_X9_questionValue (N : Nat) (a0 : Int32) (μ : z_S) : z_met true rI mX9_questionValue 1 [.int a0] μ (f_X9_questionValue N a0 μ) := by
  refine z_met.of (by decide +kernel) (by show _ ≤ _; first | decide | exact Nat.le_of_ble_eq_true rfl) (lv := [(0, .int a0)]) rfl ?_
  unfold f_X9_questionValue
  refine s_iload_n (pc := 0) 0 dX9_questionValue_0 rfl rfl ?_
  refine s_letI (fun x1 => ?_)
  refine s_ite (fun hs1 => ?_) (fun hs1 => ?_)
  · subst hs1
    refine s_lsw (pc := 1) (tgt := 53) dX9_questionValue_1 (by decide) rfl (by decide) ?_
    refine s_bipush (pc := 53) (v := (9 : Int32)) dX9_questionValue_53 (by decide) ?_
    exact s_iret (pc := 55) rfl dX9_questionValue_55 rfl
  refine s_ite (fun hs2 => ?_) (fun hs2 => ?_)
  · subst hs2
    refine s_lsw (pc := 1) (tgt := 44) dX9_questionValue_1 (by decide) rfl (by decide) ?_
    refine s_bipush (pc := 44) (v := (6 : Int32)) dX9_questionValue_44 (by decide) ?_
    exact s_iret (pc := 46) rfl dX9_questionValue_46 rfl
  refine s_ite (fun hs3 => ?_) (fun hs3 => ?_)
  · subst hs3
    refine s_lsw (pc := 1) (tgt := 47) dX9_questionValue_1 (by decide) rfl (by decide) ?_
    refine s_bipush (pc := 47) (v := (7 : Int32)) dX9_questionValue_47 (by decide) ?_
    exact s_iret (pc := 49) rfl dX9_questionValue_49 rfl
  refine s_ite (fun hs4 => ?_) (fun hs4 => ?_)
  · subst hs4
    refine s_lsw (pc := 1) (tgt := 50) dX9_questionValue_1 (by decide) rfl (by decide) ?_
    refine s_bipush (pc := 50) (v := (8 : Int32)) dX9_questionValue_50 (by decide) ?_
    exact s_iret (pc := 52) rfl dX9_questionValue_52 rfl
  · refine s_lsw (pc := 1) (off := 55) (tgt := 56) dX9_questionValue_1 (by decide) ((lv_osw hs1 (by decide)).trans ((lv_osw hs2 (by decide)).trans ((lv_osw hs3 (by decide)).trans ((lv_osw hs4 (by decide)).trans rfl)))) (by decide) ?_
    refine s_iload_n (pc := 56) 0 dX9_questionValue_56 rfl rfl ?_
    refine s_callSI (pc := 57) (as := [.int a0]) (st := []) dX9_questionValue_57 lk_9_99 (t_X9_commonValue N a0 μ) (by omega) rfl (by decide) rfl (fun x2 μ_1 => ?_)
    exact s_iret (pc := 60) rfl dX9_questionValue_60 rfl
def f_X9_heapValue (N : Nat) (a0 : Int32) (μ : z_S) : Option (Int32 × z_S) :=
  if a0 = (11 : Int32) then (some ((3 : Int32), μ)) else z_bn (f_X9_commonValue N a0 μ) fun x1 μ_1 => some (x1, μ_1)
theorem t_X9_heapValue (N : Nat) (a0 : Int32) (μ : z_S) : z_met true rI mX9_heapValue 1 [.int a0] μ (f_X9_heapValue N a0 μ) := by
  refine z_met.of (by decide +kernel) (by show _ ≤ _; first | decide | exact Nat.le_of_ble_eq_true rfl) (lv := [(0, .int a0)]) rfl ?_
  unfold f_X9_heapValue
  refine s_iload_n (pc := 0) 0 dX9_heapValue_0 rfl rfl ?_
  refine s_bipush (pc := 1) (v := (11 : Int32)) dX9_heapValue_1 (by decide) ?_
  refine s_icmp_ne (pc := 3) (tgt := 10) dX9_heapValue_3 (by decide) ?_ ?_
  · refine s_iconst (pc := 6) (v := (3 : Int32)) dX9_heapValue_6 (by decide) ?_
    refine s_goto (pc := 7) (tgt := 14) dX9_heapValue_7 (by decide) ?_
    exact s_iret (pc := 14) rfl dX9_heapValue_14 rfl
  · refine s_iload_n (pc := 10) 0 dX9_heapValue_10 rfl rfl ?_
    refine s_callSI (pc := 11) (as := [.int a0]) (st := []) dX9_heapValue_11 lk_9_99 (t_X9_commonValue N a0 μ) (by omega) rfl (by decide) rfl (fun x1 μ_1 => ?_)
    exact s_iret (pc := 14) rfl dX9_heapValue_14 rfl
def b_X9_test_L8 (N : Nat) (rc0 : Int32 → z_S → Option (Int32 × z_S)) (rc1 : Int32 → z_S → Option (Int32 × z_S)) (rc2 : Int32 → z_S → Option (Int32 × z_S)) (rc3 : Int32 → z_S → Option (Int32 × z_S)) (rc4 : Int32 → z_S → Option (Int32 × z_S)) (rc5 : Int32 → z_S → Option (Int32 × z_S)) (rc6 : Int32 → z_S → Option (Int32 × z_S)) (c1 : Int32) (kb : Int32 → Int32 → z_S → Option (Int32 × z_S)) (v2 : Int32) (v3 : Int32) (μ : z_S) : Option (Int32 × z_S) :=
  if v3 < (1600 : Int32) then (if v2 = 0 then (z_zb v2 (some (v2, μ))) else if (μ.1 1 7) = (22 : Int32) then (z_bn (f_X10_next N μ) fun _ μ_2 => z_bn (rc1 c1 μ_2) fun x2 μ_3 => z_bn (f_X0_add N 93 (-21 : Int32) μ_3) fun _ μ_4 => z_bd (v3 + 1) fun x3 => kb x2 x3 μ_4) else z_zb v2 (some (v2, μ))) else z_zb v2 (some (v2, μ))
theorem tb_X9_test_L8 (N : Nat) (rc0 : Int32 → z_S → Option (Int32 × z_S)) (rc1 : Int32 → z_S → Option (Int32 × z_S)) (rc2 : Int32 → z_S → Option (Int32 × z_S)) (rc3 : Int32 → z_S → Option (Int32 × z_S)) (rc4 : Int32 → z_S → Option (Int32 × z_S)) (rc5 : Int32 → z_S → Option (Int32 × z_S)) (rc6 : Int32 → z_S → Option (Int32 × z_S)) (c1 : Int32) (D : Nat) (hrc0 : ∀ (x1 : Int32) (μ : z_S), z_met true rI mX9_test (D + 8) [.ref 92, .int x1] μ (rc0 x1 μ)) (hrc1 : ∀ (x1 : Int32) (μ : z_S), z_met true rI mX9_both (D + 8) [.ref 92, .int x1] μ (rc1 x1 μ)) (hrc2 : ∀ (x1 : Int32) (μ : z_S), z_met true rI mX9_fact (D + 8) [.ref 92, .int x1] μ (rc2 x1 μ)) (hrc3 : ∀ (x1 : Int32) (μ : z_S), z_met true rI mX9_sum (D + 8) [.ref 92, .int x1] μ (rc3 x1 μ)) (hrc4 : ∀ (x1 : Int32) (μ : z_S), z_met true rI mX9_product (D + 8) [.ref 92, .int x1] μ (rc4 x1 μ)) (hrc5 : ∀ (x1 : Int32) (μ : z_S), z_met true rI mX9_part (D + 8) [.ref 92, .int x1] μ (rc5 x1 μ)) (hrc6 : ∀ (x1 : Int32) (μ : z_S), z_met true rI mX9_choice (D + 8) [.ref 92, .int x1] μ (rc6 x1 μ)) (kb : Int32 → Int32 → z_S → Option (Int32 × z_S)) (hkb : ∀ (a2 : Int32) (a3 : Int32) (μ : z_S), z_sim true rI mX9_test (D + 1 + 8) (kb a2 a3 μ) 8 [(0, .ref 92), (1, .int c1), (2, .int a2), (3, .int a3)] [] μ) (v2 : Int32) (v3 : Int32) (μ : z_S) : z_sim true rI mX9_test (D + 1 + 8) (b_X9_test_L8 N rc0 rc1 rc2 rc3 rc4 rc5 rc6 c1 kb v2 v3 μ) 8 [(0, .ref 92), (1, .int c1), (2, .int v2), (3, .int v3)] [] μ := by
  unfold b_X9_test_L8
  refine s_iload_n (pc := 8) 3 dX9_test_8 rfl rfl ?_
  refine s_sipush (pc := 9) (v := (1600 : Int32)) dX9_test_9 (by decide) ?_
  refine s_icmp_ge (pc := 12) (tgt := 59) dX9_test_12 (by decide) ?_ ?_
  · refine s_iload_n (pc := 15) 2 dX9_test_15 rfl rfl ?_
    refine s_if_eq (pc := 16) (tgt := 59) dX9_test_16 (by decide) ?_ ?_
    · refine s_iload_n (pc := 59) 2 dX9_test_59 rfl rfl ?_
      exact s_zret (pc := 60) dX9_test_60 rfl
    · refine s_aload_n (pc := 19) 0 dX9_test_19 rfl rfl ?_
      refine s_getR (pc := 20) (ci := 9) (k := 1) (r := 1) dX9_test_20 fl_9_18 kd_92 rfl rs_92_1 ?_
      refine s_getI (pc := 23) (ci := 10) (k := 7) dX9_test_23 fl_9_46 kd_1 rfl ?_
      refine s_bipush (pc := 26) (v := (22 : Int32)) dX9_test_26 (by decide) ?_
      refine s_icmp_ne (pc := 28) (tgt := 59) dX9_test_28 (by decide) ?_ ?_
      · refine s_aload_n (pc := 31) 0 dX9_test_31 rfl rfl ?_
        refine s_getR (pc := 32) (ci := 9) (k := 1) (r := 1) dX9_test_32 fl_9_18 kd_92 rfl rs_92_1 ?_
        refine s_callVV (pc := 35) (as := []) (st := []) dX9_test_35 lk_9_51 kd_1 (t_X10_next N μ) (by omega) rfl (by decide) rfl (fun _ μ_2 => ?_)
        refine s_aload_n (pc := 38) 0 dX9_test_38 rfl rfl ?_
        refine s_iload_n (pc := 39) 1 dX9_test_39 rfl rfl ?_
        refine s_callVI (pc := 40) (as := [.int c1]) (st := []) dX9_test_40 lk_9_43 kd_92 (hrc1 c1 μ_2) (by omega) rfl (by decide) rfl (fun x2 μ_3 => ?_)
        refine s_istore_n (pc := 43) (lv' := [(2, .int x2), (0, .ref 92), (1, .int c1), (3, .int v3)]) dX9_test_43 rfl (by decide) rfl ?_
        refine s_aload_n (pc := 44) 1 dX9_test_44 rfl rfl ?_
        refine s_getR (pc := 45) (ci := 9) (k := 0) (r := 93) dX9_test_45 fl_9_12 kd_92 rfl rs_92_0 ?_
        refine s_bipush (pc := 48) (v := (-21 : Int32)) dX9_test_48 (by decide) ?_
        refine s_callVV (pc := 50) (as := [.int (-21 : Int32)]) (st := []) dX9_test_50 lk_9_54 kd_93 (t_X0_add N 93 (-21 : Int32) μ_3) (by omega) rfl (by decide) rfl (fun _ μ_4 => ?_)
        refine s_iincB (pc := 53) (lv' := fun x3 => [(3, .int x3), (2, .int x2), (0, .ref 92), (1, .int c1)]) (c := 1) 3 dX9_test_53 rfl (by decide) (by decide) (fun _ => rfl) (fun x3 => ?_)
        refine s_goto (pc := 56) (tgt := 8) dX9_test_56 (by decide) ?_
        refine s_sub (lv' := [(0, .ref 92), (1, .int c1), (2, .int x2), (3, .int x3)]) [2, 3, 1, 0] rfl ?_
        exact hkb x2 x3 μ_4
      · refine s_iload_n (pc := 59) 2 dX9_test_59 rfl rfl ?_
        exact s_zret (pc := 60) dX9_test_60 rfl
  · refine s_iload_n (pc := 59) 2 dX9_test_59 rfl rfl ?_
    exact s_zret (pc := 60) dX9_test_60 rfl
def f_X9_test_L8 (N : Nat) (rc0 : Int32 → z_S → Option (Int32 × z_S)) (rc1 : Int32 → z_S → Option (Int32 × z_S)) (rc2 : Int32 → z_S → Option (Int32 × z_S)) (rc3 : Int32 → z_S → Option (Int32 × z_S)) (rc4 : Int32 → z_S → Option (Int32 × z_S)) (rc5 : Int32 → z_S → Option (Int32 × z_S)) (rc6 : Int32 → z_S → Option (Int32 × z_S)) (c1 : Int32) : Nat → Int32 → Int32 → z_S → Option (Int32 × z_S)
  | 0, _, _, _ => none
  | n + 1, v2, v3, μ => b_X9_test_L8 N rc0 rc1 rc2 rc3 rc4 rc5 rc6 c1 (f_X9_test_L8 N rc0 rc1 rc2 rc3 rc4 rc5 rc6 c1 n) v2 v3 μ
theorem t_X9_test_L8 (N : Nat) (rc0 : Int32 → z_S → Option (Int32 × z_S)) (rc1 : Int32 → z_S → Option (Int32 × z_S)) (rc2 : Int32 → z_S → Option (Int32 × z_S)) (rc3 : Int32 → z_S → Option (Int32 × z_S)) (rc4 : Int32 → z_S → Option (Int32 × z_S)) (rc5 : Int32 → z_S → Option (Int32 × z_S)) (rc6 : Int32 → z_S → Option (Int32 × z_S)) (c1 : Int32) (D : Nat) (hrc0 : ∀ (x1 : Int32) (μ : z_S), z_met true rI mX9_test (D + 8) [.ref 92, .int x1] μ (rc0 x1 μ)) (hrc1 : ∀ (x1 : Int32) (μ : z_S), z_met true rI mX9_both (D + 8) [.ref 92, .int x1] μ (rc1 x1 μ)) (hrc2 : ∀ (x1 : Int32) (μ : z_S), z_met true rI mX9_fact (D + 8) [.ref 92, .int x1] μ (rc2 x1 μ)) (hrc3 : ∀ (x1 : Int32) (μ : z_S), z_met true rI mX9_sum (D + 8) [.ref 92, .int x1] μ (rc3 x1 μ)) (hrc4 : ∀ (x1 : Int32) (μ : z_S), z_met true rI mX9_product (D + 8) [.ref 92, .int x1] μ (rc4 x1 μ)) (hrc5 : ∀ (x1 : Int32) (μ : z_S), z_met true rI mX9_part (D + 8) [.ref 92, .int x1] μ (rc5 x1 μ)) (hrc6 : ∀ (x1 : Int32) (μ : z_S), z_met true rI mX9_choice (D + 8) [.ref 92, .int x1] μ (rc6 x1 μ)) : ∀ (n : Nat) (v2 : Int32) (v3 : Int32) (μ : z_S), z_sim true rI mX9_test (D + 1 + 8) (f_X9_test_L8 N rc0 rc1 rc2 rc3 rc4 rc5 rc6 c1 n v2 v3 μ) 8 [(0, .ref 92), (1, .int c1), (2, .int v2), (3, .int v3)] [] μ
  | 0, _, _, _ => s_none
  | n + 1, v2, v3, μ => tb_X9_test_L8 N rc0 rc1 rc2 rc3 rc4 rc5 rc6 c1 D hrc0 hrc1 hrc2 hrc3 hrc4 hrc5 hrc6 (f_X9_test_L8 N rc0 rc1 rc2 rc3 rc4 rc5 rc6 c1 n) (t_X9_test_L8 N rc0 rc1 rc2 rc3 rc4 rc5 rc6 c1 D hrc0 hrc1 hrc2 hrc3 hrc4 hrc5 hrc6 n) v2 v3 μ
def g_X9_test (N : Nat) (rc0 : Int32 → z_S → Option (Int32 × z_S)) (rc1 : Int32 → z_S → Option (Int32 × z_S)) (rc2 : Int32 → z_S → Option (Int32 × z_S)) (rc3 : Int32 → z_S → Option (Int32 × z_S)) (rc4 : Int32 → z_S → Option (Int32 × z_S)) (rc5 : Int32 → z_S → Option (Int32 × z_S)) (rc6 : Int32 → z_S → Option (Int32 × z_S)) (a1 : Int32) (μ : z_S) : Option (Int32 × z_S) :=
  z_bn (rc1 a1 μ) fun x1 μ_1 => f_X9_test_L8 N rc0 rc1 rc2 rc3 rc4 rc5 rc6 a1 N x1 (0 : Int32) μ_1
theorem tg_X9_test (N : Nat) (D : Nat) (rc0 : Int32 → z_S → Option (Int32 × z_S)) (rc1 : Int32 → z_S → Option (Int32 × z_S)) (rc2 : Int32 → z_S → Option (Int32 × z_S)) (rc3 : Int32 → z_S → Option (Int32 × z_S)) (rc4 : Int32 → z_S → Option (Int32 × z_S)) (rc5 : Int32 → z_S → Option (Int32 × z_S)) (rc6 : Int32 → z_S → Option (Int32 × z_S)) (hrc0 : ∀ (x1 : Int32) (μ : z_S), z_met true rI mX9_test (D + 8) [.ref 92, .int x1] μ (rc0 x1 μ)) (hrc1 : ∀ (x1 : Int32) (μ : z_S), z_met true rI mX9_both (D + 8) [.ref 92, .int x1] μ (rc1 x1 μ)) (hrc2 : ∀ (x1 : Int32) (μ : z_S), z_met true rI mX9_fact (D + 8) [.ref 92, .int x1] μ (rc2 x1 μ)) (hrc3 : ∀ (x1 : Int32) (μ : z_S), z_met true rI mX9_sum (D + 8) [.ref 92, .int x1] μ (rc3 x1 μ)) (hrc4 : ∀ (x1 : Int32) (μ : z_S), z_met true rI mX9_product (D + 8) [.ref 92, .int x1] μ (rc4 x1 μ)) (hrc5 : ∀ (x1 : Int32) (μ : z_S), z_met true rI mX9_part (D + 8) [.ref 92, .int x1] μ (rc5 x1 μ)) (hrc6 : ∀ (x1 : Int32) (μ : z_S), z_met true rI mX9_choice (D + 8) [.ref 92, .int x1] μ (rc6 x1 μ)) (a1 : Int32) (μ : z_S) : z_met true rI mX9_test (D + 1 + 8) [.ref 92, .int a1] μ (g_X9_test N rc0 rc1 rc2 rc3 rc4 rc5 rc6 a1 μ) := by
  refine z_met.of (by decide +kernel) (by show _ ≤ _; first | decide | exact Nat.le_of_ble_eq_true rfl) (lv := [(0, .ref 92), (1, .int a1)]) rfl ?_
  unfold g_X9_test
  refine s_aload_n (pc := 0) 0 dX9_test_0 rfl rfl ?_
  refine s_iload_n (pc := 1) 1 dX9_test_1 rfl rfl ?_
  refine s_callVI (pc := 2) (as := [.int a1]) (st := []) dX9_test_2 lk_9_43 kd_92 (hrc1 a1 μ) (by omega) rfl (by decide) rfl (fun x1 μ_1 => ?_)
  refine s_istore_n (pc := 5) (lv' := [(2, .int x1), (0, .ref 92), (1, .int a1)]) dX9_test_5 rfl (by decide) rfl ?_
  refine s_iconst (pc := 6) (v := (0 : Int32)) dX9_test_6 (by decide) ?_
  refine s_istore_n (pc := 7) (lv' := [(3, .int (0 : Int32)), (2, .int x1), (0, .ref 92), (1, .int a1)]) dX9_test_7 rfl (by decide) rfl ?_
  refine s_sub (lv' := [(0, .ref 92), (1, .int a1), (2, .int x1), (3, .int (0 : Int32))]) [2, 3, 1, 0] rfl ?_
  refine t_X9_test_L8 N rc0 rc1 rc2 rc3 rc4 rc5 rc6 a1 D hrc0 hrc1 hrc2 hrc3 hrc4 hrc5 hrc6 N x1 (0 : Int32) μ_1
def b_X9_both_L8 (N : Nat) (rc0 : Int32 → z_S → Option (Int32 × z_S)) (rc1 : Int32 → z_S → Option (Int32 × z_S)) (rc2 : Int32 → z_S → Option (Int32 × z_S)) (rc3 : Int32 → z_S → Option (Int32 × z_S)) (rc4 : Int32 → z_S → Option (Int32 × z_S)) (rc5 : Int32 → z_S → Option (Int32 × z_S)) (rc6 : Int32 → z_S → Option (Int32 × z_S)) (c1 : Int32) (kb : Int32 → Int32 → z_S → Option (Int32 × z_S)) (v2 : Int32) (v3 : Int32) (μ : z_S) : Option (Int32 × z_S) :=
  if v3 < (1600 : Int32) then (if v2 = 0 then (z_zb v2 (some (v2, μ))) else if (μ.1 1 7) = (23 : Int32) then (z_bn (f_X10_next N μ) fun _ μ_2 => z_bn (rc2 c1 μ_2) fun x2 μ_3 => z_bn (f_X0_add N 93 (-20 : Int32) μ_3) fun _ μ_4 => z_bd (v3 + 1) fun x3 => kb x2 x3 μ_4) else z_zb v2 (some (v2, μ))) else z_zb v2 (some (v2, μ))
theorem tb_X9_both_L8 (N : Nat) (rc0 : Int32 → z_S → Option (Int32 × z_S)) (rc1 : Int32 → z_S → Option (Int32 × z_S)) (rc2 : Int32 → z_S → Option (Int32 × z_S)) (rc3 : Int32 → z_S → Option (Int32 × z_S)) (rc4 : Int32 → z_S → Option (Int32 × z_S)) (rc5 : Int32 → z_S → Option (Int32 × z_S)) (rc6 : Int32 → z_S → Option (Int32 × z_S)) (c1 : Int32) (D : Nat) (hrc0 : ∀ (x1 : Int32) (μ : z_S), z_met true rI mX9_test (D + 8) [.ref 92, .int x1] μ (rc0 x1 μ)) (hrc1 : ∀ (x1 : Int32) (μ : z_S), z_met true rI mX9_both (D + 8) [.ref 92, .int x1] μ (rc1 x1 μ)) (hrc2 : ∀ (x1 : Int32) (μ : z_S), z_met true rI mX9_fact (D + 8) [.ref 92, .int x1] μ (rc2 x1 μ)) (hrc3 : ∀ (x1 : Int32) (μ : z_S), z_met true rI mX9_sum (D + 8) [.ref 92, .int x1] μ (rc3 x1 μ)) (hrc4 : ∀ (x1 : Int32) (μ : z_S), z_met true rI mX9_product (D + 8) [.ref 92, .int x1] μ (rc4 x1 μ)) (hrc5 : ∀ (x1 : Int32) (μ : z_S), z_met true rI mX9_part (D + 8) [.ref 92, .int x1] μ (rc5 x1 μ)) (hrc6 : ∀ (x1 : Int32) (μ : z_S), z_met true rI mX9_choice (D + 8) [.ref 92, .int x1] μ (rc6 x1 μ)) (kb : Int32 → Int32 → z_S → Option (Int32 × z_S)) (hkb : ∀ (a2 : Int32) (a3 : Int32) (μ : z_S), z_sim true rI mX9_both (D + 1 + 8) (kb a2 a3 μ) 8 [(0, .ref 92), (1, .int c1), (2, .int a2), (3, .int a3)] [] μ) (v2 : Int32) (v3 : Int32) (μ : z_S) : z_sim true rI mX9_both (D + 1 + 8) (b_X9_both_L8 N rc0 rc1 rc2 rc3 rc4 rc5 rc6 c1 kb v2 v3 μ) 8 [(0, .ref 92), (1, .int c1), (2, .int v2), (3, .int v3)] [] μ := by
  unfold b_X9_both_L8
  refine s_iload_n (pc := 8) 3 dX9_both_8 rfl rfl ?_
  refine s_sipush (pc := 9) (v := (1600 : Int32)) dX9_both_9 (by decide) ?_
  refine s_icmp_ge (pc := 12) (tgt := 59) dX9_both_12 (by decide) ?_ ?_
  · refine s_iload_n (pc := 15) 2 dX9_both_15 rfl rfl ?_
    refine s_if_eq (pc := 16) (tgt := 59) dX9_both_16 (by decide) ?_ ?_
    · refine s_iload_n (pc := 59) 2 dX9_both_59 rfl rfl ?_
      exact s_zret (pc := 60) dX9_both_60 rfl
    · refine s_aload_n (pc := 19) 0 dX9_both_19 rfl rfl ?_
      refine s_getR (pc := 20) (ci := 9) (k := 1) (r := 1) dX9_both_20 fl_9_18 kd_92 rfl rs_92_1 ?_
      refine s_getI (pc := 23) (ci := 10) (k := 7) dX9_both_23 fl_9_46 kd_1 rfl ?_
      refine s_bipush (pc := 26) (v := (23 : Int32)) dX9_both_26 (by decide) ?_
      refine s_icmp_ne (pc := 28) (tgt := 59) dX9_both_28 (by decide) ?_ ?_
      · refine s_aload_n (pc := 31) 0 dX9_both_31 rfl rfl ?_
        refine s_getR (pc := 32) (ci := 9) (k := 1) (r := 1) dX9_both_32 fl_9_18 kd_92 rfl rs_92_1 ?_
        refine s_callVV (pc := 35) (as := []) (st := []) dX9_both_35 lk_9_51 kd_1 (t_X10_next N μ) (by omega) rfl (by decide) rfl (fun _ μ_2 => ?_)
        refine s_aload_n (pc := 38) 0 dX9_both_38 rfl rfl ?_
        refine s_iload_n (pc := 39) 1 dX9_both_39 rfl rfl ?_
        refine s_callVI (pc := 40) (as := [.int c1]) (st := []) dX9_both_40 lk_9_58 kd_92 (hrc2 c1 μ_2) (by omega) rfl (by decide) rfl (fun x2 μ_3 => ?_)
        refine s_istore_n (pc := 43) (lv' := [(2, .int x2), (0, .ref 92), (1, .int c1), (3, .int v3)]) dX9_both_43 rfl (by decide) rfl ?_
        refine s_aload_n (pc := 44) 1 dX9_both_44 rfl rfl ?_
        refine s_getR (pc := 45) (ci := 9) (k := 0) (r := 93) dX9_both_45 fl_9_12 kd_92 rfl rs_92_0 ?_
        refine s_bipush (pc := 48) (v := (-20 : Int32)) dX9_both_48 (by decide) ?_
        refine s_callVV (pc := 50) (as := [.int (-20 : Int32)]) (st := []) dX9_both_50 lk_9_54 kd_93 (t_X0_add N 93 (-20 : Int32) μ_3) (by omega) rfl (by decide) rfl (fun _ μ_4 => ?_)
        refine s_iincB (pc := 53) (lv' := fun x3 => [(3, .int x3), (2, .int x2), (0, .ref 92), (1, .int c1)]) (c := 1) 3 dX9_both_53 rfl (by decide) (by decide) (fun _ => rfl) (fun x3 => ?_)
        refine s_goto (pc := 56) (tgt := 8) dX9_both_56 (by decide) ?_
        refine s_sub (lv' := [(0, .ref 92), (1, .int c1), (2, .int x2), (3, .int x3)]) [2, 3, 1, 0] rfl ?_
        exact hkb x2 x3 μ_4
      · refine s_iload_n (pc := 59) 2 dX9_both_59 rfl rfl ?_
        exact s_zret (pc := 60) dX9_both_60 rfl
  · refine s_iload_n (pc := 59) 2 dX9_both_59 rfl rfl ?_
    exact s_zret (pc := 60) dX9_both_60 rfl
def f_X9_both_L8 (N : Nat) (rc0 : Int32 → z_S → Option (Int32 × z_S)) (rc1 : Int32 → z_S → Option (Int32 × z_S)) (rc2 : Int32 → z_S → Option (Int32 × z_S)) (rc3 : Int32 → z_S → Option (Int32 × z_S)) (rc4 : Int32 → z_S → Option (Int32 × z_S)) (rc5 : Int32 → z_S → Option (Int32 × z_S)) (rc6 : Int32 → z_S → Option (Int32 × z_S)) (c1 : Int32) : Nat → Int32 → Int32 → z_S → Option (Int32 × z_S)
  | 0, _, _, _ => none
  | n + 1, v2, v3, μ => b_X9_both_L8 N rc0 rc1 rc2 rc3 rc4 rc5 rc6 c1 (f_X9_both_L8 N rc0 rc1 rc2 rc3 rc4 rc5 rc6 c1 n) v2 v3 μ
theorem t_X9_both_L8 (N : Nat) (rc0 : Int32 → z_S → Option (Int32 × z_S)) (rc1 : Int32 → z_S → Option (Int32 × z_S)) (rc2 : Int32 → z_S → Option (Int32 × z_S)) (rc3 : Int32 → z_S → Option (Int32 × z_S)) (rc4 : Int32 → z_S → Option (Int32 × z_S)) (rc5 : Int32 → z_S → Option (Int32 × z_S)) (rc6 : Int32 → z_S → Option (Int32 × z_S)) (c1 : Int32) (D : Nat) (hrc0 : ∀ (x1 : Int32) (μ : z_S), z_met true rI mX9_test (D + 8) [.ref 92, .int x1] μ (rc0 x1 μ)) (hrc1 : ∀ (x1 : Int32) (μ : z_S), z_met true rI mX9_both (D + 8) [.ref 92, .int x1] μ (rc1 x1 μ)) (hrc2 : ∀ (x1 : Int32) (μ : z_S), z_met true rI mX9_fact (D + 8) [.ref 92, .int x1] μ (rc2 x1 μ)) (hrc3 : ∀ (x1 : Int32) (μ : z_S), z_met true rI mX9_sum (D + 8) [.ref 92, .int x1] μ (rc3 x1 μ)) (hrc4 : ∀ (x1 : Int32) (μ : z_S), z_met true rI mX9_product (D + 8) [.ref 92, .int x1] μ (rc4 x1 μ)) (hrc5 : ∀ (x1 : Int32) (μ : z_S), z_met true rI mX9_part (D + 8) [.ref 92, .int x1] μ (rc5 x1 μ)) (hrc6 : ∀ (x1 : Int32) (μ : z_S), z_met true rI mX9_choice (D + 8) [.ref 92, .int x1] μ (rc6 x1 μ)) : ∀ (n : Nat) (v2 : Int32) (v3 : Int32) (μ : z_S), z_sim true rI mX9_both (D + 1 + 8) (f_X9_both_L8 N rc0 rc1 rc2 rc3 rc4 rc5 rc6 c1 n v2 v3 μ) 8 [(0, .ref 92), (1, .int c1), (2, .int v2), (3, .int v3)] [] μ
  | 0, _, _, _ => s_none
  | n + 1, v2, v3, μ => tb_X9_both_L8 N rc0 rc1 rc2 rc3 rc4 rc5 rc6 c1 D hrc0 hrc1 hrc2 hrc3 hrc4 hrc5 hrc6 (f_X9_both_L8 N rc0 rc1 rc2 rc3 rc4 rc5 rc6 c1 n) (t_X9_both_L8 N rc0 rc1 rc2 rc3 rc4 rc5 rc6 c1 D hrc0 hrc1 hrc2 hrc3 hrc4 hrc5 hrc6 n) v2 v3 μ
def g_X9_both (N : Nat) (rc0 : Int32 → z_S → Option (Int32 × z_S)) (rc1 : Int32 → z_S → Option (Int32 × z_S)) (rc2 : Int32 → z_S → Option (Int32 × z_S)) (rc3 : Int32 → z_S → Option (Int32 × z_S)) (rc4 : Int32 → z_S → Option (Int32 × z_S)) (rc5 : Int32 → z_S → Option (Int32 × z_S)) (rc6 : Int32 → z_S → Option (Int32 × z_S)) (a1 : Int32) (μ : z_S) : Option (Int32 × z_S) :=
  z_bn (rc2 a1 μ) fun x1 μ_1 => f_X9_both_L8 N rc0 rc1 rc2 rc3 rc4 rc5 rc6 a1 N x1 (0 : Int32) μ_1
theorem tg_X9_both (N : Nat) (D : Nat) (rc0 : Int32 → z_S → Option (Int32 × z_S)) (rc1 : Int32 → z_S → Option (Int32 × z_S)) (rc2 : Int32 → z_S → Option (Int32 × z_S)) (rc3 : Int32 → z_S → Option (Int32 × z_S)) (rc4 : Int32 → z_S → Option (Int32 × z_S)) (rc5 : Int32 → z_S → Option (Int32 × z_S)) (rc6 : Int32 → z_S → Option (Int32 × z_S)) (hrc0 : ∀ (x1 : Int32) (μ : z_S), z_met true rI mX9_test (D + 8) [.ref 92, .int x1] μ (rc0 x1 μ)) (hrc1 : ∀ (x1 : Int32) (μ : z_S), z_met true rI mX9_both (D + 8) [.ref 92, .int x1] μ (rc1 x1 μ)) (hrc2 : ∀ (x1 : Int32) (μ : z_S), z_met true rI mX9_fact (D + 8) [.ref 92, .int x1] μ (rc2 x1 μ)) (hrc3 : ∀ (x1 : Int32) (μ : z_S), z_met true rI mX9_sum (D + 8) [.ref 92, .int x1] μ (rc3 x1 μ)) (hrc4 : ∀ (x1 : Int32) (μ : z_S), z_met true rI mX9_product (D + 8) [.ref 92, .int x1] μ (rc4 x1 μ)) (hrc5 : ∀ (x1 : Int32) (μ : z_S), z_met true rI mX9_part (D + 8) [.ref 92, .int x1] μ (rc5 x1 μ)) (hrc6 : ∀ (x1 : Int32) (μ : z_S), z_met true rI mX9_choice (D + 8) [.ref 92, .int x1] μ (rc6 x1 μ)) (a1 : Int32) (μ : z_S) : z_met true rI mX9_both (D + 1 + 8) [.ref 92, .int a1] μ (g_X9_both N rc0 rc1 rc2 rc3 rc4 rc5 rc6 a1 μ) := by
  refine z_met.of (by decide +kernel) (by show _ ≤ _; first | decide | exact Nat.le_of_ble_eq_true rfl) (lv := [(0, .ref 92), (1, .int a1)]) rfl ?_
  unfold g_X9_both
  refine s_aload_n (pc := 0) 0 dX9_both_0 rfl rfl ?_
  refine s_iload_n (pc := 1) 1 dX9_both_1 rfl rfl ?_
  refine s_callVI (pc := 2) (as := [.int a1]) (st := []) dX9_both_2 lk_9_58 kd_92 (hrc2 a1 μ) (by omega) rfl (by decide) rfl (fun x1 μ_1 => ?_)
  refine s_istore_n (pc := 5) (lv' := [(2, .int x1), (0, .ref 92), (1, .int a1)]) dX9_both_5 rfl (by decide) rfl ?_
  refine s_iconst (pc := 6) (v := (0 : Int32)) dX9_both_6 (by decide) ?_
  refine s_istore_n (pc := 7) (lv' := [(3, .int (0 : Int32)), (2, .int x1), (0, .ref 92), (1, .int a1)]) dX9_both_7 rfl (by decide) rfl ?_
  refine s_sub (lv' := [(0, .ref 92), (1, .int a1), (2, .int x1), (3, .int (0 : Int32))]) [2, 3, 1, 0] rfl ?_
  refine t_X9_both_L8 N rc0 rc1 rc2 rc3 rc4 rc5 rc6 a1 D hrc0 hrc1 hrc2 hrc3 hrc4 hrc5 hrc6 N x1 (0 : Int32) μ_1
def f_X9_fact_B83 (N : Nat) (rc0 : Int32 → z_S → Option (Int32 × z_S)) (rc1 : Int32 → z_S → Option (Int32 × z_S)) (rc2 : Int32 → z_S → Option (Int32 × z_S)) (rc3 : Int32 → z_S → Option (Int32 × z_S)) (rc4 : Int32 → z_S → Option (Int32 × z_S)) (rc5 : Int32 → z_S → Option (Int32 × z_S)) (rc6 : Int32 → z_S → Option (Int32 × z_S)) (s0 : Int32) (μ : z_S) : Option (Int32 × z_S) :=
  z_bn (f_X0_add N 93 (-22 : Int32) μ) fun _ μ_5 => z_zb s0 (some (s0, μ_5))
theorem t_X9_fact_B83 (N : Nat) (rc0 : Int32 → z_S → Option (Int32 × z_S)) (rc1 : Int32 → z_S → Option (Int32 × z_S)) (rc2 : Int32 → z_S → Option (Int32 × z_S)) (rc3 : Int32 → z_S → Option (Int32 × z_S)) (rc4 : Int32 → z_S → Option (Int32 × z_S)) (rc5 : Int32 → z_S → Option (Int32 × z_S)) (rc6 : Int32 → z_S → Option (Int32 × z_S)) (D : Nat) (hrc0 : ∀ (x1 : Int32) (μ : z_S), z_met true rI mX9_test (D + 8) [.ref 92, .int x1] μ (rc0 x1 μ)) (hrc1 : ∀ (x1 : Int32) (μ : z_S), z_met true rI mX9_both (D + 8) [.ref 92, .int x1] μ (rc1 x1 μ)) (hrc2 : ∀ (x1 : Int32) (μ : z_S), z_met true rI mX9_fact (D + 8) [.ref 92, .int x1] μ (rc2 x1 μ)) (hrc3 : ∀ (x1 : Int32) (μ : z_S), z_met true rI mX9_sum (D + 8) [.ref 92, .int x1] μ (rc3 x1 μ)) (hrc4 : ∀ (x1 : Int32) (μ : z_S), z_met true rI mX9_product (D + 8) [.ref 92, .int x1] μ (rc4 x1 μ)) (hrc5 : ∀ (x1 : Int32) (μ : z_S), z_met true rI mX9_part (D + 8) [.ref 92, .int x1] μ (rc5 x1 μ)) (hrc6 : ∀ (x1 : Int32) (μ : z_S), z_met true rI mX9_choice (D + 8) [.ref 92, .int x1] μ (rc6 x1 μ))   (s0 : Int32)  (μ : z_S) : z_sim true rI mX9_fact (D + 1 + 8) (f_X9_fact_B83 N rc0 rc1 rc2 rc3 rc4 rc5 rc6  s0 μ) 83 [(0, .ref 92)] [.int s0] μ := by
  unfold f_X9_fact_B83
  refine s_istore_n (pc := 83) (lv' := [(2, .int s0), (0, .ref 92)]) dX9_fact_83 rfl (by decide) rfl ?_
  refine s_aload_n (pc := 84) 1 dX9_fact_84 rfl rfl ?_
  refine s_getR (pc := 85) (ci := 9) (k := 0) (r := 93) dX9_fact_85 fl_9_12 kd_92 rfl rs_92_0 ?_
  refine s_bipush (pc := 88) (v := (-22 : Int32)) dX9_fact_88 (by decide) ?_
  refine s_callVV (pc := 90) (as := [.int (-22 : Int32)]) (st := []) dX9_fact_90 lk_9_54 kd_93 (t_X0_add N 93 (-22 : Int32) μ) (by omega) rfl (by decide) rfl (fun _ μ_5 => ?_)
  refine s_iload_n (pc := 93) 0 dX9_fact_93 rfl rfl ?_
  exact s_zret (pc := 94) dX9_fact_94 rfl
def f_X9_fact_B82 (N : Nat) (rc0 : Int32 → z_S → Option (Int32 × z_S)) (rc1 : Int32 → z_S → Option (Int32 × z_S)) (rc2 : Int32 → z_S → Option (Int32 × z_S)) (rc3 : Int32 → z_S → Option (Int32 × z_S)) (rc4 : Int32 → z_S → Option (Int32 × z_S)) (rc5 : Int32 → z_S → Option (Int32 × z_S)) (rc6 : Int32 → z_S → Option (Int32 × z_S))  (μ : z_S) : Option (Int32 × z_S) :=
  f_X9_fact_B83 N rc0 rc1 rc2 rc3 rc4 rc5 rc6 (0 : Int32) μ
theorem t_X9_fact_B82 (N : Nat) (rc0 : Int32 → z_S → Option (Int32 × z_S)) (rc1 : Int32 → z_S → Option (Int32 × z_S)) (rc2 : Int32 → z_S → Option (Int32 × z_S)) (rc3 : Int32 → z_S → Option (Int32 × z_S)) (rc4 : Int32 → z_S → Option (Int32 × z_S)) (rc5 : Int32 → z_S → Option (Int32 × z_S)) (rc6 : Int32 → z_S → Option (Int32 × z_S)) (D : Nat) (hrc0 : ∀ (x1 : Int32) (μ : z_S), z_met true rI mX9_test (D + 8) [.ref 92, .int x1] μ (rc0 x1 μ)) (hrc1 : ∀ (x1 : Int32) (μ : z_S), z_met true rI mX9_both (D + 8) [.ref 92, .int x1] μ (rc1 x1 μ)) (hrc2 : ∀ (x1 : Int32) (μ : z_S), z_met true rI mX9_fact (D + 8) [.ref 92, .int x1] μ (rc2 x1 μ)) (hrc3 : ∀ (x1 : Int32) (μ : z_S), z_met true rI mX9_sum (D + 8) [.ref 92, .int x1] μ (rc3 x1 μ)) (hrc4 : ∀ (x1 : Int32) (μ : z_S), z_met true rI mX9_product (D + 8) [.ref 92, .int x1] μ (rc4 x1 μ)) (hrc5 : ∀ (x1 : Int32) (μ : z_S), z_met true rI mX9_part (D + 8) [.ref 92, .int x1] μ (rc5 x1 μ)) (hrc6 : ∀ (x1 : Int32) (μ : z_S), z_met true rI mX9_choice (D + 8) [.ref 92, .int x1] μ (rc6 x1 μ))     (μ : z_S) : z_sim true rI mX9_fact (D + 1 + 8) (f_X9_fact_B82 N rc0 rc1 rc2 rc3 rc4 rc5 rc6   μ) 82 [(0, .ref 92)] [] μ := by
  unfold f_X9_fact_B82
  refine s_iconst (pc := 82) (v := (0 : Int32)) dX9_fact_82 (by decide) ?_
  exact t_X9_fact_B83 N rc0 rc1 rc2 rc3 rc4 rc5 rc6 D hrc0 hrc1 hrc2 hrc3 hrc4 hrc5 hrc6 (0 : Int32) μ
def f_X9_fact_B210 (N : Nat) (rc0 : Int32 → z_S → Option (Int32 × z_S)) (rc1 : Int32 → z_S → Option (Int32 × z_S)) (rc2 : Int32 → z_S → Option (Int32 × z_S)) (rc3 : Int32 → z_S → Option (Int32 × z_S)) (rc4 : Int32 → z_S → Option (Int32 × z_S)) (rc5 : Int32 → z_S → Option (Int32 × z_S)) (rc6 : Int32 → z_S → Option (Int32 × z_S)) (v3 : Int32) (s0 : Int32) (μ : z_S) : Option (Int32 × z_S) :=
  z_bn (f_X0_add N 93 s0 μ) fun _ μ_12 => z_zb v3 (some (v3, μ_12))
theorem t_X9_fact_B210 (N : Nat) (rc0 : Int32 → z_S → Option (Int32 × z_S)) (rc1 : Int32 → z_S → Option (Int32 × z_S)) (rc2 : Int32 → z_S → Option (Int32 × z_S)) (rc3 : Int32 → z_S → Option (Int32 × z_S)) (rc4 : Int32 → z_S → Option (Int32 × z_S)) (rc5 : Int32 → z_S → Option (Int32 × z_S)) (rc6 : Int32 → z_S → Option (Int32 × z_S)) (D : Nat) (hrc0 : ∀ (x1 : Int32) (μ : z_S), z_met true rI mX9_test (D + 8) [.ref 92, .int x1] μ (rc0 x1 μ)) (hrc1 : ∀ (x1 : Int32) (μ : z_S), z_met true rI mX9_both (D + 8) [.ref 92, .int x1] μ (rc1 x1 μ)) (hrc2 : ∀ (x1 : Int32) (μ : z_S), z_met true rI mX9_fact (D + 8) [.ref 92, .int x1] μ (rc2 x1 μ)) (hrc3 : ∀ (x1 : Int32) (μ : z_S), z_met true rI mX9_sum (D + 8) [.ref 92, .int x1] μ (rc3 x1 μ)) (hrc4 : ∀ (x1 : Int32) (μ : z_S), z_met true rI mX9_product (D + 8) [.ref 92, .int x1] μ (rc4 x1 μ)) (hrc5 : ∀ (x1 : Int32) (μ : z_S), z_met true rI mX9_part (D + 8) [.ref 92, .int x1] μ (rc5 x1 μ)) (hrc6 : ∀ (x1 : Int32) (μ : z_S), z_met true rI mX9_choice (D + 8) [.ref 92, .int x1] μ (rc6 x1 μ))   (v3 : Int32) (s0 : Int32)  (μ : z_S) : z_sim true rI mX9_fact (D + 1 + 8) (f_X9_fact_B210 N rc0 rc1 rc2 rc3 rc4 rc5 rc6  v3 s0 μ) 210 [(3, .int v3)] [.int s0, .ref 93] μ := by
  unfold f_X9_fact_B210
  refine s_callVV (pc := 210) (as := [.int s0]) (st := []) dX9_fact_210 lk_9_54 kd_93 (t_X0_add N 93 s0 μ) (by omega) rfl (by decide) rfl (fun _ μ_12 => ?_)
  refine s_iload_n (pc := 213) 0 dX9_fact_213 rfl rfl ?_
  exact s_zret (pc := 214) dX9_fact_214 rfl
def f_X9_fact_B169 (N : Nat) (rc0 : Int32 → z_S → Option (Int32 × z_S)) (rc1 : Int32 → z_S → Option (Int32 × z_S)) (rc2 : Int32 → z_S → Option (Int32 × z_S)) (rc3 : Int32 → z_S → Option (Int32 × z_S)) (rc4 : Int32 → z_S → Option (Int32 × z_S)) (rc5 : Int32 → z_S → Option (Int32 × z_S)) (rc6 : Int32 → z_S → Option (Int32 × z_S)) (v1 : Int32) (v2 : Int32) (μ : z_S) : Option (Int32 × z_S) :=
  z_bn (f_X10_next N μ) fun _ μ_10 => z_bn (rc3 v1 μ_10) fun x8 μ_11 => if v2 = (60 : Int32) then (f_X9_fact_B210 N rc0 rc1 rc2 rc3 rc4 rc5 rc6 x8 (-17 : Int32) μ_11) else if v2 = (62 : Int32) then (f_X9_fact_B210 N rc0 rc1 rc2 rc3 rc4 rc5 rc6 x8 (-18 : Int32) μ_11) else f_X9_fact_B210 N rc0 rc1 rc2 rc3 rc4 rc5 rc6 x8 (-19 : Int32) μ_11
theorem t_X9_fact_B169 (N : Nat) (rc0 : Int32 → z_S → Option (Int32 × z_S)) (rc1 : Int32 → z_S → Option (Int32 × z_S)) (rc2 : Int32 → z_S → Option (Int32 × z_S)) (rc3 : Int32 → z_S → Option (Int32 × z_S)) (rc4 : Int32 → z_S → Option (Int32 × z_S)) (rc5 : Int32 → z_S → Option (Int32 × z_S)) (rc6 : Int32 → z_S → Option (Int32 × z_S)) (D : Nat) (hrc0 : ∀ (x1 : Int32) (μ : z_S), z_met true rI mX9_test (D + 8) [.ref 92, .int x1] μ (rc0 x1 μ)) (hrc1 : ∀ (x1 : Int32) (μ : z_S), z_met true rI mX9_both (D + 8) [.ref 92, .int x1] μ (rc1 x1 μ)) (hrc2 : ∀ (x1 : Int32) (μ : z_S), z_met true rI mX9_fact (D + 8) [.ref 92, .int x1] μ (rc2 x1 μ)) (hrc3 : ∀ (x1 : Int32) (μ : z_S), z_met true rI mX9_sum (D + 8) [.ref 92, .int x1] μ (rc3 x1 μ)) (hrc4 : ∀ (x1 : Int32) (μ : z_S), z_met true rI mX9_product (D + 8) [.ref 92, .int x1] μ (rc4 x1 μ)) (hrc5 : ∀ (x1 : Int32) (μ : z_S), z_met true rI mX9_part (D + 8) [.ref 92, .int x1] μ (rc5 x1 μ)) (hrc6 : ∀ (x1 : Int32) (μ : z_S), z_met true rI mX9_choice (D + 8) [.ref 92, .int x1] μ (rc6 x1 μ))   (v1 : Int32) (v2 : Int32)  (μ : z_S) : z_sim true rI mX9_fact (D + 1 + 8) (f_X9_fact_B169 N rc0 rc1 rc2 rc3 rc4 rc5 rc6  v1 v2 μ) 169 [(0, .ref 92), (1, .int v1), (2, .int v2)] [] μ := by
  unfold f_X9_fact_B169
  refine s_aload_n (pc := 169) 0 dX9_fact_169 rfl rfl ?_
  refine s_getR (pc := 170) (ci := 9) (k := 1) (r := 1) dX9_fact_170 fl_9_18 kd_92 rfl rs_92_1 ?_
  refine s_callVV (pc := 173) (as := []) (st := []) dX9_fact_173 lk_9_51 kd_1 (t_X10_next N μ) (by omega) rfl (by decide) rfl (fun _ μ_10 => ?_)
  refine s_aload_n (pc := 176) 0 dX9_fact_176 rfl rfl ?_
  refine s_iload_n (pc := 177) 1 dX9_fact_177 rfl rfl ?_
  refine s_callVI (pc := 178) (as := [.int v1]) (st := []) dX9_fact_178 lk_9_30 kd_92 (hrc3 v1 μ_10) (by omega) rfl (by decide) rfl (fun x8 μ_11 => ?_)
  refine s_istore_n (pc := 181) (lv' := [(3, .int x8), (0, .ref 92), (1, .int v1), (2, .int v2)]) dX9_fact_181 rfl (by decide) rfl ?_
  refine s_aload_n (pc := 182) 1 dX9_fact_182 rfl rfl ?_
  refine s_getR (pc := 183) (ci := 9) (k := 0) (r := 93) dX9_fact_183 fl_9_12 kd_92 rfl rs_92_0 ?_
  refine s_iload_n (pc := 186) 3 dX9_fact_186 rfl rfl ?_
  refine s_bipush (pc := 187) (v := (60 : Int32)) dX9_fact_187 (by decide) ?_
  refine s_icmp_ne (pc := 189) (tgt := 197) dX9_fact_189 (by decide) ?_ ?_
  · refine s_bipush (pc := 192) (v := (-17 : Int32)) dX9_fact_192 (by decide) ?_
    refine s_goto (pc := 194) (tgt := 210) dX9_fact_194 (by decide) ?_
    refine s_sub (lv' := [(3, .int x8)]) [0] rfl ?_
    exact t_X9_fact_B210 N rc0 rc1 rc2 rc3 rc4 rc5 rc6 D hrc0 hrc1 hrc2 hrc3 hrc4 hrc5 hrc6 x8 (-17 : Int32) μ_11
  · refine s_iload_n (pc := 197) 3 dX9_fact_197 rfl rfl ?_
    refine s_bipush (pc := 198) (v := (62 : Int32)) dX9_fact_198 (by decide) ?_
    refine s_icmp_ne (pc := 200) (tgt := 208) dX9_fact_200 (by decide) ?_ ?_
    · refine s_bipush (pc := 203) (v := (-18 : Int32)) dX9_fact_203 (by decide) ?_
      refine s_goto (pc := 205) (tgt := 210) dX9_fact_205 (by decide) ?_
      refine s_sub (lv' := [(3, .int x8)]) [0] rfl ?_
      exact t_X9_fact_B210 N rc0 rc1 rc2 rc3 rc4 rc5 rc6 D hrc0 hrc1 hrc2 hrc3 hrc4 hrc5 hrc6 x8 (-18 : Int32) μ_11
    · refine s_bipush (pc := 208) (v := (-19 : Int32)) dX9_fact_208 (by decide) ?_
      refine s_sub (lv' := [(3, .int x8)]) [0] rfl ?_
      exact t_X9_fact_B210 N rc0 rc1 rc2 rc3 rc4 rc5 rc6 D hrc0 hrc1 hrc2 hrc3 hrc4 hrc5 hrc6 x8 (-19 : Int32) μ_11
def g_X9_fact (N : Nat) (rc0 : Int32 → z_S → Option (Int32 × z_S)) (rc1 : Int32 → z_S → Option (Int32 × z_S)) (rc2 : Int32 → z_S → Option (Int32 × z_S)) (rc3 : Int32 → z_S → Option (Int32 × z_S)) (rc4 : Int32 → z_S → Option (Int32 × z_S)) (rc5 : Int32 → z_S → Option (Int32 × z_S)) (rc6 : Int32 → z_S → Option (Int32 × z_S)) (a1 : Int32) (μ : z_S) : Option (Int32 × z_S) :=
  if (μ.1 1 6) = (91 : Int32) then (z_bn (f_X9_opens N a1 μ) fun x1 μ_1 => if x1 = 0 then (some ((0 : Int32), μ_1)) else z_bn (rc0 (a1 + (1 : Int32)) μ_1) fun x2 μ_2 => if x2 = 0 then (some ((0 : Int32), μ_2)) else z_bn (f_X10_takeSign N (93 : Int32) μ_2) fun x3 μ_3 => if x3 = 0 then (some ((0 : Int32), μ_3)) else some ((1 : Int32), μ_3)) else if (μ.1 1 7) = (24 : Int32) then (z_bn (f_X9_opens N a1 μ) fun x4 μ_4 => if x4 = 0 then (f_X9_fact_B82 N rc0 rc1 rc2 rc3 rc4 rc5 rc6 μ_4) else z_bn (rc2 (a1 + (1 : Int32)) μ_4) fun x5 μ_6 => if x5 = 0 then (f_X9_fact_B82 N rc0 rc1 rc2 rc3 rc4 rc5 rc6 μ_6) else f_X9_fact_B83 N rc0 rc1 rc2 rc3 rc4 rc5 rc6 (1 : Int32) μ_6) else if (μ.1 1 7) = (25 : Int32) then (z_bn (f_X10_next N μ) fun _ μ_7 => z_bn (f_X0_add N 93 (1 : Int32) μ_7) fun _ μ_8 => some ((1 : Int32), μ_8)) else z_bn (rc3 a1 μ) fun x6 μ_9 => if x6 = 0 then (some ((0 : Int32), μ_9)) else z_bd (μ_9.1 1 6) fun x7 => if x7 = (60 : Int32) then (f_X9_fact_B169 N rc0 rc1 rc2 rc3 rc4 rc5 rc6 a1 x7 μ_9) else if x7 = (62 : Int32) then (f_X9_fact_B169 N rc0 rc1 rc2 rc3 rc4 rc5 rc6 a1 x7 μ_9) else if x7 = (61 : Int32) then (f_X9_fact_B169 N rc0 rc1 rc2 rc3 rc4 rc5 rc6 a1 x7 μ_9) else z_bn (f_X10_fail N (1 : Int32) μ_9) fun x9 μ_13 => z_zb x9 (some (x9, μ_13))
theorem tg_X9_fact (N : Nat) (D : Nat) (rc0 : Int32 → z_S → Option (Int32 × z_S)) (rc1 : Int32 → z_S → Option (Int32 × z_S)) (rc2 : Int32 → z_S → Option (Int32 × z_S)) (rc3 : Int32 → z_S → Option (Int32 × z_S)) (rc4 : Int32 → z_S → Option (Int32 × z_S)) (rc5 : Int32 → z_S → Option (Int32 × z_S)) (rc6 : Int32 → z_S → Option (Int32 × z_S)) (hrc0 : ∀ (x1 : Int32) (μ : z_S), z_met true rI mX9_test (D + 8) [.ref 92, .int x1] μ (rc0 x1 μ)) (hrc1 : ∀ (x1 : Int32) (μ : z_S), z_met true rI mX9_both (D + 8) [.ref 92, .int x1] μ (rc1 x1 μ)) (hrc2 : ∀ (x1 : Int32) (μ : z_S), z_met true rI mX9_fact (D + 8) [.ref 92, .int x1] μ (rc2 x1 μ)) (hrc3 : ∀ (x1 : Int32) (μ : z_S), z_met true rI mX9_sum (D + 8) [.ref 92, .int x1] μ (rc3 x1 μ)) (hrc4 : ∀ (x1 : Int32) (μ : z_S), z_met true rI mX9_product (D + 8) [.ref 92, .int x1] μ (rc4 x1 μ)) (hrc5 : ∀ (x1 : Int32) (μ : z_S), z_met true rI mX9_part (D + 8) [.ref 92, .int x1] μ (rc5 x1 μ)) (hrc6 : ∀ (x1 : Int32) (μ : z_S), z_met true rI mX9_choice (D + 8) [.ref 92, .int x1] μ (rc6 x1 μ)) (a1 : Int32) (μ : z_S) : z_met true rI mX9_fact (D + 1 + 8) [.ref 92, .int a1] μ (g_X9_fact N rc0 rc1 rc2 rc3 rc4 rc5 rc6 a1 μ) := by
  refine z_met.of (by decide +kernel) (by show _ ≤ _; first | decide | exact Nat.le_of_ble_eq_true rfl) (lv := [(0, .ref 92), (1, .int a1)]) rfl ?_
  unfold g_X9_fact
  refine s_aload_n (pc := 0) 0 dX9_fact_0 rfl rfl ?_
  refine s_getR (pc := 1) (ci := 9) (k := 1) (r := 1) dX9_fact_1 fl_9_18 kd_92 rfl rs_92_1 ?_
  refine s_getI (pc := 4) (ci := 10) (k := 6) dX9_fact_4 fl_9_61 kd_1 rfl ?_
  refine s_bipush (pc := 7) (v := (91 : Int32)) dX9_fact_7 (by decide) ?_
  refine s_icmp_ne (pc := 9) (tgt := 48) dX9_fact_9 (by decide) ?_ ?_
  · refine s_aload_n (pc := 12) 0 dX9_fact_12 rfl rfl ?_
    refine s_iload_n (pc := 13) 1 dX9_fact_13 rfl rfl ?_
    refine s_callVI (pc := 14) (as := [.int a1]) (st := []) dX9_fact_14 lk_9_64 kd_92 (t_X9_opens N a1 μ) (by omega) rfl (by decide) rfl (fun x1 μ_1 => ?_)
    refine s_if_eq (pc := 17) (tgt := 46) dX9_fact_17 (by decide) ?_ ?_
    · refine s_iconst (pc := 46) (v := (0 : Int32)) dX9_fact_46 (by decide) ?_
      exact s_zret0 (pc := 47) dX9_fact_47 rfl rfl
    · refine s_aload_n (pc := 20) 0 dX9_fact_20 rfl rfl ?_
      refine s_iload_n (pc := 21) 1 dX9_fact_21 rfl rfl ?_
      refine s_iconst (pc := 22) (v := (1 : Int32)) dX9_fact_22 (by decide) ?_
      refine s_iadd (pc := 23) dX9_fact_23 ?_
      refine s_callVI (pc := 24) (as := [.int (a1 + (1 : Int32))]) (st := []) dX9_fact_24 lk_9_40 kd_92 (hrc0 (a1 + (1 : Int32)) μ_1) (by omega) rfl (by decide) rfl (fun x2 μ_2 => ?_)
      refine s_if_eq (pc := 27) (tgt := 46) dX9_fact_27 (by decide) ?_ ?_
      · refine s_iconst (pc := 46) (v := (0 : Int32)) dX9_fact_46 (by decide) ?_
        exact s_zret0 (pc := 47) dX9_fact_47 rfl rfl
      · refine s_aload_n (pc := 30) 0 dX9_fact_30 rfl rfl ?_
        refine s_getR (pc := 31) (ci := 9) (k := 1) (r := 1) dX9_fact_31 fl_9_18 kd_92 rfl rs_92_1 ?_
        refine s_bipush (pc := 34) (v := (93 : Int32)) dX9_fact_34 (by decide) ?_
        refine s_callVI (pc := 36) (as := [.int (93 : Int32)]) (st := []) dX9_fact_36 lk_9_67 kd_1 (t_X10_takeSign N (93 : Int32) μ_2) (by omega) rfl (by decide) rfl (fun x3 μ_3 => ?_)
        refine s_if_eq (pc := 39) (tgt := 46) dX9_fact_39 (by decide) ?_ ?_
        · refine s_iconst (pc := 46) (v := (0 : Int32)) dX9_fact_46 (by decide) ?_
          exact s_zret0 (pc := 47) dX9_fact_47 rfl rfl
        · refine s_iconst (pc := 42) (v := (1 : Int32)) dX9_fact_42 (by decide) ?_
          refine s_goto (pc := 43) (tgt := 47) dX9_fact_43 (by decide) ?_
          exact s_zret0 (pc := 47) dX9_fact_47 rfl rfl
  · refine s_aload_n (pc := 48) 0 dX9_fact_48 rfl rfl ?_
    refine s_getR (pc := 49) (ci := 9) (k := 1) (r := 1) dX9_fact_49 fl_9_18 kd_92 rfl rs_92_1 ?_
    refine s_getI (pc := 52) (ci := 10) (k := 7) dX9_fact_52 fl_9_46 kd_1 rfl ?_
    refine s_bipush (pc := 55) (v := (24 : Int32)) dX9_fact_55 (by decide) ?_
    refine s_icmp_ne (pc := 57) (tgt := 95) dX9_fact_57 (by decide) ?_ ?_
    · refine s_aload_n (pc := 60) 0 dX9_fact_60 rfl rfl ?_
      refine s_iload_n (pc := 61) 1 dX9_fact_61 rfl rfl ?_
      refine s_callVI (pc := 62) (as := [.int a1]) (st := []) dX9_fact_62 lk_9_64 kd_92 (t_X9_opens N a1 μ) (by omega) rfl (by decide) rfl (fun x4 μ_4 => ?_)
      refine s_if_eq (pc := 65) (tgt := 82) dX9_fact_65 (by decide) ?_ ?_
      · refine s_sub (lv' := [(0, .ref 92)]) [0] rfl ?_
        exact t_X9_fact_B82 N rc0 rc1 rc2 rc3 rc4 rc5 rc6 D hrc0 hrc1 hrc2 hrc3 hrc4 hrc5 hrc6 μ_4
      · refine s_aload_n (pc := 68) 0 dX9_fact_68 rfl rfl ?_
        refine s_iload_n (pc := 69) 1 dX9_fact_69 rfl rfl ?_
        refine s_iconst (pc := 70) (v := (1 : Int32)) dX9_fact_70 (by decide) ?_
        refine s_iadd (pc := 71) dX9_fact_71 ?_
        refine s_callVI (pc := 72) (as := [.int (a1 + (1 : Int32))]) (st := []) dX9_fact_72 lk_9_58 kd_92 (hrc2 (a1 + (1 : Int32)) μ_4) (by omega) rfl (by decide) rfl (fun x5 μ_6 => ?_)
        refine s_if_eq (pc := 75) (tgt := 82) dX9_fact_75 (by decide) ?_ ?_
        · refine s_sub (lv' := [(0, .ref 92)]) [0] rfl ?_
          exact t_X9_fact_B82 N rc0 rc1 rc2 rc3 rc4 rc5 rc6 D hrc0 hrc1 hrc2 hrc3 hrc4 hrc5 hrc6 μ_6
        · refine s_iconst (pc := 78) (v := (1 : Int32)) dX9_fact_78 (by decide) ?_
          refine s_goto (pc := 79) (tgt := 83) dX9_fact_79 (by decide) ?_
          refine s_sub (lv' := [(0, .ref 92)]) [0] rfl ?_
          exact t_X9_fact_B83 N rc0 rc1 rc2 rc3 rc4 rc5 rc6 D hrc0 hrc1 hrc2 hrc3 hrc4 hrc5 hrc6 (1 : Int32) μ_6
    · refine s_aload_n (pc := 95) 0 dX9_fact_95 rfl rfl ?_
      refine s_getR (pc := 96) (ci := 9) (k := 1) (r := 1) dX9_fact_96 fl_9_18 kd_92 rfl rs_92_1 ?_
      refine s_getI (pc := 99) (ci := 10) (k := 7) dX9_fact_99 fl_9_46 kd_1 rfl ?_
      refine s_bipush (pc := 102) (v := (25 : Int32)) dX9_fact_102 (by decide) ?_
      refine s_icmp_ne (pc := 104) (tgt := 124) dX9_fact_104 (by decide) ?_ ?_
      · refine s_aload_n (pc := 107) 0 dX9_fact_107 rfl rfl ?_
        refine s_getR (pc := 108) (ci := 9) (k := 1) (r := 1) dX9_fact_108 fl_9_18 kd_92 rfl rs_92_1 ?_
        refine s_callVV (pc := 111) (as := []) (st := []) dX9_fact_111 lk_9_51 kd_1 (t_X10_next N μ) (by omega) rfl (by decide) rfl (fun _ μ_7 => ?_)
        refine s_aload_n (pc := 114) 0 dX9_fact_114 rfl rfl ?_
        refine s_getR (pc := 115) (ci := 9) (k := 0) (r := 93) dX9_fact_115 fl_9_12 kd_92 rfl rs_92_0 ?_
        refine s_iconst (pc := 118) (v := (1 : Int32)) dX9_fact_118 (by decide) ?_
        refine s_callVV (pc := 119) (as := [.int (1 : Int32)]) (st := []) dX9_fact_119 lk_9_54 kd_93 (t_X0_add N 93 (1 : Int32) μ_7) (by omega) rfl (by decide) rfl (fun _ μ_8 => ?_)
        refine s_iconst (pc := 122) (v := (1 : Int32)) dX9_fact_122 (by decide) ?_
        exact s_zret0 (pc := 123) dX9_fact_123 rfl rfl
      · refine s_aload_n (pc := 124) 0 dX9_fact_124 rfl rfl ?_
        refine s_iload_n (pc := 125) 1 dX9_fact_125 rfl rfl ?_
        refine s_callVI (pc := 126) (as := [.int a1]) (st := []) dX9_fact_126 lk_9_30 kd_92 (hrc3 a1 μ) (by omega) rfl (by decide) rfl (fun x6 μ_9 => ?_)
        refine s_if_ne (pc := 129) (tgt := 134) dX9_fact_129 (by decide) ?_ ?_
        · refine s_iconst (pc := 132) (v := (0 : Int32)) dX9_fact_132 (by decide) ?_
          exact s_zret0 (pc := 133) dX9_fact_133 rfl rfl
        · refine s_aload_n (pc := 134) 0 dX9_fact_134 rfl rfl ?_
          refine s_getR (pc := 135) (ci := 9) (k := 1) (r := 1) dX9_fact_135 fl_9_18 kd_92 rfl rs_92_1 ?_
          refine s_getI (pc := 138) (ci := 10) (k := 6) dX9_fact_138 fl_9_61 kd_1 rfl ?_
          refine s_letI (fun x7 => ?_)
          refine s_istore_n (pc := 141) (lv' := [(2, .int x7), (0, .ref 92), (1, .int a1)]) dX9_fact_141 rfl (by decide) rfl ?_
          refine s_iload_n (pc := 142) 0 dX9_fact_142 rfl rfl ?_
          refine s_bipush (pc := 143) (v := (60 : Int32)) dX9_fact_143 (by decide) ?_
          refine s_icmp_eq (pc := 145) (tgt := 169) dX9_fact_145 (by decide) ?_ ?_
          · refine s_sub (lv' := [(0, .ref 92), (1, .int a1), (2, .int x7)]) [1, 2, 0] rfl ?_
            exact t_X9_fact_B169 N rc0 rc1 rc2 rc3 rc4 rc5 rc6 D hrc0 hrc1 hrc2 hrc3 hrc4 hrc5 hrc6 a1 x7 μ_9
          · refine s_iload_n (pc := 148) 0 dX9_fact_148 rfl rfl ?_
            refine s_bipush (pc := 149) (v := (62 : Int32)) dX9_fact_149 (by decide) ?_
            refine s_icmp_eq (pc := 151) (tgt := 169) dX9_fact_151 (by decide) ?_ ?_
            · refine s_sub (lv' := [(0, .ref 92), (1, .int a1), (2, .int x7)]) [1, 2, 0] rfl ?_
              exact t_X9_fact_B169 N rc0 rc1 rc2 rc3 rc4 rc5 rc6 D hrc0 hrc1 hrc2 hrc3 hrc4 hrc5 hrc6 a1 x7 μ_9
            · refine s_iload_n (pc := 154) 0 dX9_fact_154 rfl rfl ?_
              refine s_bipush (pc := 155) (v := (61 : Int32)) dX9_fact_155 (by decide) ?_
              refine s_icmp_eq (pc := 157) (tgt := 169) dX9_fact_157 (by decide) ?_ ?_
              · refine s_sub (lv' := [(0, .ref 92), (1, .int a1), (2, .int x7)]) [1, 2, 0] rfl ?_
                exact t_X9_fact_B169 N rc0 rc1 rc2 rc3 rc4 rc5 rc6 D hrc0 hrc1 hrc2 hrc3 hrc4 hrc5 hrc6 a1 x7 μ_9
              · refine s_aload_n (pc := 160) 1 dX9_fact_160 rfl rfl ?_
                refine s_getR (pc := 161) (ci := 9) (k := 1) (r := 1) dX9_fact_161 fl_9_18 kd_92 rfl rs_92_1 ?_
                refine s_iconst (pc := 164) (v := (1 : Int32)) dX9_fact_164 (by decide) ?_
                refine s_callVI (pc := 165) (as := [.int (1 : Int32)]) (st := []) dX9_fact_165 lk_9_70 kd_1 (t_X10_fail N (1 : Int32) μ_9) (by omega) rfl (by decide) rfl (fun x9 μ_13 => ?_)
                exact s_zret (pc := 168) dX9_fact_168 rfl
def f_X9_sum_B62 (N : Nat) (rc0 : Int32 → z_S → Option (Int32 × z_S)) (rc1 : Int32 → z_S → Option (Int32 × z_S)) (rc2 : Int32 → z_S → Option (Int32 × z_S)) (rc3 : Int32 → z_S → Option (Int32 × z_S)) (rc4 : Int32 → z_S → Option (Int32 × z_S)) (rc5 : Int32 → z_S → Option (Int32 × z_S)) (rc6 : Int32 → z_S → Option (Int32 × z_S)) (c1 : Int32) (kb : Int32 → Int32 → z_S → Option (Int32 × z_S)) (v3 : Int32) (s0 : Int32) (μ : z_S) : Option (Int32 × z_S) :=
  z_bn (f_X10_next N μ) fun _ μ_2 => z_bn (rc4 c1 μ_2) fun x2 μ_3 => z_bn (f_X0_add N 93 s0 μ_3) fun _ μ_4 => z_bd (v3 + 1) fun x3 => kb x2 x3 μ_4
theorem t_X9_sum_B62 (N : Nat) (rc0 : Int32 → z_S → Option (Int32 × z_S)) (rc1 : Int32 → z_S → Option (Int32 × z_S)) (rc2 : Int32 → z_S → Option (Int32 × z_S)) (rc3 : Int32 → z_S → Option (Int32 × z_S)) (rc4 : Int32 → z_S → Option (Int32 × z_S)) (rc5 : Int32 → z_S → Option (Int32 × z_S)) (rc6 : Int32 → z_S → Option (Int32 × z_S)) (c1 : Int32) (D : Nat) (hrc0 : ∀ (x1 : Int32) (μ : z_S), z_met true rI mX9_test (D + 8) [.ref 92, .int x1] μ (rc0 x1 μ)) (hrc1 : ∀ (x1 : Int32) (μ : z_S), z_met true rI mX9_both (D + 8) [.ref 92, .int x1] μ (rc1 x1 μ)) (hrc2 : ∀ (x1 : Int32) (μ : z_S), z_met true rI mX9_fact (D + 8) [.ref 92, .int x1] μ (rc2 x1 μ)) (hrc3 : ∀ (x1 : Int32) (μ : z_S), z_met true rI mX9_sum (D + 8) [.ref 92, .int x1] μ (rc3 x1 μ)) (hrc4 : ∀ (x1 : Int32) (μ : z_S), z_met true rI mX9_product (D + 8) [.ref 92, .int x1] μ (rc4 x1 μ)) (hrc5 : ∀ (x1 : Int32) (μ : z_S), z_met true rI mX9_part (D + 8) [.ref 92, .int x1] μ (rc5 x1 μ)) (hrc6 : ∀ (x1 : Int32) (μ : z_S), z_met true rI mX9_choice (D + 8) [.ref 92, .int x1] μ (rc6 x1 μ)) (kb : Int32 → Int32 → z_S → Option (Int32 × z_S)) (hkb : ∀ (a2 : Int32) (a3 : Int32) (μ : z_S), z_sim true rI mX9_sum (D + 1 + 8) (kb a2 a3 μ) 8 [(0, .ref 92), (1, .int c1), (2, .int a2), (3, .int a3)] [] μ) (v3 : Int32) (s0 : Int32)  (μ : z_S) : z_sim true rI mX9_sum (D + 1 + 8) (f_X9_sum_B62 N rc0 rc1 rc2 rc3 rc4 rc5 rc6 c1 kb v3 s0 μ) 62 [(0, .ref 92), (1, .int c1), (3, .int v3)] [.int s0] μ := by
  unfold f_X9_sum_B62
  refine s_istore (pc := 62) (lv' := [(4, .int s0), (0, .ref 92), (1, .int c1), (3, .int v3)]) dX9_sum_62 (by decide) rfl ?_
  refine s_aload_n (pc := 64) 1 dX9_sum_64 rfl rfl ?_
  refine s_getR (pc := 65) (ci := 9) (k := 1) (r := 1) dX9_sum_65 fl_9_18 kd_92 rfl rs_92_1 ?_
  refine s_callVV (pc := 68) (as := []) (st := []) dX9_sum_68 lk_9_51 kd_1 (t_X10_next N μ) (by omega) rfl (by decide) rfl (fun _ μ_2 => ?_)
  refine s_aload_n (pc := 71) 1 dX9_sum_71 rfl rfl ?_
  refine s_iload_n (pc := 72) 2 dX9_sum_72 rfl rfl ?_
  refine s_callVI (pc := 73) (as := [.int c1]) (st := []) dX9_sum_73 lk_9_73 kd_92 (hrc4 c1 μ_2) (by omega) rfl (by decide) rfl (fun x2 μ_3 => ?_)
  refine s_istore_n (pc := 76) (lv' := [(2, .int x2), (4, .int s0), (0, .ref 92), (1, .int c1), (3, .int v3)]) dX9_sum_76 rfl (by decide) rfl ?_
  refine s_aload_n (pc := 77) 2 dX9_sum_77 rfl rfl ?_
  refine s_getR (pc := 78) (ci := 9) (k := 0) (r := 93) dX9_sum_78 fl_9_12 kd_92 rfl rs_92_0 ?_
  refine s_iload (pc := 81) 1 dX9_sum_81 rfl ?_
  refine s_callVV (pc := 83) (as := [.int s0]) (st := []) dX9_sum_83 lk_9_54 kd_93 (t_X0_add N 93 s0 μ_3) (by omega) rfl (by decide) rfl (fun _ μ_4 => ?_)
  refine s_iincB (pc := 86) (lv' := fun x3 => [(3, .int x3), (2, .int x2), (4, .int s0), (0, .ref 92), (1, .int c1)]) (c := 1) 4 dX9_sum_86 rfl (by decide) (by decide) (fun _ => rfl) (fun x3 => ?_)
  refine s_goto (pc := 89) (tgt := 8) dX9_sum_89 (by decide) ?_
  refine s_sub (lv' := [(0, .ref 92), (1, .int c1), (2, .int x2), (3, .int x3)]) [3, 4, 1, 0] rfl ?_
  exact hkb x2 x3 μ_4
def f_X9_sum_B43 (N : Nat) (rc0 : Int32 → z_S → Option (Int32 × z_S)) (rc1 : Int32 → z_S → Option (Int32 × z_S)) (rc2 : Int32 → z_S → Option (Int32 × z_S)) (rc3 : Int32 → z_S → Option (Int32 × z_S)) (rc4 : Int32 → z_S → Option (Int32 × z_S)) (rc5 : Int32 → z_S → Option (Int32 × z_S)) (rc6 : Int32 → z_S → Option (Int32 × z_S)) (c1 : Int32) (kb : Int32 → Int32 → z_S → Option (Int32 × z_S)) (v3 : Int32) (μ : z_S) : Option (Int32 × z_S) :=
  if (μ.1 1 6) = (43 : Int32) then (f_X9_sum_B62 N rc0 rc1 rc2 rc3 rc4 rc5 rc6 c1 kb v3 (-11 : Int32) μ) else f_X9_sum_B62 N rc0 rc1 rc2 rc3 rc4 rc5 rc6 c1 kb v3 (-12 : Int32) μ
theorem t_X9_sum_B43 (N : Nat) (rc0 : Int32 → z_S → Option (Int32 × z_S)) (rc1 : Int32 → z_S → Option (Int32 × z_S)) (rc2 : Int32 → z_S → Option (Int32 × z_S)) (rc3 : Int32 → z_S → Option (Int32 × z_S)) (rc4 : Int32 → z_S → Option (Int32 × z_S)) (rc5 : Int32 → z_S → Option (Int32 × z_S)) (rc6 : Int32 → z_S → Option (Int32 × z_S)) (c1 : Int32) (D : Nat) (hrc0 : ∀ (x1 : Int32) (μ : z_S), z_met true rI mX9_test (D + 8) [.ref 92, .int x1] μ (rc0 x1 μ)) (hrc1 : ∀ (x1 : Int32) (μ : z_S), z_met true rI mX9_both (D + 8) [.ref 92, .int x1] μ (rc1 x1 μ)) (hrc2 : ∀ (x1 : Int32) (μ : z_S), z_met true rI mX9_fact (D + 8) [.ref 92, .int x1] μ (rc2 x1 μ)) (hrc3 : ∀ (x1 : Int32) (μ : z_S), z_met true rI mX9_sum (D + 8) [.ref 92, .int x1] μ (rc3 x1 μ)) (hrc4 : ∀ (x1 : Int32) (μ : z_S), z_met true rI mX9_product (D + 8) [.ref 92, .int x1] μ (rc4 x1 μ)) (hrc5 : ∀ (x1 : Int32) (μ : z_S), z_met true rI mX9_part (D + 8) [.ref 92, .int x1] μ (rc5 x1 μ)) (hrc6 : ∀ (x1 : Int32) (μ : z_S), z_met true rI mX9_choice (D + 8) [.ref 92, .int x1] μ (rc6 x1 μ)) (kb : Int32 → Int32 → z_S → Option (Int32 × z_S)) (hkb : ∀ (a2 : Int32) (a3 : Int32) (μ : z_S), z_sim true rI mX9_sum (D + 1 + 8) (kb a2 a3 μ) 8 [(0, .ref 92), (1, .int c1), (2, .int a2), (3, .int a3)] [] μ) (v3 : Int32)  (μ : z_S) : z_sim true rI mX9_sum (D + 1 + 8) (f_X9_sum_B43 N rc0 rc1 rc2 rc3 rc4 rc5 rc6 c1 kb v3 μ) 43 [(0, .ref 92), (1, .int c1), (3, .int v3)] [] μ := by
  unfold f_X9_sum_B43
  refine s_aload_n (pc := 43) 0 dX9_sum_43 rfl rfl ?_
  refine s_getR (pc := 44) (ci := 9) (k := 1) (r := 1) dX9_sum_44 fl_9_18 kd_92 rfl rs_92_1 ?_
  refine s_getI (pc := 47) (ci := 10) (k := 6) dX9_sum_47 fl_9_61 kd_1 rfl ?_
  refine s_bipush (pc := 50) (v := (43 : Int32)) dX9_sum_50 (by decide) ?_
  refine s_icmp_ne (pc := 52) (tgt := 60) dX9_sum_52 (by decide) ?_ ?_
  · refine s_bipush (pc := 55) (v := (-11 : Int32)) dX9_sum_55 (by decide) ?_
    refine s_goto (pc := 57) (tgt := 62) dX9_sum_57 (by decide) ?_
    exact t_X9_sum_B62 N rc0 rc1 rc2 rc3 rc4 rc5 rc6 c1 D hrc0 hrc1 hrc2 hrc3 hrc4 hrc5 hrc6 kb hkb v3 (-11 : Int32) μ
  · refine s_bipush (pc := 60) (v := (-12 : Int32)) dX9_sum_60 (by decide) ?_
    exact t_X9_sum_B62 N rc0 rc1 rc2 rc3 rc4 rc5 rc6 c1 D hrc0 hrc1 hrc2 hrc3 hrc4 hrc5 hrc6 kb hkb v3 (-12 : Int32) μ
def b_X9_sum_L8 (N : Nat) (rc0 : Int32 → z_S → Option (Int32 × z_S)) (rc1 : Int32 → z_S → Option (Int32 × z_S)) (rc2 : Int32 → z_S → Option (Int32 × z_S)) (rc3 : Int32 → z_S → Option (Int32 × z_S)) (rc4 : Int32 → z_S → Option (Int32 × z_S)) (rc5 : Int32 → z_S → Option (Int32 × z_S)) (rc6 : Int32 → z_S → Option (Int32 × z_S)) (c1 : Int32) (kb : Int32 → Int32 → z_S → Option (Int32 × z_S)) (v2 : Int32) (v3 : Int32) (μ : z_S) : Option (Int32 × z_S) :=
  if v3 < (1600 : Int32) then (if v2 = 0 then (z_zb v2 (some (v2, μ))) else if (μ.1 1 6) = (43 : Int32) then (f_X9_sum_B43 N rc0 rc1 rc2 rc3 rc4 rc5 rc6 c1 kb v3 μ) else if (μ.1 1 6) = (45 : Int32) then (f_X9_sum_B43 N rc0 rc1 rc2 rc3 rc4 rc5 rc6 c1 kb v3 μ) else z_zb v2 (some (v2, μ))) else z_zb v2 (some (v2, μ))
theorem tb_X9_sum_L8 (N : Nat) (rc0 : Int32 → z_S → Option (Int32 × z_S)) (rc1 : Int32 → z_S → Option (Int32 × z_S)) (rc2 : Int32 → z_S → Option (Int32 × z_S)) (rc3 : Int32 → z_S → Option (Int32 × z_S)) (rc4 : Int32 → z_S → Option (Int32 × z_S)) (rc5 : Int32 → z_S → Option (Int32 × z_S)) (rc6 : Int32 → z_S → Option (Int32 × z_S)) (c1 : Int32) (D : Nat) (hrc0 : ∀ (x1 : Int32) (μ : z_S), z_met true rI mX9_test (D + 8) [.ref 92, .int x1] μ (rc0 x1 μ)) (hrc1 : ∀ (x1 : Int32) (μ : z_S), z_met true rI mX9_both (D + 8) [.ref 92, .int x1] μ (rc1 x1 μ)) (hrc2 : ∀ (x1 : Int32) (μ : z_S), z_met true rI mX9_fact (D + 8) [.ref 92, .int x1] μ (rc2 x1 μ)) (hrc3 : ∀ (x1 : Int32) (μ : z_S), z_met true rI mX9_sum (D + 8) [.ref 92, .int x1] μ (rc3 x1 μ)) (hrc4 : ∀ (x1 : Int32) (μ : z_S), z_met true rI mX9_product (D + 8) [.ref 92, .int x1] μ (rc4 x1 μ)) (hrc5 : ∀ (x1 : Int32) (μ : z_S), z_met true rI mX9_part (D + 8) [.ref 92, .int x1] μ (rc5 x1 μ)) (hrc6 : ∀ (x1 : Int32) (μ : z_S), z_met true rI mX9_choice (D + 8) [.ref 92, .int x1] μ (rc6 x1 μ)) (kb : Int32 → Int32 → z_S → Option (Int32 × z_S)) (hkb : ∀ (a2 : Int32) (a3 : Int32) (μ : z_S), z_sim true rI mX9_sum (D + 1 + 8) (kb a2 a3 μ) 8 [(0, .ref 92), (1, .int c1), (2, .int a2), (3, .int a3)] [] μ) (v2 : Int32) (v3 : Int32) (μ : z_S) : z_sim true rI mX9_sum (D + 1 + 8) (b_X9_sum_L8 N rc0 rc1 rc2 rc3 rc4 rc5 rc6 c1 kb v2 v3 μ) 8 [(0, .ref 92), (1, .int c1), (2, .int v2), (3, .int v3)] [] μ := by
  unfold b_X9_sum_L8
  refine s_iload_n (pc := 8) 3 dX9_sum_8 rfl rfl ?_
  refine s_sipush (pc := 9) (v := (1600 : Int32)) dX9_sum_9 (by decide) ?_
  refine s_icmp_ge (pc := 12) (tgt := 92) dX9_sum_12 (by decide) ?_ ?_
  · refine s_iload_n (pc := 15) 2 dX9_sum_15 rfl rfl ?_
    refine s_if_eq (pc := 16) (tgt := 92) dX9_sum_16 (by decide) ?_ ?_
    · refine s_iload_n (pc := 92) 2 dX9_sum_92 rfl rfl ?_
      exact s_zret (pc := 93) dX9_sum_93 rfl
    · refine s_aload_n (pc := 19) 0 dX9_sum_19 rfl rfl ?_
      refine s_getR (pc := 20) (ci := 9) (k := 1) (r := 1) dX9_sum_20 fl_9_18 kd_92 rfl rs_92_1 ?_
      refine s_getI (pc := 23) (ci := 10) (k := 6) dX9_sum_23 fl_9_61 kd_1 rfl ?_
      refine s_bipush (pc := 26) (v := (43 : Int32)) dX9_sum_26 (by decide) ?_
      refine s_icmp_eq (pc := 28) (tgt := 43) dX9_sum_28 (by decide) ?_ ?_
      · refine s_sub (lv' := [(0, .ref 92), (1, .int c1), (3, .int v3)]) [0, 1, 3] rfl ?_
        exact t_X9_sum_B43 N rc0 rc1 rc2 rc3 rc4 rc5 rc6 c1 D hrc0 hrc1 hrc2 hrc3 hrc4 hrc5 hrc6 kb hkb v3 μ
      · refine s_aload_n (pc := 31) 0 dX9_sum_31 rfl rfl ?_
        refine s_getR (pc := 32) (ci := 9) (k := 1) (r := 1) dX9_sum_32 fl_9_18 kd_92 rfl rs_92_1 ?_
        refine s_getI (pc := 35) (ci := 10) (k := 6) dX9_sum_35 fl_9_61 kd_1 rfl ?_
        refine s_bipush (pc := 38) (v := (45 : Int32)) dX9_sum_38 (by decide) ?_
        refine s_icmp_ne (pc := 40) (tgt := 92) dX9_sum_40 (by decide) ?_ ?_
        · refine s_sub (lv' := [(0, .ref 92), (1, .int c1), (3, .int v3)]) [0, 1, 3] rfl ?_
          exact t_X9_sum_B43 N rc0 rc1 rc2 rc3 rc4 rc5 rc6 c1 D hrc0 hrc1 hrc2 hrc3 hrc4 hrc5 hrc6 kb hkb v3 μ
        · refine s_iload_n (pc := 92) 2 dX9_sum_92 rfl rfl ?_
          exact s_zret (pc := 93) dX9_sum_93 rfl
  · refine s_iload_n (pc := 92) 2 dX9_sum_92 rfl rfl ?_
    exact s_zret (pc := 93) dX9_sum_93 rfl
def f_X9_sum_L8 (N : Nat) (rc0 : Int32 → z_S → Option (Int32 × z_S)) (rc1 : Int32 → z_S → Option (Int32 × z_S)) (rc2 : Int32 → z_S → Option (Int32 × z_S)) (rc3 : Int32 → z_S → Option (Int32 × z_S)) (rc4 : Int32 → z_S → Option (Int32 × z_S)) (rc5 : Int32 → z_S → Option (Int32 × z_S)) (rc6 : Int32 → z_S → Option (Int32 × z_S)) (c1 : Int32) : Nat → Int32 → Int32 → z_S → Option (Int32 × z_S)
  | 0, _, _, _ => none
  | n + 1, v2, v3, μ => b_X9_sum_L8 N rc0 rc1 rc2 rc3 rc4 rc5 rc6 c1 (f_X9_sum_L8 N rc0 rc1 rc2 rc3 rc4 rc5 rc6 c1 n) v2 v3 μ
theorem t_X9_sum_L8 (N : Nat) (rc0 : Int32 → z_S → Option (Int32 × z_S)) (rc1 : Int32 → z_S → Option (Int32 × z_S)) (rc2 : Int32 → z_S → Option (Int32 × z_S)) (rc3 : Int32 → z_S → Option (Int32 × z_S)) (rc4 : Int32 → z_S → Option (Int32 × z_S)) (rc5 : Int32 → z_S → Option (Int32 × z_S)) (rc6 : Int32 → z_S → Option (Int32 × z_S)) (c1 : Int32) (D : Nat) (hrc0 : ∀ (x1 : Int32) (μ : z_S), z_met true rI mX9_test (D + 8) [.ref 92, .int x1] μ (rc0 x1 μ)) (hrc1 : ∀ (x1 : Int32) (μ : z_S), z_met true rI mX9_both (D + 8) [.ref 92, .int x1] μ (rc1 x1 μ)) (hrc2 : ∀ (x1 : Int32) (μ : z_S), z_met true rI mX9_fact (D + 8) [.ref 92, .int x1] μ (rc2 x1 μ)) (hrc3 : ∀ (x1 : Int32) (μ : z_S), z_met true rI mX9_sum (D + 8) [.ref 92, .int x1] μ (rc3 x1 μ)) (hrc4 : ∀ (x1 : Int32) (μ : z_S), z_met true rI mX9_product (D + 8) [.ref 92, .int x1] μ (rc4 x1 μ)) (hrc5 : ∀ (x1 : Int32) (μ : z_S), z_met true rI mX9_part (D + 8) [.ref 92, .int x1] μ (rc5 x1 μ)) (hrc6 : ∀ (x1 : Int32) (μ : z_S), z_met true rI mX9_choice (D + 8) [.ref 92, .int x1] μ (rc6 x1 μ)) : ∀ (n : Nat) (v2 : Int32) (v3 : Int32) (μ : z_S), z_sim true rI mX9_sum (D + 1 + 8) (f_X9_sum_L8 N rc0 rc1 rc2 rc3 rc4 rc5 rc6 c1 n v2 v3 μ) 8 [(0, .ref 92), (1, .int c1), (2, .int v2), (3, .int v3)] [] μ
  | 0, _, _, _ => s_none
  | n + 1, v2, v3, μ => tb_X9_sum_L8 N rc0 rc1 rc2 rc3 rc4 rc5 rc6 c1 D hrc0 hrc1 hrc2 hrc3 hrc4 hrc5 hrc6 (f_X9_sum_L8 N rc0 rc1 rc2 rc3 rc4 rc5 rc6 c1 n) (t_X9_sum_L8 N rc0 rc1 rc2 rc3 rc4 rc5 rc6 c1 D hrc0 hrc1 hrc2 hrc3 hrc4 hrc5 hrc6 n) v2 v3 μ
def g_X9_sum (N : Nat) (rc0 : Int32 → z_S → Option (Int32 × z_S)) (rc1 : Int32 → z_S → Option (Int32 × z_S)) (rc2 : Int32 → z_S → Option (Int32 × z_S)) (rc3 : Int32 → z_S → Option (Int32 × z_S)) (rc4 : Int32 → z_S → Option (Int32 × z_S)) (rc5 : Int32 → z_S → Option (Int32 × z_S)) (rc6 : Int32 → z_S → Option (Int32 × z_S)) (a1 : Int32) (μ : z_S) : Option (Int32 × z_S) :=
  z_bn (rc4 a1 μ) fun x1 μ_1 => f_X9_sum_L8 N rc0 rc1 rc2 rc3 rc4 rc5 rc6 a1 N x1 (0 : Int32) μ_1
theorem tg_X9_sum (N : Nat) (D : Nat) (rc0 : Int32 → z_S → Option (Int32 × z_S)) (rc1 : Int32 → z_S → Option (Int32 × z_S)) (rc2 : Int32 → z_S → Option (Int32 × z_S)) (rc3 : Int32 → z_S → Option (Int32 × z_S)) (rc4 : Int32 → z_S → Option (Int32 × z_S)) (rc5 : Int32 → z_S → Option (Int32 × z_S)) (rc6 : Int32 → z_S → Option (Int32 × z_S)) (hrc0 : ∀ (x1 : Int32) (μ : z_S), z_met true rI mX9_test (D + 8) [.ref 92, .int x1] μ (rc0 x1 μ)) (hrc1 : ∀ (x1 : Int32) (μ : z_S), z_met true rI mX9_both (D + 8) [.ref 92, .int x1] μ (rc1 x1 μ)) (hrc2 : ∀ (x1 : Int32) (μ : z_S), z_met true rI mX9_fact (D + 8) [.ref 92, .int x1] μ (rc2 x1 μ)) (hrc3 : ∀ (x1 : Int32) (μ : z_S), z_met true rI mX9_sum (D + 8) [.ref 92, .int x1] μ (rc3 x1 μ)) (hrc4 : ∀ (x1 : Int32) (μ : z_S), z_met true rI mX9_product (D + 8) [.ref 92, .int x1] μ (rc4 x1 μ)) (hrc5 : ∀ (x1 : Int32) (μ : z_S), z_met true rI mX9_part (D + 8) [.ref 92, .int x1] μ (rc5 x1 μ)) (hrc6 : ∀ (x1 : Int32) (μ : z_S), z_met true rI mX9_choice (D + 8) [.ref 92, .int x1] μ (rc6 x1 μ)) (a1 : Int32) (μ : z_S) : z_met true rI mX9_sum (D + 1 + 8) [.ref 92, .int a1] μ (g_X9_sum N rc0 rc1 rc2 rc3 rc4 rc5 rc6 a1 μ) := by
  refine z_met.of (by decide +kernel) (by show _ ≤ _; first | decide | exact Nat.le_of_ble_eq_true rfl) (lv := [(0, .ref 92), (1, .int a1)]) rfl ?_
  unfold g_X9_sum
  refine s_aload_n (pc := 0) 0 dX9_sum_0 rfl rfl ?_
  refine s_iload_n (pc := 1) 1 dX9_sum_1 rfl rfl ?_
  refine s_callVI (pc := 2) (as := [.int a1]) (st := []) dX9_sum_2 lk_9_73 kd_92 (hrc4 a1 μ) (by omega) rfl (by decide) rfl (fun x1 μ_1 => ?_)
  refine s_istore_n (pc := 5) (lv' := [(2, .int x1), (0, .ref 92), (1, .int a1)]) dX9_sum_5 rfl (by decide) rfl ?_
  refine s_iconst (pc := 6) (v := (0 : Int32)) dX9_sum_6 (by decide) ?_
  refine s_istore_n (pc := 7) (lv' := [(3, .int (0 : Int32)), (2, .int x1), (0, .ref 92), (1, .int a1)]) dX9_sum_7 rfl (by decide) rfl ?_
  refine s_sub (lv' := [(0, .ref 92), (1, .int a1), (2, .int x1), (3, .int (0 : Int32))]) [2, 3, 1, 0] rfl ?_
  refine t_X9_sum_L8 N rc0 rc1 rc2 rc3 rc4 rc5 rc6 a1 D hrc0 hrc1 hrc2 hrc3 hrc4 hrc5 hrc6 N x1 (0 : Int32) μ_1
def f_X9_product_B62 (N : Nat) (rc0 : Int32 → z_S → Option (Int32 × z_S)) (rc1 : Int32 → z_S → Option (Int32 × z_S)) (rc2 : Int32 → z_S → Option (Int32 × z_S)) (rc3 : Int32 → z_S → Option (Int32 × z_S)) (rc4 : Int32 → z_S → Option (Int32 × z_S)) (rc5 : Int32 → z_S → Option (Int32 × z_S)) (rc6 : Int32 → z_S → Option (Int32 × z_S)) (c1 : Int32) (kb : Int32 → Int32 → z_S → Option (Int32 × z_S)) (v3 : Int32) (s0 : Int32) (μ : z_S) : Option (Int32 × z_S) :=
  z_bn (f_X10_next N μ) fun _ μ_2 => z_bn (rc5 c1 μ_2) fun x2 μ_3 => z_bn (f_X0_add N 93 s0 μ_3) fun _ μ_4 => z_bd (v3 + 1) fun x3 => kb x2 x3 μ_4
theorem t_X9_product_B62 (N : Nat) (rc0 : Int32 → z_S → Option (Int32 × z_S)) (rc1 : Int32 → z_S → Option (Int32 × z_S)) (rc2 : Int32 → z_S → Option (Int32 × z_S)) (rc3 : Int32 → z_S → Option (Int32 × z_S)) (rc4 : Int32 → z_S → Option (Int32 × z_S)) (rc5 : Int32 → z_S → Option (Int32 × z_S)) (rc6 : Int32 → z_S → Option (Int32 × z_S)) (c1 : Int32) (D : Nat) (hrc0 : ∀ (x1 : Int32) (μ : z_S), z_met true rI mX9_test (D + 8) [.ref 92, .int x1] μ (rc0 x1 μ)) (hrc1 : ∀ (x1 : Int32) (μ : z_S), z_met true rI mX9_both (D + 8) [.ref 92, .int x1] μ (rc1 x1 μ)) (hrc2 : ∀ (x1 : Int32) (μ : z_S), z_met true rI mX9_fact (D + 8) [.ref 92, .int x1] μ (rc2 x1 μ)) (hrc3 : ∀ (x1 : Int32) (μ : z_S), z_met true rI mX9_sum (D + 8) [.ref 92, .int x1] μ (rc3 x1 μ)) (hrc4 : ∀ (x1 : Int32) (μ : z_S), z_met true rI mX9_product (D + 8) [.ref 92, .int x1] μ (rc4 x1 μ)) (hrc5 : ∀ (x1 : Int32) (μ : z_S), z_met true rI mX9_part (D + 8) [.ref 92, .int x1] μ (rc5 x1 μ)) (hrc6 : ∀ (x1 : Int32) (μ : z_S), z_met true rI mX9_choice (D + 8) [.ref 92, .int x1] μ (rc6 x1 μ)) (kb : Int32 → Int32 → z_S → Option (Int32 × z_S)) (hkb : ∀ (a2 : Int32) (a3 : Int32) (μ : z_S), z_sim true rI mX9_product (D + 1 + 8) (kb a2 a3 μ) 8 [(0, .ref 92), (1, .int c1), (2, .int a2), (3, .int a3)] [] μ) (v3 : Int32) (s0 : Int32)  (μ : z_S) : z_sim true rI mX9_product (D + 1 + 8) (f_X9_product_B62 N rc0 rc1 rc2 rc3 rc4 rc5 rc6 c1 kb v3 s0 μ) 62 [(0, .ref 92), (1, .int c1), (3, .int v3)] [.int s0] μ := by
  unfold f_X9_product_B62
  refine s_istore (pc := 62) (lv' := [(4, .int s0), (0, .ref 92), (1, .int c1), (3, .int v3)]) dX9_product_62 (by decide) rfl ?_
  refine s_aload_n (pc := 64) 1 dX9_product_64 rfl rfl ?_
  refine s_getR (pc := 65) (ci := 9) (k := 1) (r := 1) dX9_product_65 fl_9_18 kd_92 rfl rs_92_1 ?_
  refine s_callVV (pc := 68) (as := []) (st := []) dX9_product_68 lk_9_51 kd_1 (t_X10_next N μ) (by omega) rfl (by decide) rfl (fun _ μ_2 => ?_)
  refine s_aload_n (pc := 71) 1 dX9_product_71 rfl rfl ?_
  refine s_iload_n (pc := 72) 2 dX9_product_72 rfl rfl ?_
  refine s_callVI (pc := 73) (as := [.int c1]) (st := []) dX9_product_73 lk_9_76 kd_92 (hrc5 c1 μ_2) (by omega) rfl (by decide) rfl (fun x2 μ_3 => ?_)
  refine s_istore_n (pc := 76) (lv' := [(2, .int x2), (4, .int s0), (0, .ref 92), (1, .int c1), (3, .int v3)]) dX9_product_76 rfl (by decide) rfl ?_
  refine s_aload_n (pc := 77) 2 dX9_product_77 rfl rfl ?_
  refine s_getR (pc := 78) (ci := 9) (k := 0) (r := 93) dX9_product_78 fl_9_12 kd_92 rfl rs_92_0 ?_
  refine s_iload (pc := 81) 1 dX9_product_81 rfl ?_
  refine s_callVV (pc := 83) (as := [.int s0]) (st := []) dX9_product_83 lk_9_54 kd_93 (t_X0_add N 93 s0 μ_3) (by omega) rfl (by decide) rfl (fun _ μ_4 => ?_)
  refine s_iincB (pc := 86) (lv' := fun x3 => [(3, .int x3), (2, .int x2), (4, .int s0), (0, .ref 92), (1, .int c1)]) (c := 1) 4 dX9_product_86 rfl (by decide) (by decide) (fun _ => rfl) (fun x3 => ?_)
  refine s_goto (pc := 89) (tgt := 8) dX9_product_89 (by decide) ?_
  refine s_sub (lv' := [(0, .ref 92), (1, .int c1), (2, .int x2), (3, .int x3)]) [3, 4, 1, 0] rfl ?_
  exact hkb x2 x3 μ_4
def f_X9_product_B43 (N : Nat) (rc0 : Int32 → z_S → Option (Int32 × z_S)) (rc1 : Int32 → z_S → Option (Int32 × z_S)) (rc2 : Int32 → z_S → Option (Int32 × z_S)) (rc3 : Int32 → z_S → Option (Int32 × z_S)) (rc4 : Int32 → z_S → Option (Int32 × z_S)) (rc5 : Int32 → z_S → Option (Int32 × z_S)) (rc6 : Int32 → z_S → Option (Int32 × z_S)) (c1 : Int32) (kb : Int32 → Int32 → z_S → Option (Int32 × z_S)) (v3 : Int32) (μ : z_S) : Option (Int32 × z_S) :=
  if (μ.1 1 6) = (42 : Int32) then (f_X9_product_B62 N rc0 rc1 rc2 rc3 rc4 rc5 rc6 c1 kb v3 (-13 : Int32) μ) else f_X9_product_B62 N rc0 rc1 rc2 rc3 rc4 rc5 rc6 c1 kb v3 (-14 : Int32) μ
theorem t_X9_product_B43 (N : Nat) (rc0 : Int32 → z_S → Option (Int32 × z_S)) (rc1 : Int32 → z_S → Option (Int32 × z_S)) (rc2 : Int32 → z_S → Option (Int32 × z_S)) (rc3 : Int32 → z_S → Option (Int32 × z_S)) (rc4 : Int32 → z_S → Option (Int32 × z_S)) (rc5 : Int32 → z_S → Option (Int32 × z_S)) (rc6 : Int32 → z_S → Option (Int32 × z_S)) (c1 : Int32) (D : Nat) (hrc0 : ∀ (x1 : Int32) (μ : z_S), z_met true rI mX9_test (D + 8) [.ref 92, .int x1] μ (rc0 x1 μ)) (hrc1 : ∀ (x1 : Int32) (μ : z_S), z_met true rI mX9_both (D + 8) [.ref 92, .int x1] μ (rc1 x1 μ)) (hrc2 : ∀ (x1 : Int32) (μ : z_S), z_met true rI mX9_fact (D + 8) [.ref 92, .int x1] μ (rc2 x1 μ)) (hrc3 : ∀ (x1 : Int32) (μ : z_S), z_met true rI mX9_sum (D + 8) [.ref 92, .int x1] μ (rc3 x1 μ)) (hrc4 : ∀ (x1 : Int32) (μ : z_S), z_met true rI mX9_product (D + 8) [.ref 92, .int x1] μ (rc4 x1 μ)) (hrc5 : ∀ (x1 : Int32) (μ : z_S), z_met true rI mX9_part (D + 8) [.ref 92, .int x1] μ (rc5 x1 μ)) (hrc6 : ∀ (x1 : Int32) (μ : z_S), z_met true rI mX9_choice (D + 8) [.ref 92, .int x1] μ (rc6 x1 μ)) (kb : Int32 → Int32 → z_S → Option (Int32 × z_S)) (hkb : ∀ (a2 : Int32) (a3 : Int32) (μ : z_S), z_sim true rI mX9_product (D + 1 + 8) (kb a2 a3 μ) 8 [(0, .ref 92), (1, .int c1), (2, .int a2), (3, .int a3)] [] μ) (v3 : Int32)  (μ : z_S) : z_sim true rI mX9_product (D + 1 + 8) (f_X9_product_B43 N rc0 rc1 rc2 rc3 rc4 rc5 rc6 c1 kb v3 μ) 43 [(0, .ref 92), (1, .int c1), (3, .int v3)] [] μ := by
  unfold f_X9_product_B43
  refine s_aload_n (pc := 43) 0 dX9_product_43 rfl rfl ?_
  refine s_getR (pc := 44) (ci := 9) (k := 1) (r := 1) dX9_product_44 fl_9_18 kd_92 rfl rs_92_1 ?_
  refine s_getI (pc := 47) (ci := 10) (k := 6) dX9_product_47 fl_9_61 kd_1 rfl ?_
  refine s_bipush (pc := 50) (v := (42 : Int32)) dX9_product_50 (by decide) ?_
  refine s_icmp_ne (pc := 52) (tgt := 60) dX9_product_52 (by decide) ?_ ?_
  · refine s_bipush (pc := 55) (v := (-13 : Int32)) dX9_product_55 (by decide) ?_
    refine s_goto (pc := 57) (tgt := 62) dX9_product_57 (by decide) ?_
    exact t_X9_product_B62 N rc0 rc1 rc2 rc3 rc4 rc5 rc6 c1 D hrc0 hrc1 hrc2 hrc3 hrc4 hrc5 hrc6 kb hkb v3 (-13 : Int32) μ
  · refine s_bipush (pc := 60) (v := (-14 : Int32)) dX9_product_60 (by decide) ?_
    exact t_X9_product_B62 N rc0 rc1 rc2 rc3 rc4 rc5 rc6 c1 D hrc0 hrc1 hrc2 hrc3 hrc4 hrc5 hrc6 kb hkb v3 (-14 : Int32) μ
def b_X9_product_L8 (N : Nat) (rc0 : Int32 → z_S → Option (Int32 × z_S)) (rc1 : Int32 → z_S → Option (Int32 × z_S)) (rc2 : Int32 → z_S → Option (Int32 × z_S)) (rc3 : Int32 → z_S → Option (Int32 × z_S)) (rc4 : Int32 → z_S → Option (Int32 × z_S)) (rc5 : Int32 → z_S → Option (Int32 × z_S)) (rc6 : Int32 → z_S → Option (Int32 × z_S)) (c1 : Int32) (kb : Int32 → Int32 → z_S → Option (Int32 × z_S)) (v2 : Int32) (v3 : Int32) (μ : z_S) : Option (Int32 × z_S) :=
  if v3 < (1600 : Int32) then (if v2 = 0 then (z_zb v2 (some (v2, μ))) else if (μ.1 1 6) = (42 : Int32) then (f_X9_product_B43 N rc0 rc1 rc2 rc3 rc4 rc5 rc6 c1 kb v3 μ) else if (μ.1 1 6) = (47 : Int32) then (f_X9_product_B43 N rc0 rc1 rc2 rc3 rc4 rc5 rc6 c1 kb v3 μ) else z_zb v2 (some (v2, μ))) else z_zb v2 (some (v2, μ))
theorem tb_X9_product_L8 (N : Nat) (rc0 : Int32 → z_S → Option (Int32 × z_S)) (rc1 : Int32 → z_S → Option (Int32 × z_S)) (rc2 : Int32 → z_S → Option (Int32 × z_S)) (rc3 : Int32 → z_S → Option (Int32 × z_S)) (rc4 : Int32 → z_S → Option (Int32 × z_S)) (rc5 : Int32 → z_S → Option (Int32 × z_S)) (rc6 : Int32 → z_S → Option (Int32 × z_S)) (c1 : Int32) (D : Nat) (hrc0 : ∀ (x1 : Int32) (μ : z_S), z_met true rI mX9_test (D + 8) [.ref 92, .int x1] μ (rc0 x1 μ)) (hrc1 : ∀ (x1 : Int32) (μ : z_S), z_met true rI mX9_both (D + 8) [.ref 92, .int x1] μ (rc1 x1 μ)) (hrc2 : ∀ (x1 : Int32) (μ : z_S), z_met true rI mX9_fact (D + 8) [.ref 92, .int x1] μ (rc2 x1 μ)) (hrc3 : ∀ (x1 : Int32) (μ : z_S), z_met true rI mX9_sum (D + 8) [.ref 92, .int x1] μ (rc3 x1 μ)) (hrc4 : ∀ (x1 : Int32) (μ : z_S), z_met true rI mX9_product (D + 8) [.ref 92, .int x1] μ (rc4 x1 μ)) (hrc5 : ∀ (x1 : Int32) (μ : z_S), z_met true rI mX9_part (D + 8) [.ref 92, .int x1] μ (rc5 x1 μ)) (hrc6 : ∀ (x1 : Int32) (μ : z_S), z_met true rI mX9_choice (D + 8) [.ref 92, .int x1] μ (rc6 x1 μ)) (kb : Int32 → Int32 → z_S → Option (Int32 × z_S)) (hkb : ∀ (a2 : Int32) (a3 : Int32) (μ : z_S), z_sim true rI mX9_product (D + 1 + 8) (kb a2 a3 μ) 8 [(0, .ref 92), (1, .int c1), (2, .int a2), (3, .int a3)] [] μ) (v2 : Int32) (v3 : Int32) (μ : z_S) : z_sim true rI mX9_product (D + 1 + 8) (b_X9_product_L8 N rc0 rc1 rc2 rc3 rc4 rc5 rc6 c1 kb v2 v3 μ) 8 [(0, .ref 92), (1, .int c1), (2, .int v2), (3, .int v3)] [] μ := by
  unfold b_X9_product_L8
  refine s_iload_n (pc := 8) 3 dX9_product_8 rfl rfl ?_
  refine s_sipush (pc := 9) (v := (1600 : Int32)) dX9_product_9 (by decide) ?_
  refine s_icmp_ge (pc := 12) (tgt := 92) dX9_product_12 (by decide) ?_ ?_
  · refine s_iload_n (pc := 15) 2 dX9_product_15 rfl rfl ?_
    refine s_if_eq (pc := 16) (tgt := 92) dX9_product_16 (by decide) ?_ ?_
    · refine s_iload_n (pc := 92) 2 dX9_product_92 rfl rfl ?_
      exact s_zret (pc := 93) dX9_product_93 rfl
    · refine s_aload_n (pc := 19) 0 dX9_product_19 rfl rfl ?_
      refine s_getR (pc := 20) (ci := 9) (k := 1) (r := 1) dX9_product_20 fl_9_18 kd_92 rfl rs_92_1 ?_
      refine s_getI (pc := 23) (ci := 10) (k := 6) dX9_product_23 fl_9_61 kd_1 rfl ?_
      refine s_bipush (pc := 26) (v := (42 : Int32)) dX9_product_26 (by decide) ?_
      refine s_icmp_eq (pc := 28) (tgt := 43) dX9_product_28 (by decide) ?_ ?_
      · refine s_sub (lv' := [(0, .ref 92), (1, .int c1), (3, .int v3)]) [0, 1, 3] rfl ?_
        exact t_X9_product_B43 N rc0 rc1 rc2 rc3 rc4 rc5 rc6 c1 D hrc0 hrc1 hrc2 hrc3 hrc4 hrc5 hrc6 kb hkb v3 μ
      · refine s_aload_n (pc := 31) 0 dX9_product_31 rfl rfl ?_
        refine s_getR (pc := 32) (ci := 9) (k := 1) (r := 1) dX9_product_32 fl_9_18 kd_92 rfl rs_92_1 ?_
        refine s_getI (pc := 35) (ci := 10) (k := 6) dX9_product_35 fl_9_61 kd_1 rfl ?_
        refine s_bipush (pc := 38) (v := (47 : Int32)) dX9_product_38 (by decide) ?_
        refine s_icmp_ne (pc := 40) (tgt := 92) dX9_product_40 (by decide) ?_ ?_
        · refine s_sub (lv' := [(0, .ref 92), (1, .int c1), (3, .int v3)]) [0, 1, 3] rfl ?_
          exact t_X9_product_B43 N rc0 rc1 rc2 rc3 rc4 rc5 rc6 c1 D hrc0 hrc1 hrc2 hrc3 hrc4 hrc5 hrc6 kb hkb v3 μ
        · refine s_iload_n (pc := 92) 2 dX9_product_92 rfl rfl ?_
          exact s_zret (pc := 93) dX9_product_93 rfl
  · refine s_iload_n (pc := 92) 2 dX9_product_92 rfl rfl ?_
    exact s_zret (pc := 93) dX9_product_93 rfl
def f_X9_product_L8 (N : Nat) (rc0 : Int32 → z_S → Option (Int32 × z_S)) (rc1 : Int32 → z_S → Option (Int32 × z_S)) (rc2 : Int32 → z_S → Option (Int32 × z_S)) (rc3 : Int32 → z_S → Option (Int32 × z_S)) (rc4 : Int32 → z_S → Option (Int32 × z_S)) (rc5 : Int32 → z_S → Option (Int32 × z_S)) (rc6 : Int32 → z_S → Option (Int32 × z_S)) (c1 : Int32) : Nat → Int32 → Int32 → z_S → Option (Int32 × z_S)
  | 0, _, _, _ => none
  | n + 1, v2, v3, μ => b_X9_product_L8 N rc0 rc1 rc2 rc3 rc4 rc5 rc6 c1 (f_X9_product_L8 N rc0 rc1 rc2 rc3 rc4 rc5 rc6 c1 n) v2 v3 μ
theorem t_X9_product_L8 (N : Nat) (rc0 : Int32 → z_S → Option (Int32 × z_S)) (rc1 : Int32 → z_S → Option (Int32 × z_S)) (rc2 : Int32 → z_S → Option (Int32 × z_S)) (rc3 : Int32 → z_S → Option (Int32 × z_S)) (rc4 : Int32 → z_S → Option (Int32 × z_S)) (rc5 : Int32 → z_S → Option (Int32 × z_S)) (rc6 : Int32 → z_S → Option (Int32 × z_S)) (c1 : Int32) (D : Nat) (hrc0 : ∀ (x1 : Int32) (μ : z_S), z_met true rI mX9_test (D + 8) [.ref 92, .int x1] μ (rc0 x1 μ)) (hrc1 : ∀ (x1 : Int32) (μ : z_S), z_met true rI mX9_both (D + 8) [.ref 92, .int x1] μ (rc1 x1 μ)) (hrc2 : ∀ (x1 : Int32) (μ : z_S), z_met true rI mX9_fact (D + 8) [.ref 92, .int x1] μ (rc2 x1 μ)) (hrc3 : ∀ (x1 : Int32) (μ : z_S), z_met true rI mX9_sum (D + 8) [.ref 92, .int x1] μ (rc3 x1 μ)) (hrc4 : ∀ (x1 : Int32) (μ : z_S), z_met true rI mX9_product (D + 8) [.ref 92, .int x1] μ (rc4 x1 μ)) (hrc5 : ∀ (x1 : Int32) (μ : z_S), z_met true rI mX9_part (D + 8) [.ref 92, .int x1] μ (rc5 x1 μ)) (hrc6 : ∀ (x1 : Int32) (μ : z_S), z_met true rI mX9_choice (D + 8) [.ref 92, .int x1] μ (rc6 x1 μ)) : ∀ (n : Nat) (v2 : Int32) (v3 : Int32) (μ : z_S), z_sim true rI mX9_product (D + 1 + 8) (f_X9_product_L8 N rc0 rc1 rc2 rc3 rc4 rc5 rc6 c1 n v2 v3 μ) 8 [(0, .ref 92), (1, .int c1), (2, .int v2), (3, .int v3)] [] μ
  | 0, _, _, _ => s_none
  | n + 1, v2, v3, μ => tb_X9_product_L8 N rc0 rc1 rc2 rc3 rc4 rc5 rc6 c1 D hrc0 hrc1 hrc2 hrc3 hrc4 hrc5 hrc6 (f_X9_product_L8 N rc0 rc1 rc2 rc3 rc4 rc5 rc6 c1 n) (t_X9_product_L8 N rc0 rc1 rc2 rc3 rc4 rc5 rc6 c1 D hrc0 hrc1 hrc2 hrc3 hrc4 hrc5 hrc6 n) v2 v3 μ
def g_X9_product (N : Nat) (rc0 : Int32 → z_S → Option (Int32 × z_S)) (rc1 : Int32 → z_S → Option (Int32 × z_S)) (rc2 : Int32 → z_S → Option (Int32 × z_S)) (rc3 : Int32 → z_S → Option (Int32 × z_S)) (rc4 : Int32 → z_S → Option (Int32 × z_S)) (rc5 : Int32 → z_S → Option (Int32 × z_S)) (rc6 : Int32 → z_S → Option (Int32 × z_S)) (a1 : Int32) (μ : z_S) : Option (Int32 × z_S) :=
  z_bn (rc5 a1 μ) fun x1 μ_1 => f_X9_product_L8 N rc0 rc1 rc2 rc3 rc4 rc5 rc6 a1 N x1 (0 : Int32) μ_1
theorem tg_X9_product (N : Nat) (D : Nat) (rc0 : Int32 → z_S → Option (Int32 × z_S)) (rc1 : Int32 → z_S → Option (Int32 × z_S)) (rc2 : Int32 → z_S → Option (Int32 × z_S)) (rc3 : Int32 → z_S → Option (Int32 × z_S)) (rc4 : Int32 → z_S → Option (Int32 × z_S)) (rc5 : Int32 → z_S → Option (Int32 × z_S)) (rc6 : Int32 → z_S → Option (Int32 × z_S)) (hrc0 : ∀ (x1 : Int32) (μ : z_S), z_met true rI mX9_test (D + 8) [.ref 92, .int x1] μ (rc0 x1 μ)) (hrc1 : ∀ (x1 : Int32) (μ : z_S), z_met true rI mX9_both (D + 8) [.ref 92, .int x1] μ (rc1 x1 μ)) (hrc2 : ∀ (x1 : Int32) (μ : z_S), z_met true rI mX9_fact (D + 8) [.ref 92, .int x1] μ (rc2 x1 μ)) (hrc3 : ∀ (x1 : Int32) (μ : z_S), z_met true rI mX9_sum (D + 8) [.ref 92, .int x1] μ (rc3 x1 μ)) (hrc4 : ∀ (x1 : Int32) (μ : z_S), z_met true rI mX9_product (D + 8) [.ref 92, .int x1] μ (rc4 x1 μ)) (hrc5 : ∀ (x1 : Int32) (μ : z_S), z_met true rI mX9_part (D + 8) [.ref 92, .int x1] μ (rc5 x1 μ)) (hrc6 : ∀ (x1 : Int32) (μ : z_S), z_met true rI mX9_choice (D + 8) [.ref 92, .int x1] μ (rc6 x1 μ)) (a1 : Int32) (μ : z_S) : z_met true rI mX9_product (D + 1 + 8) [.ref 92, .int a1] μ (g_X9_product N rc0 rc1 rc2 rc3 rc4 rc5 rc6 a1 μ) := by
  refine z_met.of (by decide +kernel) (by show _ ≤ _; first | decide | exact Nat.le_of_ble_eq_true rfl) (lv := [(0, .ref 92), (1, .int a1)]) rfl ?_
  unfold g_X9_product
  refine s_aload_n (pc := 0) 0 dX9_product_0 rfl rfl ?_
  refine s_iload_n (pc := 1) 1 dX9_product_1 rfl rfl ?_
  refine s_callVI (pc := 2) (as := [.int a1]) (st := []) dX9_product_2 lk_9_76 kd_92 (hrc5 a1 μ) (by omega) rfl (by decide) rfl (fun x1 μ_1 => ?_)
  refine s_istore_n (pc := 5) (lv' := [(2, .int x1), (0, .ref 92), (1, .int a1)]) dX9_product_5 rfl (by decide) rfl ?_
  refine s_iconst (pc := 6) (v := (0 : Int32)) dX9_product_6 (by decide) ?_
  refine s_istore_n (pc := 7) (lv' := [(3, .int (0 : Int32)), (2, .int x1), (0, .ref 92), (1, .int a1)]) dX9_product_7 rfl (by decide) rfl ?_
  refine s_sub (lv' := [(0, .ref 92), (1, .int a1), (2, .int x1), (3, .int (0 : Int32))]) [2, 3, 1, 0] rfl ?_
  refine t_X9_product_L8 N rc0 rc1 rc2 rc3 rc4 rc5 rc6 a1 D hrc0 hrc1 hrc2 hrc3 hrc4 hrc5 hrc6 N x1 (0 : Int32) μ_1
def f_X9_part_B117 (N : Nat) (rc0 : Int32 → z_S → Option (Int32 × z_S)) (rc1 : Int32 → z_S → Option (Int32 × z_S)) (rc2 : Int32 → z_S → Option (Int32 × z_S)) (rc3 : Int32 → z_S → Option (Int32 × z_S)) (rc4 : Int32 → z_S → Option (Int32 × z_S)) (rc5 : Int32 → z_S → Option (Int32 × z_S)) (rc6 : Int32 → z_S → Option (Int32 × z_S)) (v1 : Int32) (μ : z_S) : Option (Int32 × z_S) :=
  z_bn (rc6 v1 μ) fun x5 μ_6 => z_zb x5 (some (x5, μ_6))
theorem t_X9_part_B117 (N : Nat) (rc0 : Int32 → z_S → Option (Int32 × z_S)) (rc1 : Int32 → z_S → Option (Int32 × z_S)) (rc2 : Int32 → z_S → Option (Int32 × z_S)) (rc3 : Int32 → z_S → Option (Int32 × z_S)) (rc4 : Int32 → z_S → Option (Int32 × z_S)) (rc5 : Int32 → z_S → Option (Int32 × z_S)) (rc6 : Int32 → z_S → Option (Int32 × z_S)) (D : Nat) (hrc0 : ∀ (x1 : Int32) (μ : z_S), z_met true rI mX9_test (D + 8) [.ref 92, .int x1] μ (rc0 x1 μ)) (hrc1 : ∀ (x1 : Int32) (μ : z_S), z_met true rI mX9_both (D + 8) [.ref 92, .int x1] μ (rc1 x1 μ)) (hrc2 : ∀ (x1 : Int32) (μ : z_S), z_met true rI mX9_fact (D + 8) [.ref 92, .int x1] μ (rc2 x1 μ)) (hrc3 : ∀ (x1 : Int32) (μ : z_S), z_met true rI mX9_sum (D + 8) [.ref 92, .int x1] μ (rc3 x1 μ)) (hrc4 : ∀ (x1 : Int32) (μ : z_S), z_met true rI mX9_product (D + 8) [.ref 92, .int x1] μ (rc4 x1 μ)) (hrc5 : ∀ (x1 : Int32) (μ : z_S), z_met true rI mX9_part (D + 8) [.ref 92, .int x1] μ (rc5 x1 μ)) (hrc6 : ∀ (x1 : Int32) (μ : z_S), z_met true rI mX9_choice (D + 8) [.ref 92, .int x1] μ (rc6 x1 μ))   (v1 : Int32)  (μ : z_S) : z_sim true rI mX9_part (D + 1 + 8) (f_X9_part_B117 N rc0 rc1 rc2 rc3 rc4 rc5 rc6  v1 μ) 117 [(0, .ref 92), (1, .int v1)] [] μ := by
  unfold f_X9_part_B117
  refine s_aload_n (pc := 117) 0 dX9_part_117 rfl rfl ?_
  refine s_iload_n (pc := 118) 1 dX9_part_118 rfl rfl ?_
  refine s_callVI (pc := 119) (as := [.int v1]) (st := []) dX9_part_119 lk_9_89 kd_92 (hrc6 v1 μ) (by omega) rfl (by decide) rfl (fun x5 μ_6 => ?_)
  exact s_zret (pc := 122) dX9_part_122 rfl
def f_X9_part_B207 (N : Nat) (rc0 : Int32 → z_S → Option (Int32 × z_S)) (rc1 : Int32 → z_S → Option (Int32 × z_S)) (rc2 : Int32 → z_S → Option (Int32 × z_S)) (rc3 : Int32 → z_S → Option (Int32 × z_S)) (rc4 : Int32 → z_S → Option (Int32 × z_S)) (rc5 : Int32 → z_S → Option (Int32 × z_S)) (rc6 : Int32 → z_S → Option (Int32 × z_S)) (s0 : Int32) (μ : z_S) : Option (Int32 × z_S) :=
  if s0 = (-1 : Int32) then (z_bn (f_X10_fail N (1 : Int32) μ) fun x7 μ_8 => z_zb x7 (some (x7, μ_8))) else z_bn (f_X10_next N μ) fun _ μ_9 => z_bn (f_X0_add N 93 ((-1 : Int32) - s0) μ_9) fun _ μ_10 => some ((1 : Int32), μ_10)
theorem t_X9_part_B207 (N : Nat) (rc0 : Int32 → z_S → Option (Int32 × z_S)) (rc1 : Int32 → z_S → Option (Int32 × z_S)) (rc2 : Int32 → z_S → Option (Int32 × z_S)) (rc3 : Int32 → z_S → Option (Int32 × z_S)) (rc4 : Int32 → z_S → Option (Int32 × z_S)) (rc5 : Int32 → z_S → Option (Int32 × z_S)) (rc6 : Int32 → z_S → Option (Int32 × z_S)) (D : Nat) (hrc0 : ∀ (x1 : Int32) (μ : z_S), z_met true rI mX9_test (D + 8) [.ref 92, .int x1] μ (rc0 x1 μ)) (hrc1 : ∀ (x1 : Int32) (μ : z_S), z_met true rI mX9_both (D + 8) [.ref 92, .int x1] μ (rc1 x1 μ)) (hrc2 : ∀ (x1 : Int32) (μ : z_S), z_met true rI mX9_fact (D + 8) [.ref 92, .int x1] μ (rc2 x1 μ)) (hrc3 : ∀ (x1 : Int32) (μ : z_S), z_met true rI mX9_sum (D + 8) [.ref 92, .int x1] μ (rc3 x1 μ)) (hrc4 : ∀ (x1 : Int32) (μ : z_S), z_met true rI mX9_product (D + 8) [.ref 92, .int x1] μ (rc4 x1 μ)) (hrc5 : ∀ (x1 : Int32) (μ : z_S), z_met true rI mX9_part (D + 8) [.ref 92, .int x1] μ (rc5 x1 μ)) (hrc6 : ∀ (x1 : Int32) (μ : z_S), z_met true rI mX9_choice (D + 8) [.ref 92, .int x1] μ (rc6 x1 μ))   (s0 : Int32)  (μ : z_S) : z_sim true rI mX9_part (D + 1 + 8) (f_X9_part_B207 N rc0 rc1 rc2 rc3 rc4 rc5 rc6  s0 μ) 207 [(0, .ref 92)] [.int s0] μ := by
  unfold f_X9_part_B207
  refine s_istore_n (pc := 207) (lv' := [(2, .int s0), (0, .ref 92)]) dX9_part_207 rfl (by decide) rfl ?_
  refine s_iload_n (pc := 208) 0 dX9_part_208 rfl rfl ?_
  refine s_iconst (pc := 209) (v := (-1 : Int32)) dX9_part_209 (by decide) ?_
  refine s_icmp_ne (pc := 210) (tgt := 222) dX9_part_210 (by decide) ?_ ?_
  · refine s_aload_n (pc := 213) 1 dX9_part_213 rfl rfl ?_
    refine s_getR (pc := 214) (ci := 9) (k := 1) (r := 1) dX9_part_214 fl_9_18 kd_92 rfl rs_92_1 ?_
    refine s_iconst (pc := 217) (v := (1 : Int32)) dX9_part_217 (by decide) ?_
    refine s_callVI (pc := 218) (as := [.int (1 : Int32)]) (st := []) dX9_part_218 lk_9_70 kd_1 (t_X10_fail N (1 : Int32) μ) (by omega) rfl (by decide) rfl (fun x7 μ_8 => ?_)
    exact s_zret (pc := 221) dX9_part_221 rfl
  · refine s_aload_n (pc := 222) 1 dX9_part_222 rfl rfl ?_
    refine s_getR (pc := 223) (ci := 9) (k := 1) (r := 1) dX9_part_223 fl_9_18 kd_92 rfl rs_92_1 ?_
    refine s_callVV (pc := 226) (as := []) (st := []) dX9_part_226 lk_9_51 kd_1 (t_X10_next N μ) (by omega) rfl (by decide) rfl (fun _ μ_9 => ?_)
    refine s_aload_n (pc := 229) 1 dX9_part_229 rfl rfl ?_
    refine s_getR (pc := 230) (ci := 9) (k := 0) (r := 93) dX9_part_230 fl_9_12 kd_92 rfl rs_92_0 ?_
    refine s_iconst (pc := 233) (v := (-1 : Int32)) dX9_part_233 (by decide) ?_
    refine s_iload_n (pc := 234) 0 dX9_part_234 rfl rfl ?_
    refine s_isub (pc := 235) dX9_part_235 ?_
    refine s_callVV (pc := 236) (as := [.int ((-1 : Int32) - s0)]) (st := []) dX9_part_236 lk_9_54 kd_93 (t_X0_add N 93 ((-1 : Int32) - s0) μ_9) (by omega) rfl (by decide) rfl (fun _ μ_10 => ?_)
    refine s_iconst (pc := 239) (v := (1 : Int32)) dX9_part_239 (by decide) ?_
    exact s_zret0 (pc := 240) dX9_part_240 rfl rfl
def f_X9_part_B177 (N : Nat) (rc0 : Int32 → z_S → Option (Int32 × z_S)) (rc1 : Int32 → z_S → Option (Int32 × z_S)) (rc2 : Int32 → z_S → Option (Int32 × z_S)) (rc3 : Int32 → z_S → Option (Int32 × z_S)) (rc4 : Int32 → z_S → Option (Int32 × z_S)) (rc5 : Int32 → z_S → Option (Int32 × z_S)) (rc6 : Int32 → z_S → Option (Int32 × z_S))  (μ : z_S) : Option (Int32 × z_S) :=
  if (μ.1 92 2) = 0 then (z_bn (f_X9_heapValue N (μ.1 1 7) μ) fun x6 μ_7 => f_X9_part_B207 N rc0 rc1 rc2 rc3 rc4 rc5 rc6 x6 μ_7) else z_bn (f_X9_questionValue N (μ.1 1 7) μ) fun x8 μ_11 => f_X9_part_B207 N rc0 rc1 rc2 rc3 rc4 rc5 rc6 x8 μ_11
theorem t_X9_part_B177 (N : Nat) (rc0 : Int32 → z_S → Option (Int32 × z_S)) (rc1 : Int32 → z_S → Option (Int32 × z_S)) (rc2 : Int32 → z_S → Option (Int32 × z_S)) (rc3 : Int32 → z_S → Option (Int32 × z_S)) (rc4 : Int32 → z_S → Option (Int32 × z_S)) (rc5 : Int32 → z_S → Option (Int32 × z_S)) (rc6 : Int32 → z_S → Option (Int32 × z_S)) (D : Nat) (hrc0 : ∀ (x1 : Int32) (μ : z_S), z_met true rI mX9_test (D + 8) [.ref 92, .int x1] μ (rc0 x1 μ)) (hrc1 : ∀ (x1 : Int32) (μ : z_S), z_met true rI mX9_both (D + 8) [.ref 92, .int x1] μ (rc1 x1 μ)) (hrc2 : ∀ (x1 : Int32) (μ : z_S), z_met true rI mX9_fact (D + 8) [.ref 92, .int x1] μ (rc2 x1 μ)) (hrc3 : ∀ (x1 : Int32) (μ : z_S), z_met true rI mX9_sum (D + 8) [.ref 92, .int x1] μ (rc3 x1 μ)) (hrc4 : ∀ (x1 : Int32) (μ : z_S), z_met true rI mX9_product (D + 8) [.ref 92, .int x1] μ (rc4 x1 μ)) (hrc5 : ∀ (x1 : Int32) (μ : z_S), z_met true rI mX9_part (D + 8) [.ref 92, .int x1] μ (rc5 x1 μ)) (hrc6 : ∀ (x1 : Int32) (μ : z_S), z_met true rI mX9_choice (D + 8) [.ref 92, .int x1] μ (rc6 x1 μ))     (μ : z_S) : z_sim true rI mX9_part (D + 1 + 8) (f_X9_part_B177 N rc0 rc1 rc2 rc3 rc4 rc5 rc6   μ) 177 [(0, .ref 92)] [] μ := by
  unfold f_X9_part_B177
  refine s_aload_n (pc := 177) 0 dX9_part_177 rfl rfl ?_
  refine s_getI (pc := 178) (ci := 9) (k := 2) dX9_part_178 fl_9_26 kd_92 rfl ?_
  refine s_if_eq (pc := 181) (tgt := 197) dX9_part_181 (by decide) ?_ ?_
  · refine s_aload_n (pc := 197) 0 dX9_part_197 rfl rfl ?_
    refine s_getR (pc := 198) (ci := 9) (k := 1) (r := 1) dX9_part_198 fl_9_18 kd_92 rfl rs_92_1 ?_
    refine s_getI (pc := 201) (ci := 10) (k := 7) dX9_part_201 fl_9_46 kd_1 rfl ?_
    refine s_callSI (pc := 204) (as := [.int (μ.1 1 7)]) (st := []) dX9_part_204 lk_9_96 (t_X9_heapValue N (μ.1 1 7) μ) (by omega) rfl (by decide) rfl (fun x6 μ_7 => ?_)
    exact t_X9_part_B207 N rc0 rc1 rc2 rc3 rc4 rc5 rc6 D hrc0 hrc1 hrc2 hrc3 hrc4 hrc5 hrc6 x6 μ_7
  · refine s_aload_n (pc := 184) 0 dX9_part_184 rfl rfl ?_
    refine s_getR (pc := 185) (ci := 9) (k := 1) (r := 1) dX9_part_185 fl_9_18 kd_92 rfl rs_92_1 ?_
    refine s_getI (pc := 188) (ci := 10) (k := 7) dX9_part_188 fl_9_46 kd_1 rfl ?_
    refine s_callSI (pc := 191) (as := [.int (μ.1 1 7)]) (st := []) dX9_part_191 lk_9_92 (t_X9_questionValue N (μ.1 1 7) μ) (by omega) rfl (by decide) rfl (fun x8 μ_11 => ?_)
    refine s_goto (pc := 194) (tgt := 207) dX9_part_194 (by decide) ?_
    exact t_X9_part_B207 N rc0 rc1 rc2 rc3 rc4 rc5 rc6 D hrc0 hrc1 hrc2 hrc3 hrc4 hrc5 hrc6 x8 μ_11
def f_X9_part_B165 (N : Nat) (rc0 : Int32 → z_S → Option (Int32 × z_S)) (rc1 : Int32 → z_S → Option (Int32 × z_S)) (rc2 : Int32 → z_S → Option (Int32 × z_S)) (rc3 : Int32 → z_S → Option (Int32 × z_S)) (rc4 : Int32 → z_S → Option (Int32 × z_S)) (rc5 : Int32 → z_S → Option (Int32 × z_S)) (rc6 : Int32 → z_S → Option (Int32 × z_S)) (s0 : Int32) (μ : z_S) : Option (Int32 × z_S) :=
  z_bn (f_X0_add N 93 (-23 : Int32) μ) fun _ μ_13 => z_zb s0 (some (s0, μ_13))
theorem t_X9_part_B165 (N : Nat) (rc0 : Int32 → z_S → Option (Int32 × z_S)) (rc1 : Int32 → z_S → Option (Int32 × z_S)) (rc2 : Int32 → z_S → Option (Int32 × z_S)) (rc3 : Int32 → z_S → Option (Int32 × z_S)) (rc4 : Int32 → z_S → Option (Int32 × z_S)) (rc5 : Int32 → z_S → Option (Int32 × z_S)) (rc6 : Int32 → z_S → Option (Int32 × z_S)) (D : Nat) (hrc0 : ∀ (x1 : Int32) (μ : z_S), z_met true rI mX9_test (D + 8) [.ref 92, .int x1] μ (rc0 x1 μ)) (hrc1 : ∀ (x1 : Int32) (μ : z_S), z_met true rI mX9_both (D + 8) [.ref 92, .int x1] μ (rc1 x1 μ)) (hrc2 : ∀ (x1 : Int32) (μ : z_S), z_met true rI mX9_fact (D + 8) [.ref 92, .int x1] μ (rc2 x1 μ)) (hrc3 : ∀ (x1 : Int32) (μ : z_S), z_met true rI mX9_sum (D + 8) [.ref 92, .int x1] μ (rc3 x1 μ)) (hrc4 : ∀ (x1 : Int32) (μ : z_S), z_met true rI mX9_product (D + 8) [.ref 92, .int x1] μ (rc4 x1 μ)) (hrc5 : ∀ (x1 : Int32) (μ : z_S), z_met true rI mX9_part (D + 8) [.ref 92, .int x1] μ (rc5 x1 μ)) (hrc6 : ∀ (x1 : Int32) (μ : z_S), z_met true rI mX9_choice (D + 8) [.ref 92, .int x1] μ (rc6 x1 μ))   (s0 : Int32)  (μ : z_S) : z_sim true rI mX9_part (D + 1 + 8) (f_X9_part_B165 N rc0 rc1 rc2 rc3 rc4 rc5 rc6  s0 μ) 165 [(0, .ref 92)] [.int s0] μ := by
  unfold f_X9_part_B165
  refine s_istore_n (pc := 165) (lv' := [(2, .int s0), (0, .ref 92)]) dX9_part_165 rfl (by decide) rfl ?_
  refine s_aload_n (pc := 166) 1 dX9_part_166 rfl rfl ?_
  refine s_getR (pc := 167) (ci := 9) (k := 0) (r := 93) dX9_part_167 fl_9_12 kd_92 rfl rs_92_0 ?_
  refine s_bipush (pc := 170) (v := (-23 : Int32)) dX9_part_170 (by decide) ?_
  refine s_callVV (pc := 172) (as := [.int (-23 : Int32)]) (st := []) dX9_part_172 lk_9_54 kd_93 (t_X0_add N 93 (-23 : Int32) μ) (by omega) rfl (by decide) rfl (fun _ μ_13 => ?_)
  refine s_iload_n (pc := 175) 0 dX9_part_175 rfl rfl ?_
  exact s_zret (pc := 176) dX9_part_176 rfl
def f_X9_part_B164 (N : Nat) (rc0 : Int32 → z_S → Option (Int32 × z_S)) (rc1 : Int32 → z_S → Option (Int32 × z_S)) (rc2 : Int32 → z_S → Option (Int32 × z_S)) (rc3 : Int32 → z_S → Option (Int32 × z_S)) (rc4 : Int32 → z_S → Option (Int32 × z_S)) (rc5 : Int32 → z_S → Option (Int32 × z_S)) (rc6 : Int32 → z_S → Option (Int32 × z_S))  (μ : z_S) : Option (Int32 × z_S) :=
  f_X9_part_B165 N rc0 rc1 rc2 rc3 rc4 rc5 rc6 (0 : Int32) μ
theorem t_X9_part_B164 (N : Nat) (rc0 : Int32 → z_S → Option (Int32 × z_S)) (rc1 : Int32 → z_S → Option (Int32 × z_S)) (rc2 : Int32 → z_S → Option (Int32 × z_S)) (rc3 : Int32 → z_S → Option (Int32 × z_S)) (rc4 : Int32 → z_S → Option (Int32 × z_S)) (rc5 : Int32 → z_S → Option (Int32 × z_S)) (rc6 : Int32 → z_S → Option (Int32 × z_S)) (D : Nat) (hrc0 : ∀ (x1 : Int32) (μ : z_S), z_met true rI mX9_test (D + 8) [.ref 92, .int x1] μ (rc0 x1 μ)) (hrc1 : ∀ (x1 : Int32) (μ : z_S), z_met true rI mX9_both (D + 8) [.ref 92, .int x1] μ (rc1 x1 μ)) (hrc2 : ∀ (x1 : Int32) (μ : z_S), z_met true rI mX9_fact (D + 8) [.ref 92, .int x1] μ (rc2 x1 μ)) (hrc3 : ∀ (x1 : Int32) (μ : z_S), z_met true rI mX9_sum (D + 8) [.ref 92, .int x1] μ (rc3 x1 μ)) (hrc4 : ∀ (x1 : Int32) (μ : z_S), z_met true rI mX9_product (D + 8) [.ref 92, .int x1] μ (rc4 x1 μ)) (hrc5 : ∀ (x1 : Int32) (μ : z_S), z_met true rI mX9_part (D + 8) [.ref 92, .int x1] μ (rc5 x1 μ)) (hrc6 : ∀ (x1 : Int32) (μ : z_S), z_met true rI mX9_choice (D + 8) [.ref 92, .int x1] μ (rc6 x1 μ))     (μ : z_S) : z_sim true rI mX9_part (D + 1 + 8) (f_X9_part_B164 N rc0 rc1 rc2 rc3 rc4 rc5 rc6   μ) 164 [(0, .ref 92)] [] μ := by
  unfold f_X9_part_B164
  refine s_iconst (pc := 164) (v := (0 : Int32)) dX9_part_164 (by decide) ?_
  exact t_X9_part_B165 N rc0 rc1 rc2 rc3 rc4 rc5 rc6 D hrc0 hrc1 hrc2 hrc3 hrc4 hrc5 hrc6 (0 : Int32) μ
def g_X9_part (N : Nat) (rc0 : Int32 → z_S → Option (Int32 × z_S)) (rc1 : Int32 → z_S → Option (Int32 × z_S)) (rc2 : Int32 → z_S → Option (Int32 × z_S)) (rc3 : Int32 → z_S → Option (Int32 × z_S)) (rc4 : Int32 → z_S → Option (Int32 × z_S)) (rc5 : Int32 → z_S → Option (Int32 × z_S)) (rc6 : Int32 → z_S → Option (Int32 × z_S)) (a1 : Int32) (μ : z_S) : Option (Int32 × z_S) :=
  if (μ.1 1 4) = (2 : Int32) then (z_bn (f_X10_takeNumber N (0 : Int32) (9999 : Int32) μ) fun x1 μ_1 => z_bn (f_X0_add N 93 x1 μ_1) fun _ μ_2 => if (μ_2.1 1 2) = 0 then (some ((1 : Int32), μ_2)) else some ((0 : Int32), μ_2)) else if (μ.1 1 6) = (40 : Int32) then (z_bn (f_X9_opens N a1 μ) fun x2 μ_3 => if x2 = 0 then (some ((0 : Int32), μ_3)) else z_bn (rc3 (a1 + (1 : Int32)) μ_3) fun x3 μ_4 => if x3 = 0 then (some ((0 : Int32), μ_4)) else z_bn (f_X10_takeSign N (41 : Int32) μ_4) fun x4 μ_5 => if x4 = 0 then (some ((0 : Int32), μ_5)) else some ((1 : Int32), μ_5)) else if (μ.1 1 7) = (26 : Int32) then (f_X9_part_B117 N rc0 rc1 rc2 rc3 rc4 rc5 rc6 a1 μ) else if (μ.1 1 7) = (27 : Int32) then (f_X9_part_B117 N rc0 rc1 rc2 rc3 rc4 rc5 rc6 a1 μ) else if (μ.1 92 2) = 0 then (f_X9_part_B177 N rc0 rc1 rc2 rc3 rc4 rc5 rc6 μ) else if (μ.1 1 7) = (6 : Int32) then (z_bn (f_X9_opens N a1 μ) fun x9 μ_12 => if x9 = 0 then (f_X9_part_B164 N rc0 rc1 rc2 rc3 rc4 rc5 rc6 μ_12) else z_bn (rc5 (a1 + (1 : Int32)) μ_12) fun x10 μ_14 => if x10 = 0 then (f_X9_part_B164 N rc0 rc1 rc2 rc3 rc4 rc5 rc6 μ_14) else f_X9_part_B165 N rc0 rc1 rc2 rc3 rc4 rc5 rc6 (1 : Int32) μ_14) else f_X9_part_B177 N rc0 rc1 rc2 rc3 rc4 rc5 rc6 μ
theorem tg_X9_part (N : Nat) (D : Nat) (rc0 : Int32 → z_S → Option (Int32 × z_S)) (rc1 : Int32 → z_S → Option (Int32 × z_S)) (rc2 : Int32 → z_S → Option (Int32 × z_S)) (rc3 : Int32 → z_S → Option (Int32 × z_S)) (rc4 : Int32 → z_S → Option (Int32 × z_S)) (rc5 : Int32 → z_S → Option (Int32 × z_S)) (rc6 : Int32 → z_S → Option (Int32 × z_S)) (hrc0 : ∀ (x1 : Int32) (μ : z_S), z_met true rI mX9_test (D + 8) [.ref 92, .int x1] μ (rc0 x1 μ)) (hrc1 : ∀ (x1 : Int32) (μ : z_S), z_met true rI mX9_both (D + 8) [.ref 92, .int x1] μ (rc1 x1 μ)) (hrc2 : ∀ (x1 : Int32) (μ : z_S), z_met true rI mX9_fact (D + 8) [.ref 92, .int x1] μ (rc2 x1 μ)) (hrc3 : ∀ (x1 : Int32) (μ : z_S), z_met true rI mX9_sum (D + 8) [.ref 92, .int x1] μ (rc3 x1 μ)) (hrc4 : ∀ (x1 : Int32) (μ : z_S), z_met true rI mX9_product (D + 8) [.ref 92, .int x1] μ (rc4 x1 μ)) (hrc5 : ∀ (x1 : Int32) (μ : z_S), z_met true rI mX9_part (D + 8) [.ref 92, .int x1] μ (rc5 x1 μ)) (hrc6 : ∀ (x1 : Int32) (μ : z_S), z_met true rI mX9_choice (D + 8) [.ref 92, .int x1] μ (rc6 x1 μ)) (a1 : Int32) (μ : z_S) : z_met true rI mX9_part (D + 1 + 8) [.ref 92, .int a1] μ (g_X9_part N rc0 rc1 rc2 rc3 rc4 rc5 rc6 a1 μ) := by
  refine z_met.of (by decide +kernel) (by show _ ≤ _; first | decide | exact Nat.le_of_ble_eq_true rfl) (lv := [(0, .ref 92), (1, .int a1)]) rfl ?_
  unfold g_X9_part
  refine s_aload_n (pc := 0) 0 dX9_part_0 rfl rfl ?_
  refine s_getR (pc := 1) (ci := 9) (k := 1) (r := 1) dX9_part_1 fl_9_18 kd_92 rfl rs_92_1 ?_
  refine s_getI (pc := 4) (ci := 10) (k := 4) dX9_part_4 fl_9_79 kd_1 rfl ?_
  refine s_iconst (pc := 7) (v := (2 : Int32)) dX9_part_7 (by decide) ?_
  refine s_icmp_ne (pc := 8) (tgt := 45) dX9_part_8 (by decide) ?_ ?_
  · refine s_aload_n (pc := 11) 0 dX9_part_11 rfl rfl ?_
    refine s_getR (pc := 12) (ci := 9) (k := 0) (r := 93) dX9_part_12 fl_9_12 kd_92 rfl rs_92_0 ?_
    refine s_aload_n (pc := 15) 0 dX9_part_15 rfl rfl ?_
    refine s_getR (pc := 16) (ci := 9) (k := 1) (r := 1) dX9_part_16 fl_9_18 kd_92 rfl rs_92_1 ?_
    refine s_iconst (pc := 19) (v := (0 : Int32)) dX9_part_19 (by decide) ?_
    refine s_sipush (pc := 20) (v := (9999 : Int32)) dX9_part_20 (by decide) ?_
    refine s_callVI (pc := 23) (as := [.int (0 : Int32), .int (9999 : Int32)]) (st := [.ref 93]) dX9_part_23 lk_9_82 kd_1 (t_X10_takeNumber N (0 : Int32) (9999 : Int32) μ) (by omega) rfl (Nat.le_of_ble_eq_true rfl) rfl (fun x1 μ_1 => ?_)
    refine s_callVV (pc := 26) (as := [.int x1]) (st := []) dX9_part_26 lk_9_54 kd_93 (t_X0_add N 93 x1 μ_1) (by omega) rfl (by decide) rfl (fun _ μ_2 => ?_)
    refine s_aload_n (pc := 29) 0 dX9_part_29 rfl rfl ?_
    refine s_getR (pc := 30) (ci := 9) (k := 1) (r := 1) dX9_part_30 fl_9_18 kd_92 rfl rs_92_1 ?_
    refine s_getI (pc := 33) (ci := 10) (k := 2) dX9_part_33 fl_9_86 kd_1 rfl ?_
    refine s_if_ne (pc := 36) (tgt := 43) dX9_part_36 (by decide) ?_ ?_
    · refine s_iconst (pc := 39) (v := (1 : Int32)) dX9_part_39 (by decide) ?_
      refine s_goto (pc := 40) (tgt := 44) dX9_part_40 (by decide) ?_
      exact s_zret0 (pc := 44) dX9_part_44 rfl rfl
    · refine s_iconst (pc := 43) (v := (0 : Int32)) dX9_part_43 (by decide) ?_
      exact s_zret0 (pc := 44) dX9_part_44 rfl rfl
  · refine s_aload_n (pc := 45) 0 dX9_part_45 rfl rfl ?_
    refine s_getR (pc := 46) (ci := 9) (k := 1) (r := 1) dX9_part_46 fl_9_18 kd_92 rfl rs_92_1 ?_
    refine s_getI (pc := 49) (ci := 10) (k := 6) dX9_part_49 fl_9_61 kd_1 rfl ?_
    refine s_bipush (pc := 52) (v := (40 : Int32)) dX9_part_52 (by decide) ?_
    refine s_icmp_ne (pc := 54) (tgt := 93) dX9_part_54 (by decide) ?_ ?_
    · refine s_aload_n (pc := 57) 0 dX9_part_57 rfl rfl ?_
      refine s_iload_n (pc := 58) 1 dX9_part_58 rfl rfl ?_
      refine s_callVI (pc := 59) (as := [.int a1]) (st := []) dX9_part_59 lk_9_64 kd_92 (t_X9_opens N a1 μ) (by omega) rfl (by decide) rfl (fun x2 μ_3 => ?_)
      refine s_if_eq (pc := 62) (tgt := 91) dX9_part_62 (by decide) ?_ ?_
      · refine s_iconst (pc := 91) (v := (0 : Int32)) dX9_part_91 (by decide) ?_
        exact s_zret0 (pc := 92) dX9_part_92 rfl rfl
      · refine s_aload_n (pc := 65) 0 dX9_part_65 rfl rfl ?_
        refine s_iload_n (pc := 66) 1 dX9_part_66 rfl rfl ?_
        refine s_iconst (pc := 67) (v := (1 : Int32)) dX9_part_67 (by decide) ?_
        refine s_iadd (pc := 68) dX9_part_68 ?_
        refine s_callVI (pc := 69) (as := [.int (a1 + (1 : Int32))]) (st := []) dX9_part_69 lk_9_30 kd_92 (hrc3 (a1 + (1 : Int32)) μ_3) (by omega) rfl (by decide) rfl (fun x3 μ_4 => ?_)
        refine s_if_eq (pc := 72) (tgt := 91) dX9_part_72 (by decide) ?_ ?_
        · refine s_iconst (pc := 91) (v := (0 : Int32)) dX9_part_91 (by decide) ?_
          exact s_zret0 (pc := 92) dX9_part_92 rfl rfl
        · refine s_aload_n (pc := 75) 0 dX9_part_75 rfl rfl ?_
          refine s_getR (pc := 76) (ci := 9) (k := 1) (r := 1) dX9_part_76 fl_9_18 kd_92 rfl rs_92_1 ?_
          refine s_bipush (pc := 79) (v := (41 : Int32)) dX9_part_79 (by decide) ?_
          refine s_callVI (pc := 81) (as := [.int (41 : Int32)]) (st := []) dX9_part_81 lk_9_67 kd_1 (t_X10_takeSign N (41 : Int32) μ_4) (by omega) rfl (by decide) rfl (fun x4 μ_5 => ?_)
          refine s_if_eq (pc := 84) (tgt := 91) dX9_part_84 (by decide) ?_ ?_
          · refine s_iconst (pc := 91) (v := (0 : Int32)) dX9_part_91 (by decide) ?_
            exact s_zret0 (pc := 92) dX9_part_92 rfl rfl
          · refine s_iconst (pc := 87) (v := (1 : Int32)) dX9_part_87 (by decide) ?_
            refine s_goto (pc := 88) (tgt := 92) dX9_part_88 (by decide) ?_
            exact s_zret0 (pc := 92) dX9_part_92 rfl rfl
    · refine s_aload_n (pc := 93) 0 dX9_part_93 rfl rfl ?_
      refine s_getR (pc := 94) (ci := 9) (k := 1) (r := 1) dX9_part_94 fl_9_18 kd_92 rfl rs_92_1 ?_
      refine s_getI (pc := 97) (ci := 10) (k := 7) dX9_part_97 fl_9_46 kd_1 rfl ?_
      refine s_bipush (pc := 100) (v := (26 : Int32)) dX9_part_100 (by decide) ?_
      refine s_icmp_eq (pc := 102) (tgt := 117) dX9_part_102 (by decide) ?_ ?_
      · exact t_X9_part_B117 N rc0 rc1 rc2 rc3 rc4 rc5 rc6 D hrc0 hrc1 hrc2 hrc3 hrc4 hrc5 hrc6 a1 μ
      · refine s_aload_n (pc := 105) 0 dX9_part_105 rfl rfl ?_
        refine s_getR (pc := 106) (ci := 9) (k := 1) (r := 1) dX9_part_106 fl_9_18 kd_92 rfl rs_92_1 ?_
        refine s_getI (pc := 109) (ci := 10) (k := 7) dX9_part_109 fl_9_46 kd_1 rfl ?_
        refine s_bipush (pc := 112) (v := (27 : Int32)) dX9_part_112 (by decide) ?_
        refine s_icmp_ne (pc := 114) (tgt := 123) dX9_part_114 (by decide) ?_ ?_
        · exact t_X9_part_B117 N rc0 rc1 rc2 rc3 rc4 rc5 rc6 D hrc0 hrc1 hrc2 hrc3 hrc4 hrc5 hrc6 a1 μ
        · refine s_aload_n (pc := 123) 0 dX9_part_123 rfl rfl ?_
          refine s_getI (pc := 124) (ci := 9) (k := 2) dX9_part_124 fl_9_26 kd_92 rfl ?_
          refine s_if_eq (pc := 127) (tgt := 177) dX9_part_127 (by decide) ?_ ?_
          · refine s_sub (lv' := [(0, .ref 92)]) [0] rfl ?_
            exact t_X9_part_B177 N rc0 rc1 rc2 rc3 rc4 rc5 rc6 D hrc0 hrc1 hrc2 hrc3 hrc4 hrc5 hrc6 μ
          · refine s_aload_n (pc := 130) 0 dX9_part_130 rfl rfl ?_
            refine s_getR (pc := 131) (ci := 9) (k := 1) (r := 1) dX9_part_131 fl_9_18 kd_92 rfl rs_92_1 ?_
            refine s_getI (pc := 134) (ci := 10) (k := 7) dX9_part_134 fl_9_46 kd_1 rfl ?_
            refine s_bipush (pc := 137) (v := (6 : Int32)) dX9_part_137 (by decide) ?_
            refine s_icmp_ne (pc := 139) (tgt := 177) dX9_part_139 (by decide) ?_ ?_
            · refine s_aload_n (pc := 142) 0 dX9_part_142 rfl rfl ?_
              refine s_iload_n (pc := 143) 1 dX9_part_143 rfl rfl ?_
              refine s_callVI (pc := 144) (as := [.int a1]) (st := []) dX9_part_144 lk_9_64 kd_92 (t_X9_opens N a1 μ) (by omega) rfl (by decide) rfl (fun x9 μ_12 => ?_)
              refine s_if_eq (pc := 147) (tgt := 164) dX9_part_147 (by decide) ?_ ?_
              · refine s_sub (lv' := [(0, .ref 92)]) [0] rfl ?_
                exact t_X9_part_B164 N rc0 rc1 rc2 rc3 rc4 rc5 rc6 D hrc0 hrc1 hrc2 hrc3 hrc4 hrc5 hrc6 μ_12
              · refine s_aload_n (pc := 150) 0 dX9_part_150 rfl rfl ?_
                refine s_iload_n (pc := 151) 1 dX9_part_151 rfl rfl ?_
                refine s_iconst (pc := 152) (v := (1 : Int32)) dX9_part_152 (by decide) ?_
                refine s_iadd (pc := 153) dX9_part_153 ?_
                refine s_callVI (pc := 154) (as := [.int (a1 + (1 : Int32))]) (st := []) dX9_part_154 lk_9_76 kd_92 (hrc5 (a1 + (1 : Int32)) μ_12) (by omega) rfl (by decide) rfl (fun x10 μ_14 => ?_)
                refine s_if_eq (pc := 157) (tgt := 164) dX9_part_157 (by decide) ?_ ?_
                · refine s_sub (lv' := [(0, .ref 92)]) [0] rfl ?_
                  exact t_X9_part_B164 N rc0 rc1 rc2 rc3 rc4 rc5 rc6 D hrc0 hrc1 hrc2 hrc3 hrc4 hrc5 hrc6 μ_14
                · refine s_iconst (pc := 160) (v := (1 : Int32)) dX9_part_160 (by decide) ?_
                  refine s_goto (pc := 161) (tgt := 165) dX9_part_161 (by decide) ?_
                  refine s_sub (lv' := [(0, .ref 92)]) [0] rfl ?_
                  exact t_X9_part_B165 N rc0 rc1 rc2 rc3 rc4 rc5 rc6 D hrc0 hrc1 hrc2 hrc3 hrc4 hrc5 hrc6 (1 : Int32) μ_14
            · refine s_sub (lv' := [(0, .ref 92)]) [0] rfl ?_
              exact t_X9_part_B177 N rc0 rc1 rc2 rc3 rc4 rc5 rc6 D hrc0 hrc1 hrc2 hrc3 hrc4 hrc5 hrc6 μ
def f_X9_choice_B105 (N : Nat) (rc0 : Int32 → z_S → Option (Int32 × z_S)) (rc1 : Int32 → z_S → Option (Int32 × z_S)) (rc2 : Int32 → z_S → Option (Int32 × z_S)) (rc3 : Int32 → z_S → Option (Int32 × z_S)) (rc4 : Int32 → z_S → Option (Int32 × z_S)) (rc5 : Int32 → z_S → Option (Int32 × z_S)) (rc6 : Int32 → z_S → Option (Int32 × z_S)) (v2 : Int32) (s0 : Int32) (μ : z_S) : Option (Int32 × z_S) :=
  z_bn (f_X0_add N 93 v2 μ) fun _ μ_3 => z_zb s0 (some (s0, μ_3))
theorem t_X9_choice_B105 (N : Nat) (rc0 : Int32 → z_S → Option (Int32 × z_S)) (rc1 : Int32 → z_S → Option (Int32 × z_S)) (rc2 : Int32 → z_S → Option (Int32 × z_S)) (rc3 : Int32 → z_S → Option (Int32 × z_S)) (rc4 : Int32 → z_S → Option (Int32 × z_S)) (rc5 : Int32 → z_S → Option (Int32 × z_S)) (rc6 : Int32 → z_S → Option (Int32 × z_S)) (D : Nat) (hrc0 : ∀ (x1 : Int32) (μ : z_S), z_met true rI mX9_test (D + 8) [.ref 92, .int x1] μ (rc0 x1 μ)) (hrc1 : ∀ (x1 : Int32) (μ : z_S), z_met true rI mX9_both (D + 8) [.ref 92, .int x1] μ (rc1 x1 μ)) (hrc2 : ∀ (x1 : Int32) (μ : z_S), z_met true rI mX9_fact (D + 8) [.ref 92, .int x1] μ (rc2 x1 μ)) (hrc3 : ∀ (x1 : Int32) (μ : z_S), z_met true rI mX9_sum (D + 8) [.ref 92, .int x1] μ (rc3 x1 μ)) (hrc4 : ∀ (x1 : Int32) (μ : z_S), z_met true rI mX9_product (D + 8) [.ref 92, .int x1] μ (rc4 x1 μ)) (hrc5 : ∀ (x1 : Int32) (μ : z_S), z_met true rI mX9_part (D + 8) [.ref 92, .int x1] μ (rc5 x1 μ)) (hrc6 : ∀ (x1 : Int32) (μ : z_S), z_met true rI mX9_choice (D + 8) [.ref 92, .int x1] μ (rc6 x1 μ))   (v2 : Int32) (s0 : Int32)  (μ : z_S) : z_sim true rI mX9_choice (D + 1 + 8) (f_X9_choice_B105 N rc0 rc1 rc2 rc3 rc4 rc5 rc6  v2 s0 μ) 105 [(0, .ref 92), (2, .int v2)] [.int s0] μ := by
  unfold f_X9_choice_B105
  refine s_istore_n (pc := 105) (lv' := [(3, .int s0), (0, .ref 92), (2, .int v2)]) dX9_choice_105 rfl (by decide) rfl ?_
  refine s_aload_n (pc := 106) 1 dX9_choice_106 rfl rfl ?_
  refine s_getR (pc := 107) (ci := 9) (k := 0) (r := 93) dX9_choice_107 fl_9_12 kd_92 rfl rs_92_0 ?_
  refine s_iload_n (pc := 110) 2 dX9_choice_110 rfl rfl ?_
  refine s_callVV (pc := 111) (as := [.int v2]) (st := []) dX9_choice_111 lk_9_54 kd_93 (t_X0_add N 93 v2 μ) (by omega) rfl (by decide) rfl (fun _ μ_3 => ?_)
  refine s_iload_n (pc := 114) 0 dX9_choice_114 rfl rfl ?_
  exact s_zret (pc := 115) dX9_choice_115 rfl
def f_X9_choice_B104 (N : Nat) (rc0 : Int32 → z_S → Option (Int32 × z_S)) (rc1 : Int32 → z_S → Option (Int32 × z_S)) (rc2 : Int32 → z_S → Option (Int32 × z_S)) (rc3 : Int32 → z_S → Option (Int32 × z_S)) (rc4 : Int32 → z_S → Option (Int32 × z_S)) (rc5 : Int32 → z_S → Option (Int32 × z_S)) (rc6 : Int32 → z_S → Option (Int32 × z_S)) (v2 : Int32) (μ : z_S) : Option (Int32 × z_S) :=
  f_X9_choice_B105 N rc0 rc1 rc2 rc3 rc4 rc5 rc6 v2 (0 : Int32) μ
theorem t_X9_choice_B104 (N : Nat) (rc0 : Int32 → z_S → Option (Int32 × z_S)) (rc1 : Int32 → z_S → Option (Int32 × z_S)) (rc2 : Int32 → z_S → Option (Int32 × z_S)) (rc3 : Int32 → z_S → Option (Int32 × z_S)) (rc4 : Int32 → z_S → Option (Int32 × z_S)) (rc5 : Int32 → z_S → Option (Int32 × z_S)) (rc6 : Int32 → z_S → Option (Int32 × z_S)) (D : Nat) (hrc0 : ∀ (x1 : Int32) (μ : z_S), z_met true rI mX9_test (D + 8) [.ref 92, .int x1] μ (rc0 x1 μ)) (hrc1 : ∀ (x1 : Int32) (μ : z_S), z_met true rI mX9_both (D + 8) [.ref 92, .int x1] μ (rc1 x1 μ)) (hrc2 : ∀ (x1 : Int32) (μ : z_S), z_met true rI mX9_fact (D + 8) [.ref 92, .int x1] μ (rc2 x1 μ)) (hrc3 : ∀ (x1 : Int32) (μ : z_S), z_met true rI mX9_sum (D + 8) [.ref 92, .int x1] μ (rc3 x1 μ)) (hrc4 : ∀ (x1 : Int32) (μ : z_S), z_met true rI mX9_product (D + 8) [.ref 92, .int x1] μ (rc4 x1 μ)) (hrc5 : ∀ (x1 : Int32) (μ : z_S), z_met true rI mX9_part (D + 8) [.ref 92, .int x1] μ (rc5 x1 μ)) (hrc6 : ∀ (x1 : Int32) (μ : z_S), z_met true rI mX9_choice (D + 8) [.ref 92, .int x1] μ (rc6 x1 μ))   (v2 : Int32)  (μ : z_S) : z_sim true rI mX9_choice (D + 1 + 8) (f_X9_choice_B104 N rc0 rc1 rc2 rc3 rc4 rc5 rc6  v2 μ) 104 [(0, .ref 92), (2, .int v2)] [] μ := by
  unfold f_X9_choice_B104
  refine s_iconst (pc := 104) (v := (0 : Int32)) dX9_choice_104 (by decide) ?_
  exact t_X9_choice_B105 N rc0 rc1 rc2 rc3 rc4 rc5 rc6 D hrc0 hrc1 hrc2 hrc3 hrc4 hrc5 hrc6 v2 (0 : Int32) μ
def f_X9_choice_B19 (N : Nat) (rc0 : Int32 → z_S → Option (Int32 × z_S)) (rc1 : Int32 → z_S → Option (Int32 × z_S)) (rc2 : Int32 → z_S → Option (Int32 × z_S)) (rc3 : Int32 → z_S → Option (Int32 × z_S)) (rc4 : Int32 → z_S → Option (Int32 × z_S)) (rc5 : Int32 → z_S → Option (Int32 × z_S)) (rc6 : Int32 → z_S → Option (Int32 × z_S)) (v1 : Int32) (s0 : Int32) (μ : z_S) : Option (Int32 × z_S) :=
  z_bn (f_X10_next N μ) fun _ μ_1 => if (μ_1.1 1 6) = (40 : Int32) then (z_bn (f_X9_opens N v1 μ_1) fun x1 μ_2 => if x1 = 0 then (f_X9_choice_B104 N rc0 rc1 rc2 rc3 rc4 rc5 rc6 s0 μ_2) else z_bn (rc3 (v1 + (1 : Int32)) μ_2) fun x2 μ_4 => if x2 = 0 then (f_X9_choice_B104 N rc0 rc1 rc2 rc3 rc4 rc5 rc6 s0 μ_4) else z_bn (f_X10_takeSign N (44 : Int32) μ_4) fun x3 μ_5 => if x3 = 0 then (f_X9_choice_B104 N rc0 rc1 rc2 rc3 rc4 rc5 rc6 s0 μ_5) else z_bn (rc3 (v1 + (1 : Int32)) μ_5) fun x4 μ_6 => if x4 = 0 then (f_X9_choice_B104 N rc0 rc1 rc2 rc3 rc4 rc5 rc6 s0 μ_6) else z_bn (f_X10_takeSign N (41 : Int32) μ_6) fun x5 μ_7 => if x5 = 0 then (f_X9_choice_B104 N rc0 rc1 rc2 rc3 rc4 rc5 rc6 s0 μ_7) else f_X9_choice_B105 N rc0 rc1 rc2 rc3 rc4 rc5 rc6 s0 (1 : Int32) μ_7) else z_bn (f_X10_fail N (1 : Int32) μ_1) fun x6 μ_8 => z_zb x6 (some (x6, μ_8))
theorem t_X9_choice_B19 (N : Nat) (rc0 : Int32 → z_S → Option (Int32 × z_S)) (rc1 : Int32 → z_S → Option (Int32 × z_S)) (rc2 : Int32 → z_S → Option (Int32 × z_S)) (rc3 : Int32 → z_S → Option (Int32 × z_S)) (rc4 : Int32 → z_S → Option (Int32 × z_S)) (rc5 : Int32 → z_S → Option (Int32 × z_S)) (rc6 : Int32 → z_S → Option (Int32 × z_S)) (D : Nat) (hrc0 : ∀ (x1 : Int32) (μ : z_S), z_met true rI mX9_test (D + 8) [.ref 92, .int x1] μ (rc0 x1 μ)) (hrc1 : ∀ (x1 : Int32) (μ : z_S), z_met true rI mX9_both (D + 8) [.ref 92, .int x1] μ (rc1 x1 μ)) (hrc2 : ∀ (x1 : Int32) (μ : z_S), z_met true rI mX9_fact (D + 8) [.ref 92, .int x1] μ (rc2 x1 μ)) (hrc3 : ∀ (x1 : Int32) (μ : z_S), z_met true rI mX9_sum (D + 8) [.ref 92, .int x1] μ (rc3 x1 μ)) (hrc4 : ∀ (x1 : Int32) (μ : z_S), z_met true rI mX9_product (D + 8) [.ref 92, .int x1] μ (rc4 x1 μ)) (hrc5 : ∀ (x1 : Int32) (μ : z_S), z_met true rI mX9_part (D + 8) [.ref 92, .int x1] μ (rc5 x1 μ)) (hrc6 : ∀ (x1 : Int32) (μ : z_S), z_met true rI mX9_choice (D + 8) [.ref 92, .int x1] μ (rc6 x1 μ))   (v1 : Int32) (s0 : Int32)  (μ : z_S) : z_sim true rI mX9_choice (D + 1 + 8) (f_X9_choice_B19 N rc0 rc1 rc2 rc3 rc4 rc5 rc6  v1 s0 μ) 19 [(0, .ref 92), (1, .int v1)] [.int s0] μ := by
  unfold f_X9_choice_B19
  refine s_istore_n (pc := 19) (lv' := [(2, .int s0), (0, .ref 92), (1, .int v1)]) dX9_choice_19 rfl (by decide) rfl ?_
  refine s_aload_n (pc := 20) 1 dX9_choice_20 rfl rfl ?_
  refine s_getR (pc := 21) (ci := 9) (k := 1) (r := 1) dX9_choice_21 fl_9_18 kd_92 rfl rs_92_1 ?_
  refine s_callVV (pc := 24) (as := []) (st := []) dX9_choice_24 lk_9_51 kd_1 (t_X10_next N μ) (by omega) rfl (by decide) rfl (fun _ μ_1 => ?_)
  refine s_aload_n (pc := 27) 1 dX9_choice_27 rfl rfl ?_
  refine s_getR (pc := 28) (ci := 9) (k := 1) (r := 1) dX9_choice_28 fl_9_18 kd_92 rfl rs_92_1 ?_
  refine s_getI (pc := 31) (ci := 10) (k := 6) dX9_choice_31 fl_9_61 kd_1 rfl ?_
  refine s_bipush (pc := 34) (v := (40 : Int32)) dX9_choice_34 (by decide) ?_
  refine s_icmp_eq (pc := 36) (tgt := 48) dX9_choice_36 (by decide) ?_ ?_
  · refine s_aload_n (pc := 48) 1 dX9_choice_48 rfl rfl ?_
    refine s_iload_n (pc := 49) 2 dX9_choice_49 rfl rfl ?_
    refine s_callVI (pc := 50) (as := [.int v1]) (st := []) dX9_choice_50 lk_9_64 kd_92 (t_X9_opens N v1 μ_1) (by omega) rfl (by decide) rfl (fun x1 μ_2 => ?_)
    refine s_if_eq (pc := 53) (tgt := 104) dX9_choice_53 (by decide) ?_ ?_
    · refine s_sub (lv' := [(0, .ref 92), (2, .int s0)]) [1, 0] rfl ?_
      exact t_X9_choice_B104 N rc0 rc1 rc2 rc3 rc4 rc5 rc6 D hrc0 hrc1 hrc2 hrc3 hrc4 hrc5 hrc6 s0 μ_2
    · refine s_aload_n (pc := 56) 1 dX9_choice_56 rfl rfl ?_
      refine s_iload_n (pc := 57) 2 dX9_choice_57 rfl rfl ?_
      refine s_iconst (pc := 58) (v := (1 : Int32)) dX9_choice_58 (by decide) ?_
      refine s_iadd (pc := 59) dX9_choice_59 ?_
      refine s_callVI (pc := 60) (as := [.int (v1 + (1 : Int32))]) (st := []) dX9_choice_60 lk_9_30 kd_92 (hrc3 (v1 + (1 : Int32)) μ_2) (by omega) rfl (by decide) rfl (fun x2 μ_4 => ?_)
      refine s_if_eq (pc := 63) (tgt := 104) dX9_choice_63 (by decide) ?_ ?_
      · refine s_sub (lv' := [(0, .ref 92), (2, .int s0)]) [1, 0] rfl ?_
        exact t_X9_choice_B104 N rc0 rc1 rc2 rc3 rc4 rc5 rc6 D hrc0 hrc1 hrc2 hrc3 hrc4 hrc5 hrc6 s0 μ_4
      · refine s_aload_n (pc := 66) 1 dX9_choice_66 rfl rfl ?_
        refine s_getR (pc := 67) (ci := 9) (k := 1) (r := 1) dX9_choice_67 fl_9_18 kd_92 rfl rs_92_1 ?_
        refine s_bipush (pc := 70) (v := (44 : Int32)) dX9_choice_70 (by decide) ?_
        refine s_callVI (pc := 72) (as := [.int (44 : Int32)]) (st := []) dX9_choice_72 lk_9_67 kd_1 (t_X10_takeSign N (44 : Int32) μ_4) (by omega) rfl (by decide) rfl (fun x3 μ_5 => ?_)
        refine s_if_eq (pc := 75) (tgt := 104) dX9_choice_75 (by decide) ?_ ?_
        · refine s_sub (lv' := [(0, .ref 92), (2, .int s0)]) [1, 0] rfl ?_
          exact t_X9_choice_B104 N rc0 rc1 rc2 rc3 rc4 rc5 rc6 D hrc0 hrc1 hrc2 hrc3 hrc4 hrc5 hrc6 s0 μ_5
        · refine s_aload_n (pc := 78) 1 dX9_choice_78 rfl rfl ?_
          refine s_iload_n (pc := 79) 2 dX9_choice_79 rfl rfl ?_
          refine s_iconst (pc := 80) (v := (1 : Int32)) dX9_choice_80 (by decide) ?_
          refine s_iadd (pc := 81) dX9_choice_81 ?_
          refine s_callVI (pc := 82) (as := [.int (v1 + (1 : Int32))]) (st := []) dX9_choice_82 lk_9_30 kd_92 (hrc3 (v1 + (1 : Int32)) μ_5) (by omega) rfl (by decide) rfl (fun x4 μ_6 => ?_)
          refine s_if_eq (pc := 85) (tgt := 104) dX9_choice_85 (by decide) ?_ ?_
          · refine s_sub (lv' := [(0, .ref 92), (2, .int s0)]) [1, 0] rfl ?_
            exact t_X9_choice_B104 N rc0 rc1 rc2 rc3 rc4 rc5 rc6 D hrc0 hrc1 hrc2 hrc3 hrc4 hrc5 hrc6 s0 μ_6
          · refine s_aload_n (pc := 88) 1 dX9_choice_88 rfl rfl ?_
            refine s_getR (pc := 89) (ci := 9) (k := 1) (r := 1) dX9_choice_89 fl_9_18 kd_92 rfl rs_92_1 ?_
            refine s_bipush (pc := 92) (v := (41 : Int32)) dX9_choice_92 (by decide) ?_
            refine s_callVI (pc := 94) (as := [.int (41 : Int32)]) (st := []) dX9_choice_94 lk_9_67 kd_1 (t_X10_takeSign N (41 : Int32) μ_6) (by omega) rfl (by decide) rfl (fun x5 μ_7 => ?_)
            refine s_if_eq (pc := 97) (tgt := 104) dX9_choice_97 (by decide) ?_ ?_
            · refine s_sub (lv' := [(0, .ref 92), (2, .int s0)]) [1, 0] rfl ?_
              exact t_X9_choice_B104 N rc0 rc1 rc2 rc3 rc4 rc5 rc6 D hrc0 hrc1 hrc2 hrc3 hrc4 hrc5 hrc6 s0 μ_7
            · refine s_iconst (pc := 100) (v := (1 : Int32)) dX9_choice_100 (by decide) ?_
              refine s_goto (pc := 101) (tgt := 105) dX9_choice_101 (by decide) ?_
              refine s_sub (lv' := [(0, .ref 92), (2, .int s0)]) [1, 0] rfl ?_
              exact t_X9_choice_B105 N rc0 rc1 rc2 rc3 rc4 rc5 rc6 D hrc0 hrc1 hrc2 hrc3 hrc4 hrc5 hrc6 s0 (1 : Int32) μ_7
  · refine s_aload_n (pc := 39) 1 dX9_choice_39 rfl rfl ?_
    refine s_getR (pc := 40) (ci := 9) (k := 1) (r := 1) dX9_choice_40 fl_9_18 kd_92 rfl rs_92_1 ?_
    refine s_iconst (pc := 43) (v := (1 : Int32)) dX9_choice_43 (by decide) ?_
    refine s_callVI (pc := 44) (as := [.int (1 : Int32)]) (st := []) dX9_choice_44 lk_9_70 kd_1 (t_X10_fail N (1 : Int32) μ_1) (by omega) rfl (by decide) rfl (fun x6 μ_8 => ?_)
    exact s_zret (pc := 47) dX9_choice_47 rfl
def g_X9_choice (N : Nat) (rc0 : Int32 → z_S → Option (Int32 × z_S)) (rc1 : Int32 → z_S → Option (Int32 × z_S)) (rc2 : Int32 → z_S → Option (Int32 × z_S)) (rc3 : Int32 → z_S → Option (Int32 × z_S)) (rc4 : Int32 → z_S → Option (Int32 × z_S)) (rc5 : Int32 → z_S → Option (Int32 × z_S)) (rc6 : Int32 → z_S → Option (Int32 × z_S)) (a1 : Int32) (μ : z_S) : Option (Int32 × z_S) :=
  if (μ.1 1 7) = (26 : Int32) then (f_X9_choice_B19 N rc0 rc1 rc2 rc3 rc4 rc5 rc6 a1 (-15 : Int32) μ) else f_X9_choice_B19 N rc0 rc1 rc2 rc3 rc4 rc5 rc6 a1 (-16 : Int32) μ
theorem tg_X9_choice (N : Nat) (D : Nat) (rc0 : Int32 → z_S → Option (Int32 × z_S)) (rc1 : Int32 → z_S → Option (Int32 × z_S)) (rc2 : Int32 → z_S → Option (Int32 × z_S)) (rc3 : Int32 → z_S → Option (Int32 × z_S)) (rc4 : Int32 → z_S → Option (Int32 × z_S)) (rc5 : Int32 → z_S → Option (Int32 × z_S)) (rc6 : Int32 → z_S → Option (Int32 × z_S)) (hrc0 : ∀ (x1 : Int32) (μ : z_S), z_met true rI mX9_test (D + 8) [.ref 92, .int x1] μ (rc0 x1 μ)) (hrc1 : ∀ (x1 : Int32) (μ : z_S), z_met true rI mX9_both (D + 8) [.ref 92, .int x1] μ (rc1 x1 μ)) (hrc2 : ∀ (x1 : Int32) (μ : z_S), z_met true rI mX9_fact (D + 8) [.ref 92, .int x1] μ (rc2 x1 μ)) (hrc3 : ∀ (x1 : Int32) (μ : z_S), z_met true rI mX9_sum (D + 8) [.ref 92, .int x1] μ (rc3 x1 μ)) (hrc4 : ∀ (x1 : Int32) (μ : z_S), z_met true rI mX9_product (D + 8) [.ref 92, .int x1] μ (rc4 x1 μ)) (hrc5 : ∀ (x1 : Int32) (μ : z_S), z_met true rI mX9_part (D + 8) [.ref 92, .int x1] μ (rc5 x1 μ)) (hrc6 : ∀ (x1 : Int32) (μ : z_S), z_met true rI mX9_choice (D + 8) [.ref 92, .int x1] μ (rc6 x1 μ)) (a1 : Int32) (μ : z_S) : z_met true rI mX9_choice (D + 1 + 8) [.ref 92, .int a1] μ (g_X9_choice N rc0 rc1 rc2 rc3 rc4 rc5 rc6 a1 μ) := by
  refine z_met.of (by decide +kernel) (by show _ ≤ _; first | decide | exact Nat.le_of_ble_eq_true rfl) (lv := [(0, .ref 92), (1, .int a1)]) rfl ?_
  unfold g_X9_choice
  refine s_aload_n (pc := 0) 0 dX9_choice_0 rfl rfl ?_
  refine s_getR (pc := 1) (ci := 9) (k := 1) (r := 1) dX9_choice_1 fl_9_18 kd_92 rfl rs_92_1 ?_
  refine s_getI (pc := 4) (ci := 10) (k := 7) dX9_choice_4 fl_9_46 kd_1 rfl ?_
  refine s_bipush (pc := 7) (v := (26 : Int32)) dX9_choice_7 (by decide) ?_
  refine s_icmp_ne (pc := 9) (tgt := 17) dX9_choice_9 (by decide) ?_ ?_
  · refine s_bipush (pc := 12) (v := (-15 : Int32)) dX9_choice_12 (by decide) ?_
    refine s_goto (pc := 14) (tgt := 19) dX9_choice_14 (by decide) ?_
    exact t_X9_choice_B19 N rc0 rc1 rc2 rc3 rc4 rc5 rc6 D hrc0 hrc1 hrc2 hrc3 hrc4 hrc5 hrc6 a1 (-15 : Int32) μ
  · refine s_bipush (pc := 17) (v := (-16 : Int32)) dX9_choice_17 (by decide) ?_
    exact t_X9_choice_B19 N rc0 rc1 rc2 rc3 rc4 rc5 rc6 D hrc0 hrc1 hrc2 hrc3 hrc4 hrc5 hrc6 a1 (-16 : Int32) μ
def r_X9 (N : Nat) : Nat → Nat → Int32 → z_S → Option (Int32 × z_S)
  | 0, _, _, _ => none
  | D + 1, 0, a, μ => g_X9_test N (r_X9 N D 0) (r_X9 N D 1) (r_X9 N D 2) (r_X9 N D 3) (r_X9 N D 4) (r_X9 N D 5) (r_X9 N D 6) a μ
  | D + 1, 1, a, μ => g_X9_both N (r_X9 N D 0) (r_X9 N D 1) (r_X9 N D 2) (r_X9 N D 3) (r_X9 N D 4) (r_X9 N D 5) (r_X9 N D 6) a μ
  | D + 1, 2, a, μ => g_X9_fact N (r_X9 N D 0) (r_X9 N D 1) (r_X9 N D 2) (r_X9 N D 3) (r_X9 N D 4) (r_X9 N D 5) (r_X9 N D 6) a μ
  | D + 1, 3, a, μ => g_X9_sum N (r_X9 N D 0) (r_X9 N D 1) (r_X9 N D 2) (r_X9 N D 3) (r_X9 N D 4) (r_X9 N D 5) (r_X9 N D 6) a μ
  | D + 1, 4, a, μ => g_X9_product N (r_X9 N D 0) (r_X9 N D 1) (r_X9 N D 2) (r_X9 N D 3) (r_X9 N D 4) (r_X9 N D 5) (r_X9 N D 6) a μ
  | D + 1, 5, a, μ => g_X9_part N (r_X9 N D 0) (r_X9 N D 1) (r_X9 N D 2) (r_X9 N D 3) (r_X9 N D 4) (r_X9 N D 5) (r_X9 N D 6) a μ
  | D + 1, 6, a, μ => g_X9_choice N (r_X9 N D 0) (r_X9 N D 1) (r_X9 N D 2) (r_X9 N D 3) (r_X9 N D 4) (r_X9 N D 5) (r_X9 N D 6) a μ
  | D + 1, _ + 7, _, _ => none
theorem tr_X9 (N : Nat) : ∀ D : Nat, (∀ (a : Int32) (μ : z_S), z_met true rI mX9_test (D + 8) [.ref 92, .int a] μ (r_X9 N D 0 a μ)) ∧ (∀ (a : Int32) (μ : z_S), z_met true rI mX9_both (D + 8) [.ref 92, .int a] μ (r_X9 N D 1 a μ)) ∧ (∀ (a : Int32) (μ : z_S), z_met true rI mX9_fact (D + 8) [.ref 92, .int a] μ (r_X9 N D 2 a μ)) ∧ (∀ (a : Int32) (μ : z_S), z_met true rI mX9_sum (D + 8) [.ref 92, .int a] μ (r_X9 N D 3 a μ)) ∧ (∀ (a : Int32) (μ : z_S), z_met true rI mX9_product (D + 8) [.ref 92, .int a] μ (r_X9 N D 4 a μ)) ∧ (∀ (a : Int32) (μ : z_S), z_met true rI mX9_part (D + 8) [.ref 92, .int a] μ (r_X9 N D 5 a μ)) ∧ (∀ (a : Int32) (μ : z_S), z_met true rI mX9_choice (D + 8) [.ref 92, .int a] μ (r_X9 N D 6 a μ))
  | 0 => ⟨(fun _ _ _ _ h => by simp [r_X9] at h), (fun _ _ _ _ h => by simp [r_X9] at h), (fun _ _ _ _ h => by simp [r_X9] at h), (fun _ _ _ _ h => by simp [r_X9] at h), (fun _ _ _ _ h => by simp [r_X9] at h), (fun _ _ _ _ h => by simp [r_X9] at h), (fun _ _ _ _ h => by simp [r_X9] at h)⟩
  | D + 1 => by
    obtain ⟨h0, h1, h2, h3, h4, h5, h6⟩ := tr_X9 N D
    exact ⟨fun a μ => tg_X9_test N D (r_X9 N D 0) (r_X9 N D 1) (r_X9 N D 2) (r_X9 N D 3) (r_X9 N D 4) (r_X9 N D 5) (r_X9 N D 6) h0 h1 h2 h3 h4 h5 h6 a μ, fun a μ => tg_X9_both N D (r_X9 N D 0) (r_X9 N D 1) (r_X9 N D 2) (r_X9 N D 3) (r_X9 N D 4) (r_X9 N D 5) (r_X9 N D 6) h0 h1 h2 h3 h4 h5 h6 a μ, fun a μ => tg_X9_fact N D (r_X9 N D 0) (r_X9 N D 1) (r_X9 N D 2) (r_X9 N D 3) (r_X9 N D 4) (r_X9 N D 5) (r_X9 N D 6) h0 h1 h2 h3 h4 h5 h6 a μ, fun a μ => tg_X9_sum N D (r_X9 N D 0) (r_X9 N D 1) (r_X9 N D 2) (r_X9 N D 3) (r_X9 N D 4) (r_X9 N D 5) (r_X9 N D 6) h0 h1 h2 h3 h4 h5 h6 a μ, fun a μ => tg_X9_product N D (r_X9 N D 0) (r_X9 N D 1) (r_X9 N D 2) (r_X9 N D 3) (r_X9 N D 4) (r_X9 N D 5) (r_X9 N D 6) h0 h1 h2 h3 h4 h5 h6 a μ, fun a μ => tg_X9_part N D (r_X9 N D 0) (r_X9 N D 1) (r_X9 N D 2) (r_X9 N D 3) (r_X9 N D 4) (r_X9 N D 5) (r_X9 N D 6) h0 h1 h2 h3 h4 h5 h6 a μ, fun a μ => tg_X9_choice N D (r_X9 N D 0) (r_X9 N D 1) (r_X9 N D 2) (r_X9 N D 3) (r_X9 N D 4) (r_X9 N D 5) (r_X9 N D 6) h0 h1 h2 h3 h4 h5 h6 a μ⟩
def f_X9_test (N D : Nat) (a1 : Int32) (μ : z_S) : Option (Int32 × z_S) := r_X9 N D 0 a1 μ
theorem t_X9_test (N D : Nat) (a1 : Int32) (μ : z_S) : z_met true rI mX9_test (D + 8) [.ref 92, .int a1] μ (f_X9_test N D a1 μ) := (tr_X9 N D).1 a1 μ
def f_X9_both (N D : Nat) (a1 : Int32) (μ : z_S) : Option (Int32 × z_S) := r_X9 N D 1 a1 μ
theorem t_X9_both (N D : Nat) (a1 : Int32) (μ : z_S) : z_met true rI mX9_both (D + 8) [.ref 92, .int a1] μ (f_X9_both N D a1 μ) := (tr_X9 N D).2.1 a1 μ
def f_X9_fact (N D : Nat) (a1 : Int32) (μ : z_S) : Option (Int32 × z_S) := r_X9 N D 2 a1 μ
theorem t_X9_fact (N D : Nat) (a1 : Int32) (μ : z_S) : z_met true rI mX9_fact (D + 8) [.ref 92, .int a1] μ (f_X9_fact N D a1 μ) := (tr_X9 N D).2.2.1 a1 μ
def f_X9_sum (N D : Nat) (a1 : Int32) (μ : z_S) : Option (Int32 × z_S) := r_X9 N D 3 a1 μ
theorem t_X9_sum (N D : Nat) (a1 : Int32) (μ : z_S) : z_met true rI mX9_sum (D + 8) [.ref 92, .int a1] μ (f_X9_sum N D a1 μ) := (tr_X9 N D).2.2.2.1 a1 μ
def f_X9_product (N D : Nat) (a1 : Int32) (μ : z_S) : Option (Int32 × z_S) := r_X9 N D 4 a1 μ
theorem t_X9_product (N D : Nat) (a1 : Int32) (μ : z_S) : z_met true rI mX9_product (D + 8) [.ref 92, .int a1] μ (f_X9_product N D a1 μ) := (tr_X9 N D).2.2.2.2.1 a1 μ
def f_X9_part (N D : Nat) (a1 : Int32) (μ : z_S) : Option (Int32 × z_S) := r_X9 N D 5 a1 μ
theorem t_X9_part (N D : Nat) (a1 : Int32) (μ : z_S) : z_met true rI mX9_part (D + 8) [.ref 92, .int a1] μ (f_X9_part N D a1 μ) := (tr_X9 N D).2.2.2.2.2.1 a1 μ
def f_X9_choice (N D : Nat) (a1 : Int32) (μ : z_S) : Option (Int32 × z_S) := r_X9 N D 6 a1 μ
theorem t_X9_choice (N D : Nat) (a1 : Int32) (μ : z_S) : z_met true rI mX9_choice (D + 8) [.ref 92, .int a1] μ (f_X9_choice N D a1 μ) := (tr_X9 N D).2.2.2.2.2.2 a1 μ
def f_X9_readHeapSum (N : Nat) (o1 : Nat) (a2 : Int32) (μ : z_S) : Option (Int32 × z_S) :=
  z_ko true o1 2 <| z_bd (z_setI μ 93 1 (0 : Int32)) fun μ_1 => z_bd (z_setI μ_1 92 2 (0 : Int32)) fun μ_2 => z_bn (f_X9_sum N 40 (0 : Int32) μ_2) fun x1 μ_3 => z_bn (f_X2_keep N o1 a2 93 μ_3) fun _ μ_4 => z_zb x1 (some (x1, μ_4))
theorem t_X9_readHeapSum (N : Nat) (o1 : Nat) (a2 : Int32) (μ : z_S) : z_met true rI mX9_readHeapSum 49 [.ref 92, .ref o1, .int a2] μ (f_X9_readHeapSum N o1 a2 μ) := by
  refine z_met.of (by decide +kernel) (by show _ ≤ _; first | decide | exact Nat.le_of_ble_eq_true rfl) (lv := [(0, .ref 92), (1, .ref o1), (2, .int a2)]) rfl ?_
  unfold f_X9_readHeapSum
  refine s_ko (fun hk1 => ?_)
  refine s_aload_n (pc := 0) 0 dX9_readHeapSum_0 rfl rfl ?_
  refine s_getR (pc := 1) (ci := 9) (k := 0) (r := 93) dX9_readHeapSum_1 fl_9_12 kd_92 rfl rs_92_0 ?_
  refine s_iconst (pc := 4) (v := (0 : Int32)) dX9_readHeapSum_4 (by decide) ?_
  refine s_putI (pc := 5) (ci := 0) (k := 1) dX9_readHeapSum_5 fl_9_22 kd_93 rfl rfl (fun μ_1 => ?_)
  refine s_aload_n (pc := 8) 0 dX9_readHeapSum_8 rfl rfl ?_
  refine s_iconst (pc := 9) (v := (0 : Int32)) dX9_readHeapSum_9 (by decide) ?_
  refine s_putZ (pc := 10) (ci := 9) (k := 2) dX9_readHeapSum_10 fl_9_26 kd_92 rfl rfl rfl rfl (fun μ_2 => ?_)
  refine s_aload_n (pc := 13) 0 dX9_readHeapSum_13 rfl rfl ?_
  refine s_iconst (pc := 14) (v := (0 : Int32)) dX9_readHeapSum_14 (by decide) ?_
  refine s_callVI (pc := 15) (as := [.int (0 : Int32)]) (st := []) dX9_readHeapSum_15 lk_9_30 kd_92 (t_X9_sum N 40 (0 : Int32) μ_2) (by omega) rfl (by decide) rfl (fun x1 μ_3 => ?_)
  refine s_istore_n (pc := 18) (lv' := [(3, .int x1), (0, .ref 92), (1, .ref o1), (2, .int a2)]) dX9_readHeapSum_18 rfl (by decide) rfl ?_
  refine s_aload_n (pc := 19) 2 dX9_readHeapSum_19 rfl rfl ?_
  refine s_iload_n (pc := 20) 3 dX9_readHeapSum_20 rfl rfl ?_
  refine s_aload_n (pc := 21) 1 dX9_readHeapSum_21 rfl rfl ?_
  refine s_getR (pc := 22) (ci := 9) (k := 0) (r := 93) dX9_readHeapSum_22 fl_9_12 kd_92 rfl rs_92_0 ?_
  refine s_callVV (pc := 25) (as := [.int a2, .ref 93]) (st := []) dX9_readHeapSum_25 lk_9_34 hk1 (t_X2_keep N o1 a2 93 μ_3) (by omega) rfl (by decide) rfl (fun _ μ_4 => ?_)
  refine s_iload_n (pc := 28) 0 dX9_readHeapSum_28 rfl rfl ?_
  exact s_zret (pc := 29) dX9_readHeapSum_29 rfl
def f_X9_readQuestionSum (N : Nat) (μ : z_S) : Option (Int32 × z_S) :=
  z_bd (z_setI μ 93 1 (0 : Int32)) fun μ_1 => z_bd (z_setI μ_1 92 2 (1 : Int32)) fun μ_2 => z_bn (f_X9_sum N 40 (0 : Int32) μ_2) fun x1 μ_3 => z_zb x1 (some (x1, μ_3))
theorem t_X9_readQuestionSum (N : Nat) (μ : z_S) : z_met true rI mX9_readQuestionSum 49 [.ref 92] μ (f_X9_readQuestionSum N μ) := by
  refine z_met.of (by decide +kernel) (by show _ ≤ _; first | decide | exact Nat.le_of_ble_eq_true rfl) (lv := [(0, .ref 92)]) rfl ?_
  unfold f_X9_readQuestionSum
  refine s_aload_n (pc := 0) 0 dX9_readQuestionSum_0 rfl rfl ?_
  refine s_getR (pc := 1) (ci := 9) (k := 0) (r := 93) dX9_readQuestionSum_1 fl_9_12 kd_92 rfl rs_92_0 ?_
  refine s_iconst (pc := 4) (v := (0 : Int32)) dX9_readQuestionSum_4 (by decide) ?_
  refine s_putI (pc := 5) (ci := 0) (k := 1) dX9_readQuestionSum_5 fl_9_22 kd_93 rfl rfl (fun μ_1 => ?_)
  refine s_aload_n (pc := 8) 0 dX9_readQuestionSum_8 rfl rfl ?_
  refine s_iconst (pc := 9) (v := (1 : Int32)) dX9_readQuestionSum_9 (by decide) ?_
  refine s_putZ (pc := 10) (ci := 9) (k := 2) dX9_readQuestionSum_10 fl_9_26 kd_92 rfl rfl rfl rfl (fun μ_2 => ?_)
  refine s_aload_n (pc := 13) 0 dX9_readQuestionSum_13 rfl rfl ?_
  refine s_iconst (pc := 14) (v := (0 : Int32)) dX9_readQuestionSum_14 (by decide) ?_
  refine s_callVI (pc := 15) (as := [.int (0 : Int32)]) (st := []) dX9_readQuestionSum_15 lk_9_30 kd_92 (t_X9_sum N 40 (0 : Int32) μ_2) (by omega) rfl (by decide) rfl (fun x1 μ_3 => ?_)
  exact s_zret (pc := 18) dX9_readQuestionSum_18 rfl
def f_X9_readTest (N : Nat) (μ : z_S) : Option (Int32 × z_S) :=
  z_bd (z_setI μ 93 1 (0 : Int32)) fun μ_1 => z_bd (z_setI μ_1 92 2 (1 : Int32)) fun μ_2 => z_bn (f_X9_test N 40 (0 : Int32) μ_2) fun x1 μ_3 => z_zb x1 (some (x1, μ_3))
theorem t_X9_readTest (N : Nat) (μ : z_S) : z_met true rI mX9_readTest 49 [.ref 92] μ (f_X9_readTest N μ) := by
  refine z_met.of (by decide +kernel) (by show _ ≤ _; first | decide | exact Nat.le_of_ble_eq_true rfl) (lv := [(0, .ref 92)]) rfl ?_
  unfold f_X9_readTest
  refine s_aload_n (pc := 0) 0 dX9_readTest_0 rfl rfl ?_
  refine s_getR (pc := 1) (ci := 9) (k := 0) (r := 93) dX9_readTest_1 fl_9_12 kd_92 rfl rs_92_0 ?_
  refine s_iconst (pc := 4) (v := (0 : Int32)) dX9_readTest_4 (by decide) ?_
  refine s_putI (pc := 5) (ci := 0) (k := 1) dX9_readTest_5 fl_9_22 kd_93 rfl rfl (fun μ_1 => ?_)
  refine s_aload_n (pc := 8) 0 dX9_readTest_8 rfl rfl ?_
  refine s_iconst (pc := 9) (v := (1 : Int32)) dX9_readTest_9 (by decide) ?_
  refine s_putZ (pc := 10) (ci := 9) (k := 2) dX9_readTest_10 fl_9_26 kd_92 rfl rfl rfl rfl (fun μ_2 => ?_)
  refine s_aload_n (pc := 13) 0 dX9_readTest_13 rfl rfl ?_
  refine s_iconst (pc := 14) (v := (0 : Int32)) dX9_readTest_14 (by decide) ?_
  refine s_callVI (pc := 15) (as := [.int (0 : Int32)]) (st := []) dX9_readTest_15 lk_9_40 kd_92 (t_X9_test N 40 (0 : Int32) μ_2) (by omega) rfl (by decide) rfl (fun x1 μ_3 => ?_)
  exact s_zret (pc := 18) dX9_readTest_18 rfl
