def b_J7_fill_53178_L5 (N : Nat) (o0 : Nat) (c1 : Int32) (c3 : Int32) (kb : Int32 → z_S → Option (Unit × z_S)) (v2 : Int32) (μ : z_S) : Option (Unit × z_S) :=
  if v2 < c3 then (z_in v2 (z_kw true o0).2 <| z_bd (z_setI μ o0 v2.toNatClampNeg c1) fun μ_1 => z_bd (v2 + 1) fun x2 => kb x2 μ_1) else some ((), μ)
theorem tb_J7_fill_53178_L5 (N : Nat) (o0 : Nat) (c1 : Int32) (c3 : Int32) (hk0 : z_kw true o0 = (20, (z_kw true o0).2)) (kb : Int32 → z_S → Option (Unit × z_S)) (hkb : ∀ (a2 : Int32) (μ : z_S), z_sim true rV mJ7_fill_53178 0 (kb a2 μ) 5 [(0, .ref o0), (1, .int c1), (2, .int a2), (3, .int c3)] [] μ) (v2 : Int32) (μ : z_S) : z_sim true rV mJ7_fill_53178 0 (b_J7_fill_53178_L5 N o0 c1 c3 kb v2 μ) 5 [(0, .ref o0), (1, .int c1), (2, .int v2), (3, .int c3)] [] μ := by
  unfold b_J7_fill_53178_L5
  refine s_iload_n (pc := 5) 2 dJ7_fill_53178_5 rfl rfl ?_
  refine s_iload_n (pc := 6) 3 dJ7_fill_53178_6 rfl rfl ?_
  refine s_icmp_ge (pc := 7) (tgt := 20) dJ7_fill_53178_7 (by decide) ?_ ?_
  · refine s_aload_n (pc := 10) 0 dJ7_fill_53178_10 rfl rfl ?_
    refine s_iload_n (pc := 11) 2 dJ7_fill_53178_11 rfl rfl ?_
    refine s_iload_n (pc := 12) 1 dJ7_fill_53178_12 rfl rfl ?_
    refine s_iast (pc := 13) dJ7_fill_53178_13 hk0 (fun μ_1 => ?_)
    refine s_iincB (pc := 14) (lv' := fun x2 => [(2, .int x2), (0, .ref o0), (1, .int c1), (3, .int c3)]) (c := 1) 2 dJ7_fill_53178_14 rfl (by decide) (by decide) (fun _ => rfl) (fun x2 => ?_)
    refine s_goto (pc := 17) (tgt := 5) dJ7_fill_53178_17 (by decide) ?_
    refine s_sub (lv' := [(0, .ref o0), (1, .int c1), (2, .int x2), (3, .int c3)]) [1, 2, 0, 3] rfl ?_
    exact hkb x2 μ_1
  · exact s_vret (pc := 20) dJ7_fill_53178_20 rfl
def f_J7_fill_53178_L5 (N : Nat) (o0 : Nat) (c1 : Int32) (c3 : Int32) : Nat → Int32 → z_S → Option (Unit × z_S)
  | 0, _, _ => none
  | n + 1, v2, μ => b_J7_fill_53178_L5 N o0 c1 c3 (f_J7_fill_53178_L5 N o0 c1 c3 n) v2 μ
theorem t_J7_fill_53178_L5 (N : Nat) (o0 : Nat) (c1 : Int32) (c3 : Int32) (hk0 : z_kw true o0 = (20, (z_kw true o0).2)) : ∀ (n : Nat) (v2 : Int32) (μ : z_S), z_sim true rV mJ7_fill_53178 0 (f_J7_fill_53178_L5 N o0 c1 c3 n v2 μ) 5 [(0, .ref o0), (1, .int c1), (2, .int v2), (3, .int c3)] [] μ
  | 0, _, _ => s_none
  | n + 1, v2, μ => tb_J7_fill_53178_L5 N o0 c1 c3 hk0 (f_J7_fill_53178_L5 N o0 c1 c3 n) (t_J7_fill_53178_L5 N o0 c1 c3 hk0 n) v2 μ
def f_J7_fill_53178 (N : Nat) (o0 : Nat) (a1 : Int32) (μ : z_S) : Option (Unit × z_S) :=
  z_kd true o0 20 <| z_bd (Int32.ofNat (z_kw true o0).2) fun x1 => f_J7_fill_53178_L5 N o0 a1 x1 N (0 : Int32) μ
theorem t_J7_fill_53178 (N : Nat) (o0 : Nat) (a1 : Int32) (μ : z_S) : z_met true rV mJ7_fill_53178 0 [.ref o0, .int a1] μ (f_J7_fill_53178 N o0 a1 μ) := by
  refine z_met.of (by decide +kernel) (by show _ ≤ _; first | decide | exact Nat.le_of_ble_eq_true rfl) (lv := [(0, .ref o0), (1, .int a1)]) rfl ?_
  unfold f_J7_fill_53178
  refine s_kd (fun hk0 => ?_)
  refine s_iconst (pc := 0) (v := (0 : Int32)) dJ7_fill_53178_0 (by decide) ?_
  refine s_istore_n (pc := 1) (lv' := [(2, .int (0 : Int32)), (0, .ref o0), (1, .int a1)]) dJ7_fill_53178_1 rfl (by decide) rfl ?_
  refine s_aload_n (pc := 2) 1 dJ7_fill_53178_2 rfl rfl ?_
  refine s_alen (pc := 3) dJ7_fill_53178_3 hk0 (by decide) (by decide) rfl ?_
  refine s_letI (fun x1 => ?_)
  refine s_istore_n (pc := 4) (lv' := [(3, .int x1), (2, .int (0 : Int32)), (0, .ref o0), (1, .int a1)]) dJ7_fill_53178_4 rfl (by decide) rfl ?_
  refine s_sub (lv' := [(0, .ref o0), (1, .int a1), (2, .int (0 : Int32)), (3, .int x1)]) [2, 3, 1, 0] rfl ?_
  refine t_J7_fill_53178_L5 N o0 a1 x1 hk0 N (0 : Int32) μ
def f_J7_rangeCheck_23922 (N : Nat) (a0 : Int32) (a1 : Int32) (a2 : Int32) (μ : z_S) : Option (Unit × z_S) :=
  if a2 < a1 then none else if a1 < 0 then none else if a0 < a2 then none else some ((), μ)
theorem t_J7_rangeCheck_23922 (N : Nat) (a0 : Int32) (a1 : Int32) (a2 : Int32) (μ : z_S) : z_met true rV mJ7_rangeCheck_23922 0 [.int a0, .int a1, .int a2] μ (f_J7_rangeCheck_23922 N a0 a1 a2 μ) := by
  refine z_met.of (by decide +kernel) (by show _ ≤ _; first | decide | exact Nat.le_of_ble_eq_true rfl) (lv := [(0, .int a0), (1, .int a1), (2, .int a2)]) rfl ?_
  unfold f_J7_rangeCheck_23922
  refine s_iload_n (pc := 0) 1 dJ7_rangeCheck_23922_0 rfl rfl ?_
  refine s_iload_n (pc := 1) 2 dJ7_rangeCheck_23922_1 rfl rfl ?_
  refine s_icmp_le (pc := 2) (tgt := 46) dJ7_rangeCheck_23922_2 (by decide) ?_ ?_
  · exact s_none
  · refine s_iload_n (pc := 46) 1 dJ7_rangeCheck_23922_46 rfl rfl ?_
    refine s_if_ge (pc := 47) (tgt := 59) dJ7_rangeCheck_23922_47 (by decide) ?_ ?_
    · exact s_none
    · refine s_iload_n (pc := 59) 2 dJ7_rangeCheck_23922_59 rfl rfl ?_
      refine s_iload_n (pc := 60) 0 dJ7_rangeCheck_23922_60 rfl rfl ?_
      refine s_icmp_le (pc := 61) (tgt := 73) dJ7_rangeCheck_23922_61 (by decide) ?_ ?_
      · exact s_none
      · exact s_vret (pc := 73) dJ7_rangeCheck_23922_73 rfl
def b_J7_fill_fda19_L10 (N : Nat) (o0 : Nat) (c2 : Int32) (c3 : Int32) (kb : Int32 → z_S → Option (Unit × z_S)) (v4 : Int32) (μ : z_S) : Option (Unit × z_S) :=
  if v4 < c2 then (z_in v4 (z_kw true o0).2 <| z_bd (z_setI μ o0 v4.toNatClampNeg c3) fun μ_2 => z_bd (v4 + 1) fun x1 => kb x1 μ_2) else some ((), μ)
theorem tb_J7_fill_fda19_L10 (N : Nat) (o0 : Nat) (c2 : Int32) (c3 : Int32) (hk0 : z_kw true o0 = (20, (z_kw true o0).2)) (kb : Int32 → z_S → Option (Unit × z_S)) (hkb : ∀ (a4 : Int32) (μ : z_S), z_sim true rV mJ7_fill_fda19 1 (kb a4 μ) 10 [(0, .ref o0), (2, .int c2), (3, .int c3), (4, .int a4)] [] μ) (v4 : Int32) (μ : z_S) : z_sim true rV mJ7_fill_fda19 1 (b_J7_fill_fda19_L10 N o0 c2 c3 kb v4 μ) 10 [(0, .ref o0), (2, .int c2), (3, .int c3), (4, .int v4)] [] μ := by
  unfold b_J7_fill_fda19_L10
  refine s_iload (pc := 10) 3 dJ7_fill_fda19_10 rfl ?_
  refine s_iload_n (pc := 12) 1 dJ7_fill_fda19_12 rfl rfl ?_
  refine s_icmp_ge (pc := 13) (tgt := 27) dJ7_fill_fda19_13 (by decide) ?_ ?_
  · refine s_aload_n (pc := 16) 0 dJ7_fill_fda19_16 rfl rfl ?_
    refine s_iload (pc := 17) 3 dJ7_fill_fda19_17 rfl ?_
    refine s_iload_n (pc := 19) 2 dJ7_fill_fda19_19 rfl rfl ?_
    refine s_iast (pc := 20) dJ7_fill_fda19_20 hk0 (fun μ_2 => ?_)
    refine s_iincB (pc := 21) (lv' := fun x1 => [(4, .int x1), (0, .ref o0), (2, .int c2), (3, .int c3)]) (c := 1) 3 dJ7_fill_fda19_21 rfl (by decide) (by decide) (fun _ => rfl) (fun x1 => ?_)
    refine s_goto (pc := 24) (tgt := 10) dJ7_fill_fda19_24 (by decide) ?_
    refine s_sub (lv' := [(0, .ref o0), (2, .int c2), (3, .int c3), (4, .int x1)]) [1, 2, 3, 0] rfl ?_
    exact hkb x1 μ_2
  · exact s_vret (pc := 27) dJ7_fill_fda19_27 rfl
def f_J7_fill_fda19_L10 (N : Nat) (o0 : Nat) (c2 : Int32) (c3 : Int32) : Nat → Int32 → z_S → Option (Unit × z_S)
  | 0, _, _ => none
  | n + 1, v4, μ => b_J7_fill_fda19_L10 N o0 c2 c3 (f_J7_fill_fda19_L10 N o0 c2 c3 n) v4 μ
theorem t_J7_fill_fda19_L10 (N : Nat) (o0 : Nat) (c2 : Int32) (c3 : Int32) (hk0 : z_kw true o0 = (20, (z_kw true o0).2)) : ∀ (n : Nat) (v4 : Int32) (μ : z_S), z_sim true rV mJ7_fill_fda19 1 (f_J7_fill_fda19_L10 N o0 c2 c3 n v4 μ) 10 [(0, .ref o0), (2, .int c2), (3, .int c3), (4, .int v4)] [] μ
  | 0, _, _ => s_none
  | n + 1, v4, μ => tb_J7_fill_fda19_L10 N o0 c2 c3 hk0 (f_J7_fill_fda19_L10 N o0 c2 c3 n) (t_J7_fill_fda19_L10 N o0 c2 c3 hk0 n) v4 μ
def f_J7_fill_fda19 (N : Nat) (o0 : Nat) (a1 : Int32) (a2 : Int32) (a3 : Int32) (μ : z_S) : Option (Unit × z_S) :=
  z_kd true o0 20 <| z_bn (f_J7_rangeCheck_23922 N (Int32.ofNat (z_kw true o0).2) a1 a2 μ) fun _ μ_1 => f_J7_fill_fda19_L10 N o0 a2 a3 N a1 μ_1
theorem t_J7_fill_fda19 (N : Nat) (o0 : Nat) (a1 : Int32) (a2 : Int32) (a3 : Int32) (μ : z_S) : z_met true rV mJ7_fill_fda19 1 [.ref o0, .int a1, .int a2, .int a3] μ (f_J7_fill_fda19 N o0 a1 a2 a3 μ) := by
  refine z_met.of (by decide +kernel) (by show _ ≤ _; first | decide | exact Nat.le_of_ble_eq_true rfl) (lv := [(0, .ref o0), (1, .int a1), (2, .int a2), (3, .int a3)]) rfl ?_
  unfold f_J7_fill_fda19
  refine s_kd (fun hk0 => ?_)
  refine s_aload_n (pc := 0) 0 dJ7_fill_fda19_0 rfl rfl ?_
  refine s_alen (pc := 1) dJ7_fill_fda19_1 hk0 (by decide) (by decide) rfl ?_
  refine s_iload_n (pc := 2) 1 dJ7_fill_fda19_2 rfl rfl ?_
  refine s_iload_n (pc := 3) 2 dJ7_fill_fda19_3 rfl rfl ?_
  refine s_callSV (pc := 4) (as := [.int (Int32.ofNat (z_kw true o0).2), .int a1, .int a2]) (st := []) dJ7_fill_fda19_4 lk_java_util_Arrays_13 (t_J7_rangeCheck_23922 N (Int32.ofNat (z_kw true o0).2) a1 a2 μ) (by omega) rfl (by decide) rfl (fun _ μ_1 => ?_)
  refine s_iload_n (pc := 7) 1 dJ7_fill_fda19_7 rfl rfl ?_
  refine s_istore (pc := 8) (lv' := [(4, .int a1), (0, .ref o0), (1, .int a1), (2, .int a2), (3, .int a3)]) dJ7_fill_fda19_8 (by decide) rfl ?_
  refine s_sub (lv' := [(0, .ref o0), (2, .int a2), (3, .int a3), (4, .int a1)]) [1, 3, 4, 0] rfl ?_
  refine t_J7_fill_fda19_L10 N o0 a2 a3 hk0 N a1 μ_1
def b_J7_fill_bad5a_L10 (N : Nat) (o0 : Nat) (c2 : Int32) (c3 : Int64) (kb : Int32 → z_S → Option (Unit × z_S)) (v5 : Int32) (μ : z_S) : Option (Unit × z_S) :=
  if v5 < c2 then (z_in v5 (z_kw true o0).2 <| z_bd (z_setJ μ o0 v5.toNatClampNeg c3) fun μ_2 => z_bd (v5 + 1) fun x1 => kb x1 μ_2) else some ((), μ)
theorem tb_J7_fill_bad5a_L10 (N : Nat) (o0 : Nat) (c2 : Int32) (c3 : Int64) (hk0 : z_kw true o0 = (21, (z_kw true o0).2)) (kb : Int32 → z_S → Option (Unit × z_S)) (hkb : ∀ (a5 : Int32) (μ : z_S), z_sim true rV mJ7_fill_bad5a 1 (kb a5 μ) 10 [(0, .ref o0), (2, .int c2), (3, .long c3), (5, .int a5)] [] μ) (v5 : Int32) (μ : z_S) : z_sim true rV mJ7_fill_bad5a 1 (b_J7_fill_bad5a_L10 N o0 c2 c3 kb v5 μ) 10 [(0, .ref o0), (2, .int c2), (3, .long c3), (5, .int v5)] [] μ := by
  unfold b_J7_fill_bad5a_L10
  refine s_iload (pc := 10) 3 dJ7_fill_bad5a_10 rfl ?_
  refine s_iload_n (pc := 12) 1 dJ7_fill_bad5a_12 rfl rfl ?_
  refine s_icmp_ge (pc := 13) (tgt := 27) dJ7_fill_bad5a_13 (by decide) ?_ ?_
  · refine s_aload_n (pc := 16) 0 dJ7_fill_bad5a_16 rfl rfl ?_
    refine s_iload (pc := 17) 3 dJ7_fill_bad5a_17 rfl ?_
    refine s_lload_n (pc := 19) 2 dJ7_fill_bad5a_19 rfl rfl ?_
    refine s_last (pc := 20) dJ7_fill_bad5a_20 hk0 (fun μ_2 => ?_)
    refine s_iincB (pc := 21) (lv' := fun x1 => [(5, .int x1), (0, .ref o0), (2, .int c2), (3, .long c3)]) (c := 1) 3 dJ7_fill_bad5a_21 rfl (by decide) (by decide) (fun _ => rfl) (fun x1 => ?_)
    refine s_goto (pc := 24) (tgt := 10) dJ7_fill_bad5a_24 (by decide) ?_
    refine s_sub (lv' := [(0, .ref o0), (2, .int c2), (3, .long c3), (5, .int x1)]) [1, 2, 3, 0] rfl ?_
    exact hkb x1 μ_2
  · exact s_vret (pc := 27) dJ7_fill_bad5a_27 rfl
def f_J7_fill_bad5a_L10 (N : Nat) (o0 : Nat) (c2 : Int32) (c3 : Int64) : Nat → Int32 → z_S → Option (Unit × z_S)
  | 0, _, _ => none
  | n + 1, v5, μ => b_J7_fill_bad5a_L10 N o0 c2 c3 (f_J7_fill_bad5a_L10 N o0 c2 c3 n) v5 μ
theorem t_J7_fill_bad5a_L10 (N : Nat) (o0 : Nat) (c2 : Int32) (c3 : Int64) (hk0 : z_kw true o0 = (21, (z_kw true o0).2)) : ∀ (n : Nat) (v5 : Int32) (μ : z_S), z_sim true rV mJ7_fill_bad5a 1 (f_J7_fill_bad5a_L10 N o0 c2 c3 n v5 μ) 10 [(0, .ref o0), (2, .int c2), (3, .long c3), (5, .int v5)] [] μ
  | 0, _, _ => s_none
  | n + 1, v5, μ => tb_J7_fill_bad5a_L10 N o0 c2 c3 hk0 (f_J7_fill_bad5a_L10 N o0 c2 c3 n) (t_J7_fill_bad5a_L10 N o0 c2 c3 hk0 n) v5 μ
def f_J7_fill_bad5a (N : Nat) (o0 : Nat) (a1 : Int32) (a2 : Int32) (a3 : Int64) (μ : z_S) : Option (Unit × z_S) :=
  z_kd true o0 21 <| z_bn (f_J7_rangeCheck_23922 N (Int32.ofNat (z_kw true o0).2) a1 a2 μ) fun _ μ_1 => f_J7_fill_bad5a_L10 N o0 a2 a3 N a1 μ_1
theorem t_J7_fill_bad5a (N : Nat) (o0 : Nat) (a1 : Int32) (a2 : Int32) (a3 : Int64) (μ : z_S) : z_met true rV mJ7_fill_bad5a 1 [.ref o0, .int a1, .int a2, .long a3] μ (f_J7_fill_bad5a N o0 a1 a2 a3 μ) := by
  refine z_met.of (by decide +kernel) (by show _ ≤ _; first | decide | exact Nat.le_of_ble_eq_true rfl) (lv := [(0, .ref o0), (1, .int a1), (2, .int a2), (3, .long a3)]) rfl ?_
  unfold f_J7_fill_bad5a
  refine s_kd (fun hk0 => ?_)
  refine s_aload_n (pc := 0) 0 dJ7_fill_bad5a_0 rfl rfl ?_
  refine s_alen (pc := 1) dJ7_fill_bad5a_1 hk0 (by decide) (by decide) rfl ?_
  refine s_iload_n (pc := 2) 1 dJ7_fill_bad5a_2 rfl rfl ?_
  refine s_iload_n (pc := 3) 2 dJ7_fill_bad5a_3 rfl rfl ?_
  refine s_callSV (pc := 4) (as := [.int (Int32.ofNat (z_kw true o0).2), .int a1, .int a2]) (st := []) dJ7_fill_bad5a_4 lk_java_util_Arrays_13 (t_J7_rangeCheck_23922 N (Int32.ofNat (z_kw true o0).2) a1 a2 μ) (by omega) rfl (by decide) rfl (fun _ μ_1 => ?_)
  refine s_iload_n (pc := 7) 1 dJ7_fill_bad5a_7 rfl rfl ?_
  refine s_istore (pc := 8) (lv' := [(5, .int a1), (0, .ref o0), (1, .int a1), (2, .int a2), (3, .long a3)]) dJ7_fill_bad5a_8 (by decide) rfl ?_
  refine s_sub (lv' := [(0, .ref o0), (2, .int a2), (3, .long a3), (5, .int a1)]) [1, 3, 4, 0] rfl ?_
  refine t_J7_fill_bad5a_L10 N o0 a2 a3 hk0 N a1 μ_1
