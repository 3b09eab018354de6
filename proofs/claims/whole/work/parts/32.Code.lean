def f_X0_add (N : Nat) (o0 : Nat) (a1 : Int32) (μ : z_S) : Option (Unit × z_S) :=
  z_ko true o0 0 <| if (μ.1 o0 1) < (1600 : Int32) then (z_bd (μ.1 o0 1) fun x1 => z_bd (z_setI μ o0 1 (x1 + (1 : Int32))) fun μ_1 => z_in x1 1600 <| z_bd (z_setI μ_1 (o0 + 1) x1.toNatClampNeg a1) fun μ_2 => some ((), μ_2)) else some ((), μ)
theorem t_X0_add (N : Nat) (o0 : Nat) (a1 : Int32) (μ : z_S) : z_met true rV mX0_add 0 [.ref o0, .int a1] μ (f_X0_add N o0 a1 μ) := by
  refine z_met.of (by decide +kernel) (by show _ ≤ _; first | decide | exact Nat.le_of_ble_eq_true rfl) (lv := [(0, .ref o0), (1, .int a1)]) rfl ?_
  unfold f_X0_add
  refine s_ko (fun hk0 => ?_)
  refine s_aload_n (pc := 0) 0 dX0_add_0 rfl rfl ?_
  refine s_getI (pc := 1) (ci := 0) (k := 1) dX0_add_1 fl_0_15 hk0 rfl ?_
  refine s_aload_n (pc := 4) 0 dX0_add_4 rfl rfl ?_
  refine s_getR (pc := 5) (ci := 0) (k := 0) (r := (o0 + 1)) dX0_add_5 fl_0_9 hk0 rfl (gr_0_0_0 hk0) ?_
  refine s_alen (pc := 8) (v := (1600 : Int32)) dX0_add_8 (gk_0_1 hk0) (by decide) (by decide) (by decide) ?_
  refine s_icmp_ge (pc := 9) (tgt := 29) dX0_add_9 (by decide) ?_ ?_
  · refine s_aload_n (pc := 12) 0 dX0_add_12 rfl rfl ?_
    refine s_getR (pc := 13) (ci := 0) (k := 0) (r := (o0 + 1)) dX0_add_13 fl_0_9 hk0 rfl (gr_0_0_0 hk0) ?_
    refine s_aload_n (pc := 16) 0 dX0_add_16 rfl rfl ?_
    refine s_dup (pc := 17) dX0_add_17 rfl ?_
    refine s_getI (pc := 18) (ci := 0) (k := 1) dX0_add_18 fl_0_15 hk0 rfl ?_
    refine s_letI (fun x1 => ?_)
    refine s_dup_x1 (pc := 21) dX0_add_21 rfl rfl ?_
    refine s_iconst (pc := 22) (v := (1 : Int32)) dX0_add_22 (by decide) ?_
    refine s_iadd (pc := 23) dX0_add_23 ?_
    refine s_putI (pc := 24) (ci := 0) (k := 1) dX0_add_24 fl_0_15 hk0 rfl rfl (fun μ_1 => ?_)
    refine s_iload_n (pc := 27) 1 dX0_add_27 rfl rfl ?_
    refine s_iast (pc := 28) dX0_add_28 (gk_0_1 hk0) (fun μ_2 => ?_)
    exact s_vret (pc := 29) dX0_add_29 rfl
  · exact s_vret (pc := 29) dX0_add_29 rfl
def b_X0_addAll_L2 (N : Nat) (o0 : Nat) (o1 : Nat) (kb : Int32 → z_S → Option (Unit × z_S)) (v2 : Int32) (μ : z_S) : Option (Unit × z_S) :=
  if v2 < (μ.1 o1 1) then (z_in v2 1600 <| z_bn (f_X0_add N o0 (μ.1 (o1 + 1) v2.toNatClampNeg) μ) fun _ μ_1 => z_bd (v2 + 1) fun x1 => kb x1 μ_1) else some ((), μ)
theorem tb_X0_addAll_L2 (N : Nat) (o0 : Nat) (o1 : Nat) (hk0 : z_kw true o0 = (0, 0)) (hk1 : z_kw true o1 = (0, 0)) (kb : Int32 → z_S → Option (Unit × z_S)) (hkb : ∀ (a2 : Int32) (μ : z_S), z_sim true rV mX0_addAll 1 (kb a2 μ) 2 [(0, .ref o0), (1, .ref o1), (2, .int a2)] [] μ) (v2 : Int32) (μ : z_S) : z_sim true rV mX0_addAll 1 (b_X0_addAll_L2 N o0 o1 kb v2 μ) 2 [(0, .ref o0), (1, .ref o1), (2, .int v2)] [] μ := by
  unfold b_X0_addAll_L2
  refine s_iload_n (pc := 2) 2 dX0_addAll_2 rfl rfl ?_
  refine s_aload_n (pc := 3) 1 dX0_addAll_3 rfl rfl ?_
  refine s_getI (pc := 4) (ci := 0) (k := 1) dX0_addAll_4 fl_0_15 hk1 rfl ?_
  refine s_icmp_ge (pc := 7) (tgt := 26) dX0_addAll_7 (by decide) ?_ ?_
  · refine s_aload_n (pc := 10) 0 dX0_addAll_10 rfl rfl ?_
    refine s_aload_n (pc := 11) 1 dX0_addAll_11 rfl rfl ?_
    refine s_getR (pc := 12) (ci := 0) (k := 0) (r := (o1 + 1)) dX0_addAll_12 fl_0_9 hk1 rfl (gr_0_0_0 hk1) ?_
    refine s_iload_n (pc := 15) 2 dX0_addAll_15 rfl rfl ?_
    refine s_iald (pc := 16) dX0_addAll_16 (gk_0_1 hk1) ?_
    refine s_callVV (pc := 17) (as := [.int (μ.1 (o1 + 1) v2.toNatClampNeg)]) (st := []) dX0_addAll_17 lk_0_19 hk0 (t_X0_add N o0 (μ.1 (o1 + 1) v2.toNatClampNeg) μ) (by omega) rfl (by decide) rfl (fun _ μ_1 => ?_)
    refine s_iincB (pc := 20) (lv' := fun x1 => [(2, .int x1), (0, .ref o0), (1, .ref o1)]) (c := 1) 2 dX0_addAll_20 rfl (by decide) (by decide) (fun _ => rfl) (fun x1 => ?_)
    refine s_goto (pc := 23) (tgt := 2) dX0_addAll_23 (by decide) ?_
    refine s_sub (lv' := [(0, .ref o0), (1, .ref o1), (2, .int x1)]) [1, 2, 0] rfl ?_
    exact hkb x1 μ_1
  · exact s_vret (pc := 26) dX0_addAll_26 rfl
def f_X0_addAll_L2 (N : Nat) (o0 : Nat) (o1 : Nat) : Nat → Int32 → z_S → Option (Unit × z_S)
  | 0, _, _ => none
  | n + 1, v2, μ => b_X0_addAll_L2 N o0 o1 (f_X0_addAll_L2 N o0 o1 n) v2 μ
theorem t_X0_addAll_L2 (N : Nat) (o0 : Nat) (o1 : Nat) (hk0 : z_kw true o0 = (0, 0)) (hk1 : z_kw true o1 = (0, 0)) : ∀ (n : Nat) (v2 : Int32) (μ : z_S), z_sim true rV mX0_addAll 1 (f_X0_addAll_L2 N o0 o1 n v2 μ) 2 [(0, .ref o0), (1, .ref o1), (2, .int v2)] [] μ
  | 0, _, _ => s_none
  | n + 1, v2, μ => tb_X0_addAll_L2 N o0 o1 hk0 hk1 (f_X0_addAll_L2 N o0 o1 n) (t_X0_addAll_L2 N o0 o1 hk0 hk1 n) v2 μ
def f_X0_addAll (N : Nat) (o0 : Nat) (o1 : Nat) (μ : z_S) : Option (Unit × z_S) :=
  z_ko true o0 0 <| z_ko true o1 0 <| f_X0_addAll_L2 N o0 o1 N (0 : Int32) μ
theorem t_X0_addAll (N : Nat) (o0 : Nat) (o1 : Nat) (μ : z_S) : z_met true rV mX0_addAll 1 [.ref o0, .ref o1] μ (f_X0_addAll N o0 o1 μ) := by
  refine z_met.of (by decide +kernel) (by show _ ≤ _; first | decide | exact Nat.le_of_ble_eq_true rfl) (lv := [(0, .ref o0), (1, .ref o1)]) rfl ?_
  unfold f_X0_addAll
  refine s_ko (fun hk0 => ?_)
  refine s_ko (fun hk1 => ?_)
  refine s_iconst (pc := 0) (v := (0 : Int32)) dX0_addAll_0 (by decide) ?_
  refine s_istore_n (pc := 1) (lv' := [(2, .int (0 : Int32)), (0, .ref o0), (1, .ref o1)]) dX0_addAll_1 rfl (by decide) rfl ?_
  refine s_sub (lv' := [(0, .ref o0), (1, .ref o1), (2, .int (0 : Int32))]) [1, 2, 0] rfl ?_
  refine t_X0_addAll_L2 N o0 o1 hk0 hk1 N (0 : Int32) μ
