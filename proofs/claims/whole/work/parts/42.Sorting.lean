def f_X7_isFree_B32 (N : Nat) (o1 : Nat) (c2 : Int32) (c3 : Int32) (kb : Int32 → z_S → Option (Int32 × z_S)) (v4 : Int32) (μ : z_S) : Option (Int32 × z_S) :=
  z_bd (v4 + 1) fun x2 => kb x2 μ
theorem t_X7_isFree_B32 (N : Nat) (o1 : Nat) (c2 : Int32) (c3 : Int32) (hk1 : z_kw true o1 = (2, 0)) (kb : Int32 → z_S → Option (Int32 × z_S)) (hkb : ∀ (a4 : Int32) (μ : z_S), z_sim true rI mX7_isFree 1 (kb a4 μ) 3 [(0, .ref 34), (1, .ref o1), (2, .int c2), (3, .int c3), (4, .int a4)] [] μ) (v4 : Int32)  (μ : z_S) : z_sim true rI mX7_isFree 1 (f_X7_isFree_B32 N o1 c2 c3 kb v4 μ) 32 [(0, .ref 34), (1, .ref o1), (2, .int c2), (3, .int c3), (4, .int v4)] [] μ := by
  unfold f_X7_isFree_B32
  refine s_iincB (pc := 32) (lv' := fun x2 => [(4, .int x2), (0, .ref 34), (1, .ref o1), (2, .int c2), (3, .int c3)]) (c := 1) 4 dX7_isFree_32 rfl (by decide) (by decide) (fun _ => rfl) (fun x2 => ?_)
  refine s_goto (pc := 35) (tgt := 3) dX7_isFree_35 (by decide) ?_
  refine s_sub (lv' := [(0, .ref 34), (1, .ref o1), (2, .int c2), (3, .int c3), (4, .int x2)]) [1, 2, 3, 4, 0] rfl ?_
  exact hkb x2 μ
def b_X7_isFree_L3 (N : Nat) (o1 : Nat) (c2 : Int32) (c3 : Int32) (kb : Int32 → z_S → Option (Int32 × z_S)) (v4 : Int32) (μ : z_S) : Option (Int32 × z_S) :=
  if v4 < c2 then (z_bn (f_X2_isNear N o1 c2 v4 μ) fun x1 μ_1 => if x1 = 0 then (f_X7_isFree_B32 N o1 c2 c3 kb v4 μ_1) else z_in v4 8 <| if (μ_1.1 35 v4.toNatClampNeg) = c3 then (some ((0 : Int32), μ_1)) else f_X7_isFree_B32 N o1 c2 c3 kb v4 μ_1) else some ((1 : Int32), μ)
theorem tb_X7_isFree_L3 (N : Nat) (o1 : Nat) (c2 : Int32) (c3 : Int32) (hk1 : z_kw true o1 = (2, 0)) (kb : Int32 → z_S → Option (Int32 × z_S)) (hkb : ∀ (a4 : Int32) (μ : z_S), z_sim true rI mX7_isFree 1 (kb a4 μ) 3 [(0, .ref 34), (1, .ref o1), (2, .int c2), (3, .int c3), (4, .int a4)] [] μ) (v4 : Int32) (μ : z_S) : z_sim true rI mX7_isFree 1 (b_X7_isFree_L3 N o1 c2 c3 kb v4 μ) 3 [(0, .ref 34), (1, .ref o1), (2, .int c2), (3, .int c3), (4, .int v4)] [] μ := by
  unfold b_X7_isFree_L3
  refine s_iload (pc := 3) 4 dX7_isFree_3 rfl ?_
  refine s_iload_n (pc := 5) 2 dX7_isFree_5 rfl rfl ?_
  refine s_icmp_ge (pc := 6) (tgt := 38) dX7_isFree_6 (by decide) ?_ ?_
  · refine s_aload_n (pc := 9) 1 dX7_isFree_9 rfl rfl ?_
    refine s_iload_n (pc := 10) 2 dX7_isFree_10 rfl rfl ?_
    refine s_iload (pc := 11) 4 dX7_isFree_11 rfl ?_
    refine s_callVI (pc := 13) (as := [.int c2, .int v4]) (st := []) dX7_isFree_13 lk_7_48 hk1 (t_X2_isNear N o1 c2 v4 μ) (by omega) rfl (by decide) rfl (fun x1 μ_1 => ?_)
    refine s_if_eq (pc := 16) (tgt := 32) dX7_isFree_16 (by decide) ?_ ?_
    · exact t_X7_isFree_B32 N o1 c2 c3 hk1 kb hkb v4 μ_1
    · refine s_aload_n (pc := 19) 0 dX7_isFree_19 rfl rfl ?_
      refine s_getR (pc := 20) (ci := 7) (k := 0) (r := 35) dX7_isFree_20 fl_7_9 kd_34 rfl rs_34_0 ?_
      refine s_iload (pc := 23) 4 dX7_isFree_23 rfl ?_
      refine s_iald (pc := 25) dX7_isFree_25 kd_35 ?_
      refine s_iload_n (pc := 26) 3 dX7_isFree_26 rfl rfl ?_
      refine s_icmp_ne (pc := 27) (tgt := 32) dX7_isFree_27 (by decide) ?_ ?_
      · refine s_iconst (pc := 30) (v := (0 : Int32)) dX7_isFree_30 (by decide) ?_
        exact s_zret0 (pc := 31) dX7_isFree_31 rfl rfl
      · exact t_X7_isFree_B32 N o1 c2 c3 hk1 kb hkb v4 μ_1
  · refine s_iconst (pc := 38) (v := (1 : Int32)) dX7_isFree_38 (by decide) ?_
    exact s_zret0 (pc := 39) dX7_isFree_39 rfl rfl
def f_X7_isFree_L3 (N : Nat) (o1 : Nat) (c2 : Int32) (c3 : Int32) : Nat → Int32 → z_S → Option (Int32 × z_S)
  | 0, _, _ => none
  | n + 1, v4, μ => b_X7_isFree_L3 N o1 c2 c3 (f_X7_isFree_L3 N o1 c2 c3 n) v4 μ
theorem t_X7_isFree_L3 (N : Nat) (o1 : Nat) (c2 : Int32) (c3 : Int32) (hk1 : z_kw true o1 = (2, 0)) : ∀ (n : Nat) (v4 : Int32) (μ : z_S), z_sim true rI mX7_isFree 1 (f_X7_isFree_L3 N o1 c2 c3 n v4 μ) 3 [(0, .ref 34), (1, .ref o1), (2, .int c2), (3, .int c3), (4, .int v4)] [] μ
  | 0, _, _ => s_none
  | n + 1, v4, μ => tb_X7_isFree_L3 N o1 c2 c3 hk1 (f_X7_isFree_L3 N o1 c2 c3 n) (t_X7_isFree_L3 N o1 c2 c3 hk1 n) v4 μ
def f_X7_isFree (N : Nat) (o1 : Nat) (a2 : Int32) (a3 : Int32) (μ : z_S) : Option (Int32 × z_S) :=
  z_ko true o1 2 <| f_X7_isFree_L3 N o1 a2 a3 N (0 : Int32) μ
theorem t_X7_isFree (N : Nat) (o1 : Nat) (a2 : Int32) (a3 : Int32) (μ : z_S) : z_met true rI mX7_isFree 1 [.ref 34, .ref o1, .int a2, .int a3] μ (f_X7_isFree N o1 a2 a3 μ) := by
  refine z_met.of (by decide +kernel) (by show _ ≤ _; first | decide | exact Nat.le_of_ble_eq_true rfl) (lv := [(0, .ref 34), (1, .ref o1), (2, .int a2), (3, .int a3)]) rfl ?_
  unfold f_X7_isFree
  refine s_ko (fun hk1 => ?_)
  refine s_iconst (pc := 0) (v := (0 : Int32)) dX7_isFree_0 (by decide) ?_
  refine s_istore (pc := 1) (lv' := [(4, .int (0 : Int32)), (0, .ref 34), (1, .ref o1), (2, .int a2), (3, .int a3)]) dX7_isFree_1 (by decide) rfl ?_
  refine s_sub (lv' := [(0, .ref 34), (1, .ref o1), (2, .int a2), (3, .int a3), (4, .int (0 : Int32))]) [1, 2, 3, 4, 0] rfl ?_
  refine t_X7_isFree_L3 N o1 a2 a3 hk1 N (0 : Int32) μ
def f_X7_paint_B70 (N : Nat) (o1 : Nat) (rc0 : Nat → Int32 → Int32 → Int32 → z_S → Option (Int32 × z_S)) (c2 : Int32) (c3 : Int32) (c4 : Int32) (kb : Int32 → z_S → Option (Int32 × z_S)) (v5 : Int32) (μ : z_S) : Option (Int32 × z_S) :=
  z_bd (v5 + 1) fun x2 => kb x2 μ
theorem t_X7_paint_B70 (N : Nat) (o1 : Nat) (rc0 : Nat → Int32 → Int32 → Int32 → z_S → Option (Int32 × z_S)) (c2 : Int32) (c3 : Int32) (c4 : Int32) (D : Nat) (hk1 : z_kw true o1 = (2, 0)) (hrc0 : ∀ (x1 : Nat) (x2 : Int32) (x3 : Int32) (x4 : Int32) (μ : z_S), z_met true rI mX7_paint (D + 8) [.ref 34, .ref x1, .int x2, .int x3, .int x4] μ (rc0 x1 x2 x3 x4 μ)) (kb : Int32 → z_S → Option (Int32 × z_S)) (hkb : ∀ (a5 : Int32) (μ : z_S), z_sim true rI mX7_paint (D + 1 + 8) (kb a5 μ) 15 [(0, .ref 34), (1, .ref o1), (2, .int c2), (3, .int c3), (4, .int c4), (5, .int a5)] [] μ) (v5 : Int32)  (μ : z_S) : z_sim true rI mX7_paint (D + 1 + 8) (f_X7_paint_B70 N o1 rc0 c2 c3 c4 kb v5 μ) 70 [(0, .ref 34), (1, .ref o1), (2, .int c2), (3, .int c3), (4, .int c4), (5, .int v5)] [] μ := by
  unfold f_X7_paint_B70
  refine s_iincB (pc := 70) (lv' := fun x2 => [(5, .int x2), (0, .ref 34), (1, .ref o1), (2, .int c2), (3, .int c3), (4, .int c4)]) (c := 1) 5 dX7_paint_70 rfl (by decide) (by decide) (fun _ => rfl) (fun x2 => ?_)
  refine s_goto (pc := 73) (tgt := 15) dX7_paint_73 (by decide) ?_
  refine s_sub (lv' := [(0, .ref 34), (1, .ref o1), (2, .int c2), (3, .int c3), (4, .int c4), (5, .int x2)]) [1, 2, 3, 4, 5, 0] rfl ?_
  exact hkb x2 μ
def b_X7_paint_L15 (N : Nat) (o1 : Nat) (rc0 : Nat → Int32 → Int32 → Int32 → z_S → Option (Int32 × z_S)) (c2 : Int32) (c3 : Int32) (c4 : Int32) (kb : Int32 → z_S → Option (Int32 × z_S)) (v5 : Int32) (μ : z_S) : Option (Int32 × z_S) :=
  if c4 < v5 then (some ((0 : Int32), μ)) else if (c3 + (1 : Int32)) < v5 then (some ((0 : Int32), μ)) else z_in c2 8 <| z_bd (z_setI μ 35 c2.toNatClampNeg v5) fun μ_1 => z_bn (f_X7_isFree N o1 c2 v5 μ_1) fun x1 μ_2 => if x1 = 0 then (f_X7_paint_B70 N o1 rc0 c2 c3 c4 kb v5 μ_2) else z_bn (f_J9_max_7cf53 N c3 v5 μ_2) fun x3 μ_3 => z_bn (rc0 o1 (c2 + (1 : Int32)) x3 c4 μ_3) fun x4 μ_4 => if x4 = 0 then (f_X7_paint_B70 N o1 rc0 c2 c3 c4 kb v5 μ_4) else some ((1 : Int32), μ_4)
theorem tb_X7_paint_L15 (N : Nat) (o1 : Nat) (rc0 : Nat → Int32 → Int32 → Int32 → z_S → Option (Int32 × z_S)) (c2 : Int32) (c3 : Int32) (c4 : Int32) (D : Nat) (hk1 : z_kw true o1 = (2, 0)) (hrc0 : ∀ (x1 : Nat) (x2 : Int32) (x3 : Int32) (x4 : Int32) (μ : z_S), z_met true rI mX7_paint (D + 8) [.ref 34, .ref x1, .int x2, .int x3, .int x4] μ (rc0 x1 x2 x3 x4 μ)) (kb : Int32 → z_S → Option (Int32 × z_S)) (hkb : ∀ (a5 : Int32) (μ : z_S), z_sim true rI mX7_paint (D + 1 + 8) (kb a5 μ) 15 [(0, .ref 34), (1, .ref o1), (2, .int c2), (3, .int c3), (4, .int c4), (5, .int a5)] [] μ) (v5 : Int32) (μ : z_S) : z_sim true rI mX7_paint (D + 1 + 8) (b_X7_paint_L15 N o1 rc0 c2 c3 c4 kb v5 μ) 15 [(0, .ref 34), (1, .ref o1), (2, .int c2), (3, .int c3), (4, .int c4), (5, .int v5)] [] μ := by
  unfold b_X7_paint_L15
  refine s_iload (pc := 15) 5 dX7_paint_15 rfl ?_
  refine s_iload (pc := 17) 4 dX7_paint_17 rfl ?_
  refine s_icmp_gt (pc := 19) (tgt := 76) dX7_paint_19 (by decide) ?_ ?_
  · refine s_iconst (pc := 76) (v := (0 : Int32)) dX7_paint_76 (by decide) ?_
    exact s_zret0 (pc := 77) dX7_paint_77 rfl rfl
  · refine s_iload (pc := 22) 5 dX7_paint_22 rfl ?_
    refine s_iload_n (pc := 24) 3 dX7_paint_24 rfl rfl ?_
    refine s_iconst (pc := 25) (v := (1 : Int32)) dX7_paint_25 (by decide) ?_
    refine s_iadd (pc := 26) dX7_paint_26 ?_
    refine s_icmp_gt (pc := 27) (tgt := 76) dX7_paint_27 (by decide) ?_ ?_
    · refine s_iconst (pc := 76) (v := (0 : Int32)) dX7_paint_76 (by decide) ?_
      exact s_zret0 (pc := 77) dX7_paint_77 rfl rfl
    · refine s_aload_n (pc := 30) 0 dX7_paint_30 rfl rfl ?_
      refine s_getR (pc := 31) (ci := 7) (k := 0) (r := 35) dX7_paint_31 fl_7_9 kd_34 rfl rs_34_0 ?_
      refine s_iload_n (pc := 34) 2 dX7_paint_34 rfl rfl ?_
      refine s_iload (pc := 35) 5 dX7_paint_35 rfl ?_
      refine s_iast (pc := 37) dX7_paint_37 kd_35 (fun μ_1 => ?_)
      refine s_aload_n (pc := 38) 0 dX7_paint_38 rfl rfl ?_
      refine s_aload_n (pc := 39) 1 dX7_paint_39 rfl rfl ?_
      refine s_iload_n (pc := 40) 2 dX7_paint_40 rfl rfl ?_
      refine s_iload (pc := 41) 5 dX7_paint_41 rfl ?_
      refine s_callVI (pc := 43) (as := [.ref o1, .int c2, .int v5]) (st := []) dX7_paint_43 lk_7_38 kd_34 (t_X7_isFree N o1 c2 v5 μ_1) (by omega) rfl (by decide) rfl (fun x1 μ_2 => ?_)
      refine s_if_eq (pc := 46) (tgt := 70) dX7_paint_46 (by decide) ?_ ?_
      · exact t_X7_paint_B70 N o1 rc0 c2 c3 c4 D hk1 hrc0 kb hkb v5 μ_2
      · refine s_aload_n (pc := 49) 0 dX7_paint_49 rfl rfl ?_
        refine s_aload_n (pc := 50) 1 dX7_paint_50 rfl rfl ?_
        refine s_iload_n (pc := 51) 2 dX7_paint_51 rfl rfl ?_
        refine s_iconst (pc := 52) (v := (1 : Int32)) dX7_paint_52 (by decide) ?_
        refine s_iadd (pc := 53) dX7_paint_53 ?_
        refine s_iload_n (pc := 54) 3 dX7_paint_54 rfl rfl ?_
        refine s_iload (pc := 55) 5 dX7_paint_55 rfl ?_
        refine s_callSI (pc := 57) (as := [.int c3, .int v5]) (st := [.int (c2 + (1 : Int32)), .ref o1, .ref 34]) dX7_paint_57 lk_7_42 (t_J9_max_7cf53 N c3 v5 μ_2) (by omega) rfl (Nat.le_of_ble_eq_true rfl) rfl (fun x3 μ_3 => ?_)
        refine s_iload (pc := 60) 4 dX7_paint_60 rfl ?_
        refine s_callVI (pc := 62) (as := [.ref o1, .int (c2 + (1 : Int32)), .int x3, .int c4]) (st := []) dX7_paint_62 lk_7_29 kd_34 (hrc0 o1 (c2 + (1 : Int32)) x3 c4 μ_3) (by omega) rfl (by decide) rfl (fun x4 μ_4 => ?_)
        refine s_if_eq (pc := 65) (tgt := 70) dX7_paint_65 (by decide) ?_ ?_
        · exact t_X7_paint_B70 N o1 rc0 c2 c3 c4 D hk1 hrc0 kb hkb v5 μ_4
        · refine s_iconst (pc := 68) (v := (1 : Int32)) dX7_paint_68 (by decide) ?_
          exact s_zret0 (pc := 69) dX7_paint_69 rfl rfl
def f_X7_paint_L15 (N : Nat) (o1 : Nat) (rc0 : Nat → Int32 → Int32 → Int32 → z_S → Option (Int32 × z_S)) (c2 : Int32) (c3 : Int32) (c4 : Int32) : Nat → Int32 → z_S → Option (Int32 × z_S)
  | 0, _, _ => none
  | n + 1, v5, μ => b_X7_paint_L15 N o1 rc0 c2 c3 c4 (f_X7_paint_L15 N o1 rc0 c2 c3 c4 n) v5 μ
theorem t_X7_paint_L15 (N : Nat) (o1 : Nat) (rc0 : Nat → Int32 → Int32 → Int32 → z_S → Option (Int32 × z_S)) (c2 : Int32) (c3 : Int32) (c4 : Int32) (D : Nat) (hk1 : z_kw true o1 = (2, 0)) (hrc0 : ∀ (x1 : Nat) (x2 : Int32) (x3 : Int32) (x4 : Int32) (μ : z_S), z_met true rI mX7_paint (D + 8) [.ref 34, .ref x1, .int x2, .int x3, .int x4] μ (rc0 x1 x2 x3 x4 μ)) : ∀ (n : Nat) (v5 : Int32) (μ : z_S), z_sim true rI mX7_paint (D + 1 + 8) (f_X7_paint_L15 N o1 rc0 c2 c3 c4 n v5 μ) 15 [(0, .ref 34), (1, .ref o1), (2, .int c2), (3, .int c3), (4, .int c4), (5, .int v5)] [] μ
  | 0, _, _ => s_none
  | n + 1, v5, μ => tb_X7_paint_L15 N o1 rc0 c2 c3 c4 D hk1 hrc0 (f_X7_paint_L15 N o1 rc0 c2 c3 c4 n) (t_X7_paint_L15 N o1 rc0 c2 c3 c4 D hk1 hrc0 n) v5 μ
def g_X7_paint (N : Nat) (rc0 : Nat → Int32 → Int32 → Int32 → z_S → Option (Int32 × z_S)) (o1 : Nat) (a2 : Int32) (a3 : Int32) (a4 : Int32) (μ : z_S) : Option (Int32 × z_S) :=
  z_ko true o1 2 <| if a2 < (μ.1 (o1 + 1) 0) then (f_X7_paint_L15 N o1 rc0 a2 a3 a4 N (1 : Int32) μ) else some ((1 : Int32), μ)
theorem tg_X7_paint (N : Nat) (D : Nat) (rc0 : Nat → Int32 → Int32 → Int32 → z_S → Option (Int32 × z_S)) (hrc0 : ∀ (x1 : Nat) (x2 : Int32) (x3 : Int32) (x4 : Int32) (μ : z_S), z_met true rI mX7_paint (D + 8) [.ref 34, .ref x1, .int x2, .int x3, .int x4] μ (rc0 x1 x2 x3 x4 μ)) (o1 : Nat) (a2 : Int32) (a3 : Int32) (a4 : Int32) (μ : z_S) : z_met true rI mX7_paint (D + 1 + 8) [.ref 34, .ref o1, .int a2, .int a3, .int a4] μ (g_X7_paint N rc0 o1 a2 a3 a4 μ) := by
  refine z_met.of (by decide +kernel) (by show _ ≤ _; first | decide | exact Nat.le_of_ble_eq_true rfl) (lv := [(0, .ref 34), (1, .ref o1), (2, .int a2), (3, .int a3), (4, .int a4)]) rfl ?_
  unfold g_X7_paint
  refine s_ko (fun hk1 => ?_)
  refine s_iload_n (pc := 0) 2 dX7_paint_0 rfl rfl ?_
  refine s_aload_n (pc := 1) 1 dX7_paint_1 rfl rfl ?_
  refine s_getR (pc := 2) (ci := 2) (k := 0) (r := (o1 + 1)) dX7_paint_2 fl_7_33 hk1 rfl (gr_2_0_0 hk1) ?_
  refine s_iconst (pc := 5) (v := (0 : Int32)) dX7_paint_5 (by decide) ?_
  refine s_ialdK (pc := 6) (k := 0) dX7_paint_6 (gk_2_1 hk1) (by decide) (by decide) (by decide) ?_
  refine s_icmp_lt (pc := 7) (tgt := 12) dX7_paint_7 (by decide) ?_ ?_
  · refine s_iconst (pc := 12) (v := (1 : Int32)) dX7_paint_12 (by decide) ?_
    refine s_istore (pc := 13) (lv' := [(5, .int (1 : Int32)), (0, .ref 34), (1, .ref o1), (2, .int a2), (3, .int a3), (4, .int a4)]) dX7_paint_13 (by decide) rfl ?_
    refine s_sub (lv' := [(0, .ref 34), (1, .ref o1), (2, .int a2), (3, .int a3), (4, .int a4), (5, .int (1 : Int32))]) [1, 2, 3, 4, 5, 0] rfl ?_
    refine t_X7_paint_L15 N o1 rc0 a2 a3 a4 D hk1 hrc0 N (1 : Int32) μ
  · refine s_iconst (pc := 10) (v := (1 : Int32)) dX7_paint_10 (by decide) ?_
    exact s_zret0 (pc := 11) dX7_paint_11 rfl rfl
def f_X7_paint (N : Nat) : Nat → Nat → Int32 → Int32 → Int32 → z_S → Option (Int32 × z_S)
  | 0, _, _, _, _, _ => none
  | D + 1, x1, x2, x3, x4, μ => g_X7_paint N (f_X7_paint N D) x1 x2 x3 x4 μ
theorem t_X7_paint (N : Nat) : ∀ (D : Nat) (x1 : Nat) (x2 : Int32) (x3 : Int32) (x4 : Int32) (μ : z_S), z_met true rI mX7_paint (D + 8) [.ref 34, .ref x1, .int x2, .int x3, .int x4] μ (f_X7_paint N D x1 x2 x3 x4 μ)
  | 0, _, _, _, _, _ => fun _ _ h => by simp [f_X7_paint] at h
  | D + 1, x1, x2, x3, x4, μ => tg_X7_paint N D (f_X7_paint N D) (t_X7_paint N D) x1 x2 x3 x4 μ
def b_X7_chooseSheets_L7 (N : Nat) (o1 : Nat) (kb : Int32 → z_S → Option (Unit × z_S)) (e24 : Int32 → z_S → Option (Unit × z_S)) (v2 : Int32) (μ : z_S) : Option (Unit × z_S) :=
  if (8 : Int32) < v2 then (some ((), μ)) else z_bn (f_X7_paint N 12 o1 (0 : Int32) (0 : Int32) v2 μ) fun x1 μ_2 => if x1 = 0 then (z_bd (v2 + 1) fun x2 => kb x2 μ_2) else e24 v2 μ_2
theorem tb_X7_chooseSheets_L7 (N : Nat) (o1 : Nat) (hk1 : z_kw true o1 = (2, 0)) (kb : Int32 → z_S → Option (Unit × z_S)) (e24 : Int32 → z_S → Option (Unit × z_S)) (hkb : ∀ (a2 : Int32) (μ : z_S), z_sim true rV mX7_chooseSheets 21 (kb a2 μ) 7 [(0, .ref 34), (1, .ref o1), (2, .int a2)] [] μ) (he24 : ∀ (a2 : Int32) (μ : z_S), z_sim true rV mX7_chooseSheets 21 (e24 a2 μ) 24 [(0, .ref 34), (2, .int a2)] [] μ) (v2 : Int32) (μ : z_S) : z_sim true rV mX7_chooseSheets 21 (b_X7_chooseSheets_L7 N o1 kb e24 v2 μ) 7 [(0, .ref 34), (1, .ref o1), (2, .int v2)] [] μ := by
  unfold b_X7_chooseSheets_L7
  refine s_iload_n (pc := 7) 2 dX7_chooseSheets_7 rfl rfl ?_
  refine s_bipush (pc := 8) (v := (8 : Int32)) dX7_chooseSheets_8 (by decide) ?_
  refine s_icmp_gt (pc := 10) (tgt := 36) dX7_chooseSheets_10 (by decide) ?_ ?_
  · exact s_vret (pc := 36) dX7_chooseSheets_36 rfl
  · refine s_aload_n (pc := 13) 0 dX7_chooseSheets_13 rfl rfl ?_
    refine s_aload_n (pc := 14) 1 dX7_chooseSheets_14 rfl rfl ?_
    refine s_iconst (pc := 15) (v := (0 : Int32)) dX7_chooseSheets_15 (by decide) ?_
    refine s_iconst (pc := 16) (v := (0 : Int32)) dX7_chooseSheets_16 (by decide) ?_
    refine s_iload_n (pc := 17) 2 dX7_chooseSheets_17 rfl rfl ?_
    refine s_callVI (pc := 18) (as := [.ref o1, .int (0 : Int32), .int (0 : Int32), .int v2]) (st := []) dX7_chooseSheets_18 lk_7_29 kd_34 (t_X7_paint N 12 o1 (0 : Int32) (0 : Int32) v2 μ) (by omega) rfl (by decide) rfl (fun x1 μ_2 => ?_)
    refine s_if_eq (pc := 21) (tgt := 30) dX7_chooseSheets_21 (by decide) ?_ ?_
    · refine s_iincB (pc := 30) (lv' := fun x2 => [(2, .int x2), (0, .ref 34), (1, .ref o1)]) (c := 1) 2 dX7_chooseSheets_30 rfl (by decide) (by decide) (fun _ => rfl) (fun x2 => ?_)
      refine s_goto (pc := 33) (tgt := 7) dX7_chooseSheets_33 (by decide) ?_
      refine s_sub (lv' := [(0, .ref 34), (1, .ref o1), (2, .int x2)]) [1, 2, 0] rfl ?_
      exact hkb x2 μ_2
    · refine s_sub (lv' := [(0, .ref 34), (2, .int v2)]) [0, 2] rfl ?_
      exact he24 v2 μ_2
def f_X7_chooseSheets_L7 (N : Nat) (o1 : Nat) (e24 : Int32 → z_S → Option (Unit × z_S)) : Nat → Int32 → z_S → Option (Unit × z_S)
  | 0, _, _ => none
  | n + 1, v2, μ => b_X7_chooseSheets_L7 N o1 (f_X7_chooseSheets_L7 N o1 e24 n) e24 v2 μ
theorem t_X7_chooseSheets_L7 (N : Nat) (o1 : Nat) (hk1 : z_kw true o1 = (2, 0)) (e24 : Int32 → z_S → Option (Unit × z_S)) (he24 : ∀ (a2 : Int32) (μ : z_S), z_sim true rV mX7_chooseSheets 21 (e24 a2 μ) 24 [(0, .ref 34), (2, .int a2)] [] μ) : ∀ (n : Nat) (v2 : Int32) (μ : z_S), z_sim true rV mX7_chooseSheets 21 (f_X7_chooseSheets_L7 N o1 e24 n v2 μ) 7 [(0, .ref 34), (1, .ref o1), (2, .int v2)] [] μ
  | 0, _, _ => s_none
  | n + 1, v2, μ => tb_X7_chooseSheets_L7 N o1 hk1 (f_X7_chooseSheets_L7 N o1 e24 n) e24 (t_X7_chooseSheets_L7 N o1 hk1 e24 he24 n) he24 v2 μ
def f_X7_chooseSheets (N : Nat) (o1 : Nat) (μ : z_S) : Option (Unit × z_S) :=
  z_ko true o1 2 <| z_bd (z_setI μ 34 2 (0 : Int32)) fun μ_1 => f_X7_chooseSheets_L7 N o1 (fun y24_2 μ24 => z_bd (z_setI μ24 34 2 y24_2) fun μ_3 => some ((), μ_3)) N (0 : Int32) μ_1
theorem t_X7_chooseSheets (N : Nat) (o1 : Nat) (μ : z_S) : z_met true rV mX7_chooseSheets 21 [.ref 34, .ref o1] μ (f_X7_chooseSheets N o1 μ) := by
  refine z_met.of (by decide +kernel) (by show _ ≤ _; first | decide | exact Nat.le_of_ble_eq_true rfl) (lv := [(0, .ref 34), (1, .ref o1)]) rfl ?_
  unfold f_X7_chooseSheets
  refine s_ko (fun hk1 => ?_)
  refine s_aload_n (pc := 0) 0 dX7_chooseSheets_0 rfl rfl ?_
  refine s_iconst (pc := 1) (v := (0 : Int32)) dX7_chooseSheets_1 (by decide) ?_
  refine s_putI (pc := 2) (ci := 7) (k := 2) dX7_chooseSheets_2 fl_7_25 kd_34 rfl rfl (fun μ_1 => ?_)
  refine s_iconst (pc := 5) (v := (0 : Int32)) dX7_chooseSheets_5 (by decide) ?_
  refine s_istore_n (pc := 6) (lv' := [(2, .int (0 : Int32)), (0, .ref 34), (1, .ref o1)]) dX7_chooseSheets_6 rfl (by decide) rfl ?_
  refine s_sub (lv' := [(0, .ref 34), (1, .ref o1), (2, .int (0 : Int32))]) [1, 2, 0] rfl ?_
  refine t_X7_chooseSheets_L7 N o1 hk1 _ ?_ N (0 : Int32) μ_1
  · intro y24_2 μ24
    refine s_aload_n (pc := 24) 0 dX7_chooseSheets_24 rfl rfl ?_
    refine s_iload_n (pc := 25) 1 dX7_chooseSheets_25 rfl rfl ?_
    refine s_putI (pc := 26) (ci := 7) (k := 2) dX7_chooseSheets_26 fl_7_25 kd_34 rfl rfl (fun μ_3 => ?_)
    exact s_vret (pc := 29) dX7_chooseSheets_29 rfl
def f_X7_bestOdds_B44 (N : Nat) (o1 : Nat) (c2 : Int32) (kb : Int64 → Int32 → z_S → Option (Int64 × z_S)) (v5 : Int32) (s0 : Int64) (s1 : Int64) (μ : z_S) : Option (Int64 × z_S) :=
  z_bd (s1 * s0) fun x2 => z_bd (v5 + 1) fun x3 => kb x2 x3 μ
theorem t_X7_bestOdds_B44 (N : Nat) (o1 : Nat) (c2 : Int32) (hk1 : z_kw true o1 = (2, 0)) (kb : Int64 → Int32 → z_S → Option (Int64 × z_S)) (hkb : ∀ (a3 : Int64) (a5 : Int32) (μ : z_S), z_sim true rJ mX7_bestOdds 1 (kb a3 a5 μ) 5 [(1, .ref o1), (2, .int c2), (3, .long a3), (5, .int a5)] [] μ) (v5 : Int32) (s0 : Int64) (s1 : Int64)  (μ : z_S) : z_sim true rJ mX7_bestOdds 1 (f_X7_bestOdds_B44 N o1 c2 kb v5 s0 s1 μ) 44 [(1, .ref o1), (2, .int c2), (5, .int v5)] [.long s0, .long s1] μ := by
  unfold f_X7_bestOdds_B44
  refine s_lmul (pc := 44) dX7_bestOdds_44 ?_
  refine s_letJ (fun x2 => ?_)
  refine s_lstore_n (pc := 45) (lv' := [(3, .long x2), (1, .ref o1), (2, .int c2), (5, .int v5)]) dX7_bestOdds_45 rfl (by decide) rfl ?_
  refine s_iincB (pc := 46) (lv' := fun x3 => [(5, .int x3), (3, .long x2), (1, .ref o1), (2, .int c2)]) (c := 1) 3 dX7_bestOdds_46 rfl (by decide) (by decide) (fun _ => rfl) (fun x3 => ?_)
  refine s_goto (pc := 49) (tgt := 5) dX7_bestOdds_49 (by decide) ?_
  refine s_sub (lv' := [(1, .ref o1), (2, .int c2), (3, .long x2), (5, .int x3)]) [2, 3, 1, 0] rfl ?_
  exact hkb x2 x3 μ
def b_X7_bestOdds_L5 (N : Nat) (o1 : Nat) (c2 : Int32) (kb : Int64 → Int32 → z_S → Option (Int64 × z_S)) (v3 : Int64) (v5 : Int32) (μ : z_S) : Option (Int64 × z_S) :=
  if v5 < c2 then (z_in c2 8 <| z_in v5 8 <| z_bd (μ.1 (o1 + 20 + c2.toNatClampNeg) v5.toNatClampNeg) fun x1 => if x1 = (-1 : Int32) then (f_X7_bestOdds_B44 N o1 c2 kb v5 (1 : Int64) v3 μ) else z_bn (f_J9_max_7cf53 N x1 ((10 : Int32) - x1) μ) fun x4 μ_1 => f_X7_bestOdds_B44 N o1 c2 kb v5 x4.toInt64 v3 μ_1) else some (v3, μ)
theorem tb_X7_bestOdds_L5 (N : Nat) (o1 : Nat) (c2 : Int32) (hk1 : z_kw true o1 = (2, 0)) (kb : Int64 → Int32 → z_S → Option (Int64 × z_S)) (hkb : ∀ (a3 : Int64) (a5 : Int32) (μ : z_S), z_sim true rJ mX7_bestOdds 1 (kb a3 a5 μ) 5 [(1, .ref o1), (2, .int c2), (3, .long a3), (5, .int a5)] [] μ) (v3 : Int64) (v5 : Int32) (μ : z_S) : z_sim true rJ mX7_bestOdds 1 (b_X7_bestOdds_L5 N o1 c2 kb v3 v5 μ) 5 [(1, .ref o1), (2, .int c2), (3, .long v3), (5, .int v5)] [] μ := by
  unfold b_X7_bestOdds_L5
  refine s_iload (pc := 5) 3 dX7_bestOdds_5 rfl ?_
  refine s_iload_n (pc := 7) 1 dX7_bestOdds_7 rfl rfl ?_
  refine s_icmp_ge (pc := 8) (tgt := 52) dX7_bestOdds_8 (by decide) ?_ ?_
  · refine s_aload_n (pc := 11) 0 dX7_bestOdds_11 rfl rfl ?_
    refine s_getR (pc := 12) (ci := 2) (k := 7) (r := (o1 + 19)) dX7_bestOdds_12 fl_7_69 hk1 rfl (gr_2_0_7 hk1) ?_
    refine s_iload_n (pc := 15) 1 dX7_bestOdds_15 rfl rfl ?_
    refine s_aald (pc := 16) (r := (o1 + 20 + c2.toNatClampNeg)) dX7_bestOdds_16 (gk_2_19 hk1) (by decide) (by decide) (fun hi => ga_2_19 hk1 hi) (fun hi1 => ?_)
    refine s_iload (pc := 17) 3 dX7_bestOdds_17 rfl ?_
    refine s_iald (pc := 19) dX7_bestOdds_19 (gb_2_19 hk1 hi1) ?_
    refine s_letI (fun x1 => ?_)
    refine s_istore (pc := 20) (lv' := [(6, .int x1), (1, .ref o1), (2, .int c2), (3, .long v3), (5, .int v5)]) dX7_bestOdds_20 (by decide) rfl ?_
    refine s_lload_n (pc := 22) 3 dX7_bestOdds_22 rfl rfl ?_
    refine s_iload (pc := 23) 0 dX7_bestOdds_23 rfl ?_
    refine s_iconst (pc := 25) (v := (-1 : Int32)) dX7_bestOdds_25 (by decide) ?_
    refine s_icmp_ne (pc := 26) (tgt := 33) dX7_bestOdds_26 (by decide) ?_ ?_
    · refine s_lconst (pc := 29) (v := (1 : Int64)) dX7_bestOdds_29 (by decide) ?_
      refine s_goto (pc := 30) (tgt := 44) dX7_bestOdds_30 (by decide) ?_
      refine s_sub (lv' := [(1, .ref o1), (2, .int c2), (5, .int v5)]) [1, 2, 4] rfl ?_
      exact t_X7_bestOdds_B44 N o1 c2 hk1 kb hkb v5 (1 : Int64) v3 μ
    · refine s_iload (pc := 33) 0 dX7_bestOdds_33 rfl ?_
      refine s_bipush (pc := 35) (v := (10 : Int32)) dX7_bestOdds_35 (by decide) ?_
      refine s_iload (pc := 37) 0 dX7_bestOdds_37 rfl ?_
      refine s_isub (pc := 39) dX7_bestOdds_39 ?_
      refine s_callSI (pc := 40) (as := [.int x1, .int ((10 : Int32) - x1)]) (st := [.long v3]) dX7_bestOdds_40 lk_7_42 (t_J9_max_7cf53 N x1 ((10 : Int32) - x1) μ) (by omega) rfl (Nat.le_of_ble_eq_true rfl) rfl (fun x4 μ_1 => ?_)
      refine s_i2l (pc := 43) dX7_bestOdds_43 ?_
      refine s_sub (lv' := [(1, .ref o1), (2, .int c2), (5, .int v5)]) [1, 2, 4] rfl ?_
      exact t_X7_bestOdds_B44 N o1 c2 hk1 kb hkb v5 x4.toInt64 v3 μ_1
  · refine s_lload_n (pc := 52) 2 dX7_bestOdds_52 rfl rfl ?_
    exact s_lret (pc := 53) dX7_bestOdds_53 rfl
def f_X7_bestOdds_L5 (N : Nat) (o1 : Nat) (c2 : Int32) : Nat → Int64 → Int32 → z_S → Option (Int64 × z_S)
  | 0, _, _, _ => none
  | n + 1, v3, v5, μ => b_X7_bestOdds_L5 N o1 c2 (f_X7_bestOdds_L5 N o1 c2 n) v3 v5 μ
theorem t_X7_bestOdds_L5 (N : Nat) (o1 : Nat) (c2 : Int32) (hk1 : z_kw true o1 = (2, 0)) : ∀ (n : Nat) (v3 : Int64) (v5 : Int32) (μ : z_S), z_sim true rJ mX7_bestOdds 1 (f_X7_bestOdds_L5 N o1 c2 n v3 v5 μ) 5 [(1, .ref o1), (2, .int c2), (3, .long v3), (5, .int v5)] [] μ
  | 0, _, _, _ => s_none
  | n + 1, v3, v5, μ => tb_X7_bestOdds_L5 N o1 c2 hk1 (f_X7_bestOdds_L5 N o1 c2 n) (t_X7_bestOdds_L5 N o1 c2 hk1 n) v3 v5 μ
def f_X7_bestOdds (N : Nat) (o1 : Nat) (a2 : Int32) (μ : z_S) : Option (Int64 × z_S) :=
  z_ko true o1 2 <| f_X7_bestOdds_L5 N o1 a2 N (1 : Int64) (0 : Int32) μ
theorem t_X7_bestOdds (N : Nat) (o1 : Nat) (a2 : Int32) (μ : z_S) : z_met true rJ mX7_bestOdds 1 [.ref 34, .ref o1, .int a2] μ (f_X7_bestOdds N o1 a2 μ) := by
  refine z_met.of (by decide +kernel) (by show _ ≤ _; first | decide | exact Nat.le_of_ble_eq_true rfl) (lv := [(0, .ref 34), (1, .ref o1), (2, .int a2)]) rfl ?_
  unfold f_X7_bestOdds
  refine s_ko (fun hk1 => ?_)
  refine s_lconst (pc := 0) (v := (1 : Int64)) dX7_bestOdds_0 (by decide) ?_
  refine s_lstore_n (pc := 1) (lv' := [(3, .long (1 : Int64)), (0, .ref 34), (1, .ref o1), (2, .int a2)]) dX7_bestOdds_1 rfl (by decide) rfl ?_
  refine s_iconst (pc := 2) (v := (0 : Int32)) dX7_bestOdds_2 (by decide) ?_
  refine s_istore (pc := 3) (lv' := [(5, .int (0 : Int32)), (3, .long (1 : Int64)), (0, .ref 34), (1, .ref o1), (2, .int a2)]) dX7_bestOdds_3 (by decide) rfl ?_
  refine s_sub (lv' := [(1, .ref o1), (2, .int a2), (3, .long (1 : Int64)), (5, .int (0 : Int32))]) [3, 4, 1, 0] rfl ?_
  refine t_X7_bestOdds_L5 N o1 a2 hk1 N (1 : Int64) (0 : Int32) μ
def f_X7_oddsOf_B59 (N : Nat) (o1 : Nat) (c2 : Int32) (kb : Int64 → Int32 → z_S → Option (Int64 × z_S)) (v3 : Int64) (v5 : Int32) (μ : z_S) : Option (Int64 × z_S) :=
  z_bd (v5 + 1) fun x2 => kb v3 x2 μ
theorem t_X7_oddsOf_B59 (N : Nat) (o1 : Nat) (c2 : Int32) (hk1 : z_kw true o1 = (2, 0)) (kb : Int64 → Int32 → z_S → Option (Int64 × z_S)) (hkb : ∀ (a3 : Int64) (a5 : Int32) (μ : z_S), z_sim true rJ mX7_oddsOf 0 (kb a3 a5 μ) 5 [(0, .ref 34), (1, .ref o1), (2, .int c2), (3, .long a3), (5, .int a5)] [] μ) (v3 : Int64) (v5 : Int32)  (μ : z_S) : z_sim true rJ mX7_oddsOf 0 (f_X7_oddsOf_B59 N o1 c2 kb v3 v5 μ) 59 [(0, .ref 34), (1, .ref o1), (2, .int c2), (3, .long v3), (5, .int v5)] [] μ := by
  unfold f_X7_oddsOf_B59
  refine s_iincB (pc := 59) (lv' := fun x2 => [(5, .int x2), (0, .ref 34), (1, .ref o1), (2, .int c2), (3, .long v3)]) (c := 1) 4 dX7_oddsOf_59 rfl (by decide) (by decide) (fun _ => rfl) (fun x2 => ?_)
  refine s_goto (pc := 62) (tgt := 5) dX7_oddsOf_62 (by decide) ?_
  refine s_sub (lv' := [(0, .ref 34), (1, .ref o1), (2, .int c2), (3, .long v3), (5, .int x2)]) [1, 2, 3, 4, 0] rfl ?_
  exact hkb v3 x2 μ
def f_X7_oddsOf_B57 (N : Nat) (o1 : Nat) (c2 : Int32) (kb : Int64 → Int32 → z_S → Option (Int64 × z_S)) (v5 : Int32) (s0 : Int64) (s1 : Int64) (μ : z_S) : Option (Int64 × z_S) :=
  z_bd (s1 * s0) fun x3 => f_X7_oddsOf_B59 N o1 c2 kb x3 v5 μ
theorem t_X7_oddsOf_B57 (N : Nat) (o1 : Nat) (c2 : Int32) (hk1 : z_kw true o1 = (2, 0)) (kb : Int64 → Int32 → z_S → Option (Int64 × z_S)) (hkb : ∀ (a3 : Int64) (a5 : Int32) (μ : z_S), z_sim true rJ mX7_oddsOf 0 (kb a3 a5 μ) 5 [(0, .ref 34), (1, .ref o1), (2, .int c2), (3, .long a3), (5, .int a5)] [] μ) (v5 : Int32) (s0 : Int64) (s1 : Int64)  (μ : z_S) : z_sim true rJ mX7_oddsOf 0 (f_X7_oddsOf_B57 N o1 c2 kb v5 s0 s1 μ) 57 [(0, .ref 34), (1, .ref o1), (2, .int c2), (5, .int v5)] [.long s0, .long s1] μ := by
  unfold f_X7_oddsOf_B57
  refine s_lmul (pc := 57) dX7_oddsOf_57 ?_
  refine s_letJ (fun x3 => ?_)
  refine s_lstore_n (pc := 58) (lv' := [(3, .long x3), (0, .ref 34), (1, .ref o1), (2, .int c2), (5, .int v5)]) dX7_oddsOf_58 rfl (by decide) rfl ?_
  refine s_sub (lv' := [(0, .ref 34), (1, .ref o1), (2, .int c2), (3, .long x3), (5, .int v5)]) [1, 2, 3, 0, 4] rfl ?_
  exact t_X7_oddsOf_B59 N o1 c2 hk1 kb hkb x3 v5 μ
def b_X7_oddsOf_L5 (N : Nat) (o1 : Nat) (c2 : Int32) (kb : Int64 → Int32 → z_S → Option (Int64 × z_S)) (v3 : Int64) (v5 : Int32) (μ : z_S) : Option (Int64 × z_S) :=
  if v5 < c2 then (z_in c2 8 <| z_in v5 8 <| z_bd (μ.1 (o1 + 20 + c2.toNatClampNeg) v5.toNatClampNeg) fun x1 => if x1 = (-1 : Int32) then (f_X7_oddsOf_B59 N o1 c2 kb v3 v5 μ) else z_in c2 8 <| z_in v5 8 <| if (μ.1 37 c2.toNatClampNeg) = (μ.1 37 v5.toNatClampNeg) then (f_X7_oddsOf_B57 N o1 c2 kb v5 x1.toInt64 v3 μ) else f_X7_oddsOf_B57 N o1 c2 kb v5 ((10 : Int32) - x1).toInt64 v3 μ) else some (v3, μ)
theorem tb_X7_oddsOf_L5 (N : Nat) (o1 : Nat) (c2 : Int32) (hk1 : z_kw true o1 = (2, 0)) (kb : Int64 → Int32 → z_S → Option (Int64 × z_S)) (hkb : ∀ (a3 : Int64) (a5 : Int32) (μ : z_S), z_sim true rJ mX7_oddsOf 0 (kb a3 a5 μ) 5 [(0, .ref 34), (1, .ref o1), (2, .int c2), (3, .long a3), (5, .int a5)] [] μ) (v3 : Int64) (v5 : Int32) (μ : z_S) : z_sim true rJ mX7_oddsOf 0 (b_X7_oddsOf_L5 N o1 c2 kb v3 v5 μ) 5 [(0, .ref 34), (1, .ref o1), (2, .int c2), (3, .long v3), (5, .int v5)] [] μ := by
  unfold b_X7_oddsOf_L5
  refine s_iload (pc := 5) 4 dX7_oddsOf_5 rfl ?_
  refine s_iload_n (pc := 7) 2 dX7_oddsOf_7 rfl rfl ?_
  refine s_icmp_ge (pc := 8) (tgt := 65) dX7_oddsOf_8 (by decide) ?_ ?_
  · refine s_aload_n (pc := 11) 1 dX7_oddsOf_11 rfl rfl ?_
    refine s_getR (pc := 12) (ci := 2) (k := 7) (r := (o1 + 19)) dX7_oddsOf_12 fl_7_69 hk1 rfl (gr_2_0_7 hk1) ?_
    refine s_iload_n (pc := 15) 2 dX7_oddsOf_15 rfl rfl ?_
    refine s_aald (pc := 16) (r := (o1 + 20 + c2.toNatClampNeg)) dX7_oddsOf_16 (gk_2_19 hk1) (by decide) (by decide) (fun hi => ga_2_19 hk1 hi) (fun hi1 => ?_)
    refine s_iload (pc := 17) 4 dX7_oddsOf_17 rfl ?_
    refine s_iald (pc := 19) dX7_oddsOf_19 (gb_2_19 hk1 hi1) ?_
    refine s_letI (fun x1 => ?_)
    refine s_istore (pc := 20) (lv' := [(6, .int x1), (0, .ref 34), (1, .ref o1), (2, .int c2), (3, .long v3), (5, .int v5)]) dX7_oddsOf_20 (by decide) rfl ?_
    refine s_iload (pc := 22) 0 dX7_oddsOf_22 rfl ?_
    refine s_iconst (pc := 24) (v := (-1 : Int32)) dX7_oddsOf_24 (by decide) ?_
    refine s_icmp_eq (pc := 25) (tgt := 59) dX7_oddsOf_25 (by decide) ?_ ?_
    · refine s_sub (lv' := [(0, .ref 34), (1, .ref o1), (2, .int c2), (3, .long v3), (5, .int v5)]) [1, 2, 3, 4, 5] rfl ?_
      exact t_X7_oddsOf_B59 N o1 c2 hk1 kb hkb v3 v5 μ
    · refine s_lload_n (pc := 28) 4 dX7_oddsOf_28 rfl rfl ?_
      refine s_aload_n (pc := 29) 1 dX7_oddsOf_29 rfl rfl ?_
      refine s_getR (pc := 30) (ci := 7) (k := 4) (r := 37) dX7_oddsOf_30 fl_7_18 kd_34 rfl rs_34_4 ?_
      refine s_iload_n (pc := 33) 3 dX7_oddsOf_33 rfl rfl ?_
      refine s_iald (pc := 34) dX7_oddsOf_34 kd_37 ?_
      refine s_aload_n (pc := 35) 1 dX7_oddsOf_35 rfl rfl ?_
      refine s_getR (pc := 36) (ci := 7) (k := 4) (r := 37) dX7_oddsOf_36 fl_7_18 kd_34 rfl rs_34_4 ?_
      refine s_iload (pc := 39) 5 dX7_oddsOf_39 rfl ?_
      refine s_iald (pc := 41) dX7_oddsOf_41 kd_37 ?_
      refine s_icmp_ne (pc := 42) (tgt := 51) dX7_oddsOf_42 (by decide) ?_ ?_
      · refine s_iload (pc := 45) 0 dX7_oddsOf_45 rfl ?_
        refine s_i2l (pc := 47) dX7_oddsOf_47 ?_
        refine s_goto (pc := 48) (tgt := 57) dX7_oddsOf_48 (by decide) ?_
        refine s_sub (lv' := [(0, .ref 34), (1, .ref o1), (2, .int c2), (5, .int v5)]) [1, 2, 3, 5] rfl ?_
        exact t_X7_oddsOf_B57 N o1 c2 hk1 kb hkb v5 x1.toInt64 v3 μ
      · refine s_bipush (pc := 51) (v := (10 : Int32)) dX7_oddsOf_51 (by decide) ?_
        refine s_iload (pc := 53) 0 dX7_oddsOf_53 rfl ?_
        refine s_isub (pc := 55) dX7_oddsOf_55 ?_
        refine s_i2l (pc := 56) dX7_oddsOf_56 ?_
        refine s_sub (lv' := [(0, .ref 34), (1, .ref o1), (2, .int c2), (5, .int v5)]) [1, 2, 3, 5] rfl ?_
        exact t_X7_oddsOf_B57 N o1 c2 hk1 kb hkb v5 ((10 : Int32) - x1).toInt64 v3 μ
  · refine s_lload_n (pc := 65) 3 dX7_oddsOf_65 rfl rfl ?_
    exact s_lret (pc := 66) dX7_oddsOf_66 rfl
def f_X7_oddsOf_L5 (N : Nat) (o1 : Nat) (c2 : Int32) : Nat → Int64 → Int32 → z_S → Option (Int64 × z_S)
  | 0, _, _, _ => none
  | n + 1, v3, v5, μ => b_X7_oddsOf_L5 N o1 c2 (f_X7_oddsOf_L5 N o1 c2 n) v3 v5 μ
theorem t_X7_oddsOf_L5 (N : Nat) (o1 : Nat) (c2 : Int32) (hk1 : z_kw true o1 = (2, 0)) : ∀ (n : Nat) (v3 : Int64) (v5 : Int32) (μ : z_S), z_sim true rJ mX7_oddsOf 0 (f_X7_oddsOf_L5 N o1 c2 n v3 v5 μ) 5 [(0, .ref 34), (1, .ref o1), (2, .int c2), (3, .long v3), (5, .int v5)] [] μ
  | 0, _, _, _ => s_none
  | n + 1, v3, v5, μ => tb_X7_oddsOf_L5 N o1 c2 hk1 (f_X7_oddsOf_L5 N o1 c2 n) (t_X7_oddsOf_L5 N o1 c2 hk1 n) v3 v5 μ
def f_X7_oddsOf (N : Nat) (o1 : Nat) (a2 : Int32) (μ : z_S) : Option (Int64 × z_S) :=
  z_ko true o1 2 <| f_X7_oddsOf_L5 N o1 a2 N (1 : Int64) (0 : Int32) μ
theorem t_X7_oddsOf (N : Nat) (o1 : Nat) (a2 : Int32) (μ : z_S) : z_met true rJ mX7_oddsOf 0 [.ref 34, .ref o1, .int a2] μ (f_X7_oddsOf N o1 a2 μ) := by
  refine z_met.of (by decide +kernel) (by show _ ≤ _; first | decide | exact Nat.le_of_ble_eq_true rfl) (lv := [(0, .ref 34), (1, .ref o1), (2, .int a2)]) rfl ?_
  unfold f_X7_oddsOf
  refine s_ko (fun hk1 => ?_)
  refine s_lconst (pc := 0) (v := (1 : Int64)) dX7_oddsOf_0 (by decide) ?_
  refine s_lstore_n (pc := 1) (lv' := [(3, .long (1 : Int64)), (0, .ref 34), (1, .ref o1), (2, .int a2)]) dX7_oddsOf_1 rfl (by decide) rfl ?_
  refine s_iconst (pc := 2) (v := (0 : Int32)) dX7_oddsOf_2 (by decide) ?_
  refine s_istore (pc := 3) (lv' := [(5, .int (0 : Int32)), (3, .long (1 : Int64)), (0, .ref 34), (1, .ref o1), (2, .int a2)]) dX7_oddsOf_3 (by decide) rfl ?_
  refine s_sub (lv' := [(0, .ref 34), (1, .ref o1), (2, .int a2), (3, .long (1 : Int64)), (5, .int (0 : Int32))]) [2, 3, 4, 1, 0] rfl ?_
  refine t_X7_oddsOf_L5 N o1 a2 hk1 N (1 : Int64) (0 : Int32) μ
def b_X7_place_L57 (N : Nat) (o1 : Nat) (rc0 : Nat → Int32 → Int32 → Int64 → z_S → Option (Unit × z_S)) (c2 : Int32) (c3 : Int32) (c4 : Int64) (kb : Int32 → z_S → Option (Unit × z_S)) (v6 : Int32) (μ : z_S) : Option (Unit × z_S) :=
  if c3 < v6 then (some ((), μ)) else z_in c2 8 <| z_bd (z_setI μ 37 c2.toNatClampNeg v6) fun μ_1 => z_bn (f_J9_max_7cf53 N c3 (v6 + (1 : Int32)) μ_1) fun x1 μ_2 => z_bn (f_X7_oddsOf N o1 c2 μ_2) fun x2 μ_3 => z_bn (rc0 o1 (c2 + (1 : Int32)) x1 (c4 * x2) μ_3) fun _ μ_4 => z_bd (v6 + 1) fun x3 => kb x3 μ_4
theorem tb_X7_place_L57 (N : Nat) (o1 : Nat) (rc0 : Nat → Int32 → Int32 → Int64 → z_S → Option (Unit × z_S)) (c2 : Int32) (c3 : Int32) (c4 : Int64) (D : Nat) (hk1 : z_kw true o1 = (2, 0)) (hrc0 : ∀ (x1 : Nat) (x2 : Int32) (x3 : Int32) (x4 : Int64) (μ : z_S), z_met true rV mX7_place (D + 8) [.ref 34, .ref x1, .int x2, .int x3, .long x4] μ (rc0 x1 x2 x3 x4 μ)) (kb : Int32 → z_S → Option (Unit × z_S)) (hkb : ∀ (a6 : Int32) (μ : z_S), z_sim true rV mX7_place (D + 1 + 8) (kb a6 μ) 57 [(0, .ref 34), (1, .ref o1), (2, .int c2), (3, .int c3), (4, .long c4), (6, .int a6)] [] μ) (v6 : Int32) (μ : z_S) : z_sim true rV mX7_place (D + 1 + 8) (b_X7_place_L57 N o1 rc0 c2 c3 c4 kb v6 μ) 57 [(0, .ref 34), (1, .ref o1), (2, .int c2), (3, .int c3), (4, .long c4), (6, .int v6)] [] μ := by
  unfold b_X7_place_L57
  refine s_iload (pc := 57) 5 dX7_place_57 rfl ?_
  refine s_iload_n (pc := 59) 3 dX7_place_59 rfl rfl ?_
  refine s_icmp_gt (pc := 60) (tgt := 102) dX7_place_60 (by decide) ?_ ?_
  · exact s_vret (pc := 102) dX7_place_102 rfl
  · refine s_aload_n (pc := 63) 0 dX7_place_63 rfl rfl ?_
    refine s_getR (pc := 64) (ci := 7) (k := 4) (r := 37) dX7_place_64 fl_7_18 kd_34 rfl rs_34_4 ?_
    refine s_iload_n (pc := 67) 2 dX7_place_67 rfl rfl ?_
    refine s_iload (pc := 68) 5 dX7_place_68 rfl ?_
    refine s_iast (pc := 70) dX7_place_70 kd_37 (fun μ_1 => ?_)
    refine s_aload_n (pc := 71) 0 dX7_place_71 rfl rfl ?_
    refine s_aload_n (pc := 72) 1 dX7_place_72 rfl rfl ?_
    refine s_iload_n (pc := 73) 2 dX7_place_73 rfl rfl ?_
    refine s_iconst (pc := 74) (v := (1 : Int32)) dX7_place_74 (by decide) ?_
    refine s_iadd (pc := 75) dX7_place_75 ?_
    refine s_iload_n (pc := 76) 3 dX7_place_76 rfl rfl ?_
    refine s_iload (pc := 77) 5 dX7_place_77 rfl ?_
    refine s_iconst (pc := 79) (v := (1 : Int32)) dX7_place_79 (by decide) ?_
    refine s_iadd (pc := 80) dX7_place_80 ?_
    refine s_callSI (pc := 81) (as := [.int c3, .int (v6 + (1 : Int32))]) (st := [.int (c2 + (1 : Int32)), .ref o1, .ref 34]) dX7_place_81 lk_7_42 (t_J9_max_7cf53 N c3 (v6 + (1 : Int32)) μ_1) (by omega) rfl (Nat.le_of_ble_eq_true rfl) rfl (fun x1 μ_2 => ?_)
    refine s_lload (pc := 84) 4 dX7_place_84 rfl ?_
    refine s_aload_n (pc := 86) 0 dX7_place_86 rfl rfl ?_
    refine s_aload_n (pc := 87) 1 dX7_place_87 rfl rfl ?_
    refine s_iload_n (pc := 88) 2 dX7_place_88 rfl rfl ?_
    refine s_callVJ (pc := 89) (as := [.ref o1, .int c2]) (st := [.long c4, .int x1, .int (c2 + (1 : Int32)), .ref o1, .ref 34]) dX7_place_89 lk_7_79 kd_34 (t_X7_oddsOf N o1 c2 μ_2) (by omega) rfl (Nat.le_of_ble_eq_true rfl) rfl (fun x2 μ_3 => ?_)
    refine s_lmul (pc := 92) dX7_place_92 ?_
    refine s_callVV (pc := 93) (as := [.ref o1, .int (c2 + (1 : Int32)), .int x1, .long (c4 * x2)]) (st := []) dX7_place_93 lk_7_65 kd_34 (hrc0 o1 (c2 + (1 : Int32)) x1 (c4 * x2) μ_3) (by omega) rfl (by decide) rfl (fun _ μ_4 => ?_)
    refine s_iincB (pc := 96) (lv' := fun x3 => [(6, .int x3), (0, .ref 34), (1, .ref o1), (2, .int c2), (3, .int c3), (4, .long c4)]) (c := 1) 5 dX7_place_96 rfl (by decide) (by decide) (fun _ => rfl) (fun x3 => ?_)
    refine s_goto (pc := 99) (tgt := 57) dX7_place_99 (by decide) ?_
    refine s_sub (lv' := [(0, .ref 34), (1, .ref o1), (2, .int c2), (3, .int c3), (4, .long c4), (6, .int x3)]) [1, 2, 3, 4, 5, 0] rfl ?_
    exact hkb x3 μ_4
def f_X7_place_L57 (N : Nat) (o1 : Nat) (rc0 : Nat → Int32 → Int32 → Int64 → z_S → Option (Unit × z_S)) (c2 : Int32) (c3 : Int32) (c4 : Int64) : Nat → Int32 → z_S → Option (Unit × z_S)
  | 0, _, _ => none
  | n + 1, v6, μ => b_X7_place_L57 N o1 rc0 c2 c3 c4 (f_X7_place_L57 N o1 rc0 c2 c3 c4 n) v6 μ
theorem t_X7_place_L57 (N : Nat) (o1 : Nat) (rc0 : Nat → Int32 → Int32 → Int64 → z_S → Option (Unit × z_S)) (c2 : Int32) (c3 : Int32) (c4 : Int64) (D : Nat) (hk1 : z_kw true o1 = (2, 0)) (hrc0 : ∀ (x1 : Nat) (x2 : Int32) (x3 : Int32) (x4 : Int64) (μ : z_S), z_met true rV mX7_place (D + 8) [.ref 34, .ref x1, .int x2, .int x3, .long x4] μ (rc0 x1 x2 x3 x4 μ)) : ∀ (n : Nat) (v6 : Int32) (μ : z_S), z_sim true rV mX7_place (D + 1 + 8) (f_X7_place_L57 N o1 rc0 c2 c3 c4 n v6 μ) 57 [(0, .ref 34), (1, .ref o1), (2, .int c2), (3, .int c3), (4, .long c4), (6, .int v6)] [] μ
  | 0, _, _ => s_none
  | n + 1, v6, μ => tb_X7_place_L57 N o1 rc0 c2 c3 c4 D hk1 hrc0 (f_X7_place_L57 N o1 rc0 c2 c3 c4 n) (t_X7_place_L57 N o1 rc0 c2 c3 c4 D hk1 hrc0 n) v6 μ
def g_X7_place (N : Nat) (rc0 : Nat → Int32 → Int32 → Int64 → z_S → Option (Unit × z_S)) (o1 : Nat) (a2 : Int32) (a3 : Int32) (a4 : Int64) (μ : z_S) : Option (Unit × z_S) :=
  z_ko true o1 2 <| z_in a2 9 <| if (μ.2.1 34 6) < (a4 * (μ.2.1 38 a2.toNatClampNeg)) then (if a2 < (μ.1 (o1 + 1) 0) then (f_X7_place_L57 N o1 rc0 a2 a3 a4 N (0 : Int32) μ) else z_bd (z_setJ μ 34 6 a4) fun μ_5 => z_bd (z_setI μ_5 34 3 a3) fun μ_6 => z_cpin (0 : Int32) (0 : Int32) a2 8 8 <| z_bd (z_cpS μ_6 37 (0 : Int32).toNatClampNeg 36 (0 : Int32).toNatClampNeg a2.toNatClampNeg) fun μ_7 => some ((), μ_7)) else some ((), μ)
theorem tg_X7_place (N : Nat) (D : Nat) (rc0 : Nat → Int32 → Int32 → Int64 → z_S → Option (Unit × z_S)) (hrc0 : ∀ (x1 : Nat) (x2 : Int32) (x3 : Int32) (x4 : Int64) (μ : z_S), z_met true rV mX7_place (D + 8) [.ref 34, .ref x1, .int x2, .int x3, .long x4] μ (rc0 x1 x2 x3 x4 μ)) (o1 : Nat) (a2 : Int32) (a3 : Int32) (a4 : Int64) (μ : z_S) : z_met true rV mX7_place (D + 1 + 8) [.ref 34, .ref o1, .int a2, .int a3, .long a4] μ (g_X7_place N rc0 o1 a2 a3 a4 μ) := by
  refine z_met.of (by decide +kernel) (by show _ ≤ _; first | decide | exact Nat.le_of_ble_eq_true rfl) (lv := [(0, .ref 34), (1, .ref o1), (2, .int a2), (3, .int a3), (4, .long a4)]) rfl ?_
  unfold g_X7_place
  refine s_ko (fun hk1 => ?_)
  refine s_lload (pc := 0) 4 dX7_place_0 rfl ?_
  refine s_aload_n (pc := 2) 0 dX7_place_2 rfl rfl ?_
  refine s_getR (pc := 3) (ci := 7) (k := 5) (r := 38) dX7_place_3 fl_7_21 kd_34 rfl rs_34_5 ?_
  refine s_iload_n (pc := 6) 2 dX7_place_6 rfl rfl ?_
  refine s_lald (pc := 7) dX7_place_7 kd_38 ?_
  refine s_lmul (pc := 8) dX7_place_8 ?_
  refine s_aload_n (pc := 9) 0 dX7_place_9 rfl rfl ?_
  refine s_getJ (pc := 10) (ci := 7) (k := 6) dX7_place_10 fl_7_58 kd_34 rfl ?_
  refine s_lcmp_gt (pc := 13) (tgt := 18) dX7_place_13 dX7_place_14 (by decide) ?_ ?_
  · refine s_iload_n (pc := 18) 2 dX7_place_18 rfl rfl ?_
    refine s_aload_n (pc := 19) 1 dX7_place_19 rfl rfl ?_
    refine s_getR (pc := 20) (ci := 2) (k := 0) (r := (o1 + 1)) dX7_place_20 fl_7_33 hk1 rfl (gr_2_0_0 hk1) ?_
    refine s_iconst (pc := 23) (v := (0 : Int32)) dX7_place_23 (by decide) ?_
    refine s_ialdK (pc := 24) (k := 0) dX7_place_24 (gk_2_1 hk1) (by decide) (by decide) (by decide) ?_
    refine s_icmp_lt (pc := 25) (tgt := 54) dX7_place_25 (by decide) ?_ ?_
    · refine s_iconst (pc := 54) (v := (0 : Int32)) dX7_place_54 (by decide) ?_
      refine s_istore (pc := 55) (lv' := [(6, .int (0 : Int32)), (0, .ref 34), (1, .ref o1), (2, .int a2), (3, .int a3), (4, .long a4)]) dX7_place_55 (by decide) rfl ?_
      refine s_sub (lv' := [(0, .ref 34), (1, .ref o1), (2, .int a2), (3, .int a3), (4, .long a4), (6, .int (0 : Int32))]) [1, 2, 3, 4, 5, 0] rfl ?_
      refine t_X7_place_L57 N o1 rc0 a2 a3 a4 D hk1 hrc0 N (0 : Int32) μ
    · refine s_aload_n (pc := 28) 0 dX7_place_28 rfl rfl ?_
      refine s_lload (pc := 29) 4 dX7_place_29 rfl ?_
      refine s_putJ (pc := 31) (ci := 7) (k := 6) dX7_place_31 fl_7_58 kd_34 rfl rfl (fun μ_5 => ?_)
      refine s_aload_n (pc := 34) 0 dX7_place_34 rfl rfl ?_
      refine s_iload_n (pc := 35) 3 dX7_place_35 rfl rfl ?_
      refine s_putI (pc := 36) (ci := 7) (k := 3) dX7_place_36 fl_7_62 kd_34 rfl rfl (fun μ_6 => ?_)
      refine s_aload_n (pc := 39) 0 dX7_place_39 rfl rfl ?_
      refine s_getR (pc := 40) (ci := 7) (k := 4) (r := 37) dX7_place_40 fl_7_18 kd_34 rfl rs_34_4 ?_
      refine s_iconst (pc := 43) (v := (0 : Int32)) dX7_place_43 (by decide) ?_
      refine s_aload_n (pc := 44) 0 dX7_place_44 rfl rfl ?_
      refine s_getR (pc := 45) (ci := 7) (k := 1) (r := 36) dX7_place_45 fl_7_15 kd_34 rfl rs_34_1 ?_
      refine s_iconst (pc := 48) (v := (0 : Int32)) dX7_place_48 (by decide) ?_
      refine s_iload_n (pc := 49) 2 dX7_place_49 rfl rfl ?_
      refine s_copy (pc := 50) dX7_place_50 lc_7_73 kd_37 kd_36 (by decide) (fun μ_7 => ?_)
      exact s_vret (pc := 53) dX7_place_53 rfl
  · exact s_vret (pc := 17) dX7_place_17 rfl
def f_X7_place (N : Nat) : Nat → Nat → Int32 → Int32 → Int64 → z_S → Option (Unit × z_S)
  | 0, _, _, _, _, _ => none
  | D + 1, x1, x2, x3, x4, μ => g_X7_place N (f_X7_place N D) x1 x2 x3 x4 μ
theorem t_X7_place (N : Nat) : ∀ (D : Nat) (x1 : Nat) (x2 : Int32) (x3 : Int32) (x4 : Int64) (μ : z_S), z_met true rV mX7_place (D + 8) [.ref 34, .ref x1, .int x2, .int x3, .long x4] μ (f_X7_place N D x1 x2 x3 x4 μ)
  | 0, _, _, _, _, _ => fun _ _ h => by simp [f_X7_place] at h
  | D + 1, x1, x2, x3, x4, μ => tg_X7_place N D (f_X7_place N D) (t_X7_place N D) x1 x2 x3 x4 μ
def b_X7_chooseGroups_L18 (N : Nat) (o1 : Nat) (kb : Int32 → z_S → Option (Unit × z_S)) (e49 : z_S → Option (Unit × z_S)) (v3 : Int32) (μ : z_S) : Option (Unit × z_S) :=
  if v3 < 0 then (e49 μ) else z_in (v3 + (1 : Int32)) 9 <| z_bn (f_X7_bestOdds N o1 v3 μ) fun x3 μ_2 => z_in v3 9 <| z_bd (z_setJ μ_2 38 v3.toNatClampNeg ((μ.2.1 38 (v3 + (1 : Int32)).toNatClampNeg) * x3)) fun μ_3 => z_bd (v3 + (-1)) fun x4 => kb x4 μ_3
theorem tb_X7_chooseGroups_L18 (N : Nat) (o1 : Nat) (hk1 : z_kw true o1 = (2, 0)) (kb : Int32 → z_S → Option (Unit × z_S)) (e49 : z_S → Option (Unit × z_S)) (hkb : ∀ (a3 : Int32) (μ : z_S), z_sim true rV mX7_chooseGroups 21 (kb a3 μ) 18 [(0, .ref 34), (1, .ref o1), (3, .int a3)] [] μ) (he49 : ∀ (μ : z_S), z_sim true rV mX7_chooseGroups 21 (e49 μ) 49 [(0, .ref 34), (1, .ref o1)] [] μ) (v3 : Int32) (μ : z_S) : z_sim true rV mX7_chooseGroups 21 (b_X7_chooseGroups_L18 N o1 kb e49 v3 μ) 18 [(0, .ref 34), (1, .ref o1), (3, .int v3)] [] μ := by
  unfold b_X7_chooseGroups_L18
  refine s_iload_n (pc := 18) 2 dX7_chooseGroups_18 rfl rfl ?_
  refine s_if_lt (pc := 19) (tgt := 49) dX7_chooseGroups_19 (by decide) ?_ ?_
  · refine s_sub (lv' := [(0, .ref 34), (1, .ref o1)]) [0, 1] rfl ?_
    exact he49 μ
  · refine s_aload_n (pc := 22) 0 dX7_chooseGroups_22 rfl rfl ?_
    refine s_getR (pc := 23) (ci := 7) (k := 5) (r := 38) dX7_chooseGroups_23 fl_7_21 kd_34 rfl rs_34_5 ?_
    refine s_iload_n (pc := 26) 2 dX7_chooseGroups_26 rfl rfl ?_
    refine s_aload_n (pc := 27) 0 dX7_chooseGroups_27 rfl rfl ?_
    refine s_getR (pc := 28) (ci := 7) (k := 5) (r := 38) dX7_chooseGroups_28 fl_7_21 kd_34 rfl rs_34_5 ?_
    refine s_iload_n (pc := 31) 2 dX7_chooseGroups_31 rfl rfl ?_
    refine s_iconst (pc := 32) (v := (1 : Int32)) dX7_chooseGroups_32 (by decide) ?_
    refine s_iadd (pc := 33) dX7_chooseGroups_33 ?_
    refine s_lald (pc := 34) dX7_chooseGroups_34 kd_38 ?_
    refine s_aload_n (pc := 35) 0 dX7_chooseGroups_35 rfl rfl ?_
    refine s_aload_n (pc := 36) 1 dX7_chooseGroups_36 rfl rfl ?_
    refine s_iload_n (pc := 37) 2 dX7_chooseGroups_37 rfl rfl ?_
    refine s_callVJ (pc := 38) (as := [.ref o1, .int v3]) (st := [.long (μ.2.1 38 (v3 + (1 : Int32)).toNatClampNeg), .int v3, .ref 38]) dX7_chooseGroups_38 lk_7_52 kd_34 (t_X7_bestOdds N o1 v3 μ) (by omega) rfl (Nat.le_of_ble_eq_true rfl) rfl (fun x3 μ_2 => ?_)
    refine s_lmul (pc := 41) dX7_chooseGroups_41 ?_
    refine s_last (pc := 42) dX7_chooseGroups_42 kd_38 (fun μ_3 => ?_)
    refine s_iincB (pc := 43) (lv' := fun x4 => [(3, .int x4), (0, .ref 34), (1, .ref o1)]) (c := -1) 2 dX7_chooseGroups_43 rfl (by decide) (by decide) (fun _ => rfl) (fun x4 => ?_)
    refine s_goto (pc := 46) (tgt := 18) dX7_chooseGroups_46 (by decide) ?_
    refine s_sub (lv' := [(0, .ref 34), (1, .ref o1), (3, .int x4)]) [1, 2, 0] rfl ?_
    exact hkb x4 μ_3
def f_X7_chooseGroups_L18 (N : Nat) (o1 : Nat) (e49 : z_S → Option (Unit × z_S)) : Nat → Int32 → z_S → Option (Unit × z_S)
  | 0, _, _ => none
  | n + 1, v3, μ => b_X7_chooseGroups_L18 N o1 (f_X7_chooseGroups_L18 N o1 e49 n) e49 v3 μ
theorem t_X7_chooseGroups_L18 (N : Nat) (o1 : Nat) (hk1 : z_kw true o1 = (2, 0)) (e49 : z_S → Option (Unit × z_S)) (he49 : ∀ (μ : z_S), z_sim true rV mX7_chooseGroups 21 (e49 μ) 49 [(0, .ref 34), (1, .ref o1)] [] μ) : ∀ (n : Nat) (v3 : Int32) (μ : z_S), z_sim true rV mX7_chooseGroups 21 (f_X7_chooseGroups_L18 N o1 e49 n v3 μ) 18 [(0, .ref 34), (1, .ref o1), (3, .int v3)] [] μ
  | 0, _, _ => s_none
  | n + 1, v3, μ => tb_X7_chooseGroups_L18 N o1 hk1 (f_X7_chooseGroups_L18 N o1 e49 n) e49 (t_X7_chooseGroups_L18 N o1 hk1 e49 he49 n) he49 v3 μ
def f_X7_chooseGroups (N : Nat) (o1 : Nat) (μ : z_S) : Option (Unit × z_S) :=
  z_ko true o1 2 <| z_bd (μ.1 (o1 + 1) 0) fun x1 => z_in x1 9 <| z_bd (z_setJ μ 38 x1.toNatClampNeg (1 : Int64)) fun μ_1 => z_bd (x1 - (1 : Int32)) fun x2 => f_X7_chooseGroups_L18 N o1 (fun μ49 => z_bd (z_setJ μ49 34 6 (-1 : Int64)) fun μ_4 => z_bd (z_setI μ_4 34 3 (0 : Int32)) fun μ_5 => z_bn (f_X7_place N 12 o1 (0 : Int32) (0 : Int32) (1 : Int64) μ_5) fun _ μ_6 => some ((), μ_6)) N x2 μ_1
theorem t_X7_chooseGroups (N : Nat) (o1 : Nat) (μ : z_S) : z_met true rV mX7_chooseGroups 21 [.ref 34, .ref o1] μ (f_X7_chooseGroups N o1 μ) := by
  refine z_met.of (by decide +kernel) (by show _ ≤ _; first | decide | exact Nat.le_of_ble_eq_true rfl) (lv := [(0, .ref 34), (1, .ref o1)]) rfl ?_
  unfold f_X7_chooseGroups
  refine s_ko (fun hk1 => ?_)
  refine s_aload_n (pc := 0) 1 dX7_chooseGroups_0 rfl rfl ?_
  refine s_getR (pc := 1) (ci := 2) (k := 0) (r := (o1 + 1)) dX7_chooseGroups_1 fl_7_33 hk1 rfl (gr_2_0_0 hk1) ?_
  refine s_iconst (pc := 4) (v := (0 : Int32)) dX7_chooseGroups_4 (by decide) ?_
  refine s_ialdK (pc := 5) (k := 0) dX7_chooseGroups_5 (gk_2_1 hk1) (by decide) (by decide) (by decide) ?_
  refine s_letI (fun x1 => ?_)
  refine s_istore_n (pc := 6) (lv' := [(2, .int x1), (0, .ref 34), (1, .ref o1)]) dX7_chooseGroups_6 rfl (by decide) rfl ?_
  refine s_aload_n (pc := 7) 1 dX7_chooseGroups_7 rfl rfl ?_
  refine s_getR (pc := 8) (ci := 7) (k := 5) (r := 38) dX7_chooseGroups_8 fl_7_21 kd_34 rfl rs_34_5 ?_
  refine s_iload_n (pc := 11) 0 dX7_chooseGroups_11 rfl rfl ?_
  refine s_lconst (pc := 12) (v := (1 : Int64)) dX7_chooseGroups_12 (by decide) ?_
  refine s_last (pc := 13) dX7_chooseGroups_13 kd_38 (fun μ_1 => ?_)
  refine s_iload_n (pc := 14) 0 dX7_chooseGroups_14 rfl rfl ?_
  refine s_iconst (pc := 15) (v := (1 : Int32)) dX7_chooseGroups_15 (by decide) ?_
  refine s_isub (pc := 16) dX7_chooseGroups_16 ?_
  refine s_letI (fun x2 => ?_)
  refine s_istore_n (pc := 17) (lv' := [(3, .int x2), (2, .int x1), (0, .ref 34), (1, .ref o1)]) dX7_chooseGroups_17 rfl (by decide) rfl ?_
  refine s_sub (lv' := [(0, .ref 34), (1, .ref o1), (3, .int x2)]) [2, 3, 0] rfl ?_
  refine t_X7_chooseGroups_L18 N o1 hk1 _ ?_ N x2 μ_1
  · intro μ49
    refine s_aload_n (pc := 49) 0 dX7_chooseGroups_49 rfl rfl ?_
    refine s_ldc2 (pc := 50) (v := (-1 : Int64)) dX7_chooseGroups_50 w_1138 ?_
    refine s_putJ (pc := 53) (ci := 7) (k := 6) dX7_chooseGroups_53 fl_7_58 kd_34 rfl rfl (fun μ_4 => ?_)
    refine s_aload_n (pc := 56) 0 dX7_chooseGroups_56 rfl rfl ?_
    refine s_iconst (pc := 57) (v := (0 : Int32)) dX7_chooseGroups_57 (by decide) ?_
    refine s_putI (pc := 58) (ci := 7) (k := 3) dX7_chooseGroups_58 fl_7_62 kd_34 rfl rfl (fun μ_5 => ?_)
    refine s_aload_n (pc := 61) 0 dX7_chooseGroups_61 rfl rfl ?_
    refine s_aload_n (pc := 62) 1 dX7_chooseGroups_62 rfl rfl ?_
    refine s_iconst (pc := 63) (v := (0 : Int32)) dX7_chooseGroups_63 (by decide) ?_
    refine s_iconst (pc := 64) (v := (0 : Int32)) dX7_chooseGroups_64 (by decide) ?_
    refine s_lconst (pc := 65) (v := (1 : Int64)) dX7_chooseGroups_65 (by decide) ?_
    refine s_callVV (pc := 66) (as := [.ref o1, .int (0 : Int32), .int (0 : Int32), .long (1 : Int64)]) (st := []) dX7_chooseGroups_66 lk_7_65 kd_34 (t_X7_place N 12 o1 (0 : Int32) (0 : Int32) (1 : Int64) μ_5) (by omega) rfl (by decide) rfl (fun _ μ_6 => ?_)
    exact s_vret (pc := 69) dX7_chooseGroups_69 rfl
