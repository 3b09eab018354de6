def f_X12_mostAlike_B84 (N : Nat) (c1 : Int32) (c2 : Int32) (kb : Int32 → Int32 → z_S → Option (Int32 × z_S)) (v3 : Int32) (v4 : Int32) (μ : z_S) : Option (Int32 × z_S) :=
  z_bd (v4 + 1) fun x7 => kb v3 x7 μ
theorem t_X12_mostAlike_B84 (N : Nat) (c1 : Int32) (c2 : Int32)  (kb : Int32 → Int32 → z_S → Option (Int32 × z_S)) (hkb : ∀ (a3 : Int32) (a4 : Int32) (μ : z_S), z_sim false rI mX12_mostAlike 5 (kb a3 a4 μ) 5 [(0, .ref 253), (1, .int c1), (2, .int c2), (3, .int a3), (4, .int a4)] [] μ) (v3 : Int32) (v4 : Int32)  (μ : z_S) : z_sim false rI mX12_mostAlike 5 (f_X12_mostAlike_B84 N c1 c2 kb v3 v4 μ) 84 [(0, .ref 253), (1, .int c1), (2, .int c2), (3, .int v3), (4, .int v4)] [] μ := by
  unfold f_X12_mostAlike_B84
  refine s_iincB (pc := 84) (lv' := fun x7 => [(4, .int x7), (0, .ref 253), (1, .int c1), (2, .int c2), (3, .int v3)]) (c := 1) 4 dX12_mostAlike_84 rfl (by decide) (by decide) (fun _ => rfl) (fun x7 => ?_)
  refine s_goto (pc := 87) (tgt := 5) dX12_mostAlike_87 (by decide) ?_
  refine s_sub (lv' := [(0, .ref 253), (1, .int c1), (2, .int c2), (3, .int v3), (4, .int x7)]) [1, 2, 3, 4, 0] rfl ?_
  exact hkb v3 x7 μ
def b_X12_mostAlike_L5 (N : Nat) (c1 : Int32) (c2 : Int32) (kb : Int32 → Int32 → z_S → Option (Int32 × z_S)) (v3 : Int32) (v4 : Int32) (μ : z_S) : Option (Int32 × z_S) :=
  z_bn (f_X12_helperMany N μ) fun x1 μ_1 => if v4 < x1 then (f_X12_mostAlike_L20 N c1 c2 v3 v4 (fun y75_5 μ75 => if v3 < y75_5 then (f_X12_mostAlike_B84 N c1 c2 kb y75_5 v4 μ75) else f_X12_mostAlike_B84 N c1 c2 kb v3 v4 μ75) N (0 : Int32) (0 : Int32) μ_1) else some (v3, μ_1)
theorem tb_X12_mostAlike_L5 (N : Nat) (c1 : Int32) (c2 : Int32) (kb : Int32 → Int32 → z_S → Option (Int32 × z_S)) (hkb : ∀ (a3 : Int32) (a4 : Int32) (μ : z_S), z_sim false rI mX12_mostAlike 5 (kb a3 a4 μ) 5 [(0, .ref 253), (1, .int c1), (2, .int c2), (3, .int a3), (4, .int a4)] [] μ) (v3 : Int32) (v4 : Int32) (μ : z_S) : z_sim false rI mX12_mostAlike 5 (b_X12_mostAlike_L5 N c1 c2 kb v3 v4 μ) 5 [(0, .ref 253), (1, .int c1), (2, .int c2), (3, .int v3), (4, .int v4)] [] μ := by
  unfold b_X12_mostAlike_L5
  refine s_iload (pc := 5) 4 dX12_mostAlike_5 rfl ?_
  refine s_aload_n (pc := 7) 0 dX12_mostAlike_7 rfl rfl ?_
  refine s_callVI (pc := 8) (as := []) (st := [.int v4]) dX12_mostAlike_8 lk_12_422 kd_253 (t_X12_helperMany N μ) (by omega) rfl (Nat.le_of_ble_eq_true rfl) rfl (fun x1 μ_1 => ?_)
  refine s_icmp_ge (pc := 11) (tgt := 90) dX12_mostAlike_11 (by decide) ?_ ?_
  · refine s_iconst (pc := 14) (v := (0 : Int32)) dX12_mostAlike_14 (by decide) ?_
    refine s_istore (pc := 15) (lv' := [(5, .int (0 : Int32)), (0, .ref 253), (1, .int c1), (2, .int c2), (3, .int v3), (4, .int v4)]) dX12_mostAlike_15 (by decide) rfl ?_
    refine s_iconst (pc := 17) (v := (0 : Int32)) dX12_mostAlike_17 (by decide) ?_
    refine s_istore (pc := 18) (lv' := [(6, .int (0 : Int32)), (5, .int (0 : Int32)), (0, .ref 253), (1, .int c1), (2, .int c2), (3, .int v3), (4, .int v4)]) dX12_mostAlike_18 (by decide) rfl ?_
    refine s_sub (lv' := [(0, .ref 253), (1, .int c1), (2, .int c2), (3, .int v3), (4, .int v4), (5, .int (0 : Int32)), (6, .int (0 : Int32))]) [2, 3, 4, 5, 6, 1, 0] rfl ?_
    refine t_X12_mostAlike_L20 N c1 c2 v3 v4 _ ?_ N (0 : Int32) (0 : Int32) μ_1
    · intro y75_5 μ75
      refine s_iload (pc := 75) 5 dX12_mostAlike_75 rfl ?_
      refine s_iload_n (pc := 77) 3 dX12_mostAlike_77 rfl rfl ?_
      refine s_icmp_le (pc := 78) (tgt := 84) dX12_mostAlike_78 (by decide) ?_ ?_
      · refine s_iload (pc := 81) 5 dX12_mostAlike_81 rfl ?_
        refine s_istore_n (pc := 83) (lv' := [(3, .int y75_5), (0, .ref 253), (1, .int c1), (2, .int c2), (4, .int v4), (5, .int y75_5)]) dX12_mostAlike_83 rfl (by decide) rfl ?_
        refine s_sub (lv' := [(0, .ref 253), (1, .int c1), (2, .int c2), (3, .int y75_5), (4, .int v4)]) [1, 2, 3, 0, 4] rfl ?_
        exact t_X12_mostAlike_B84 N c1 c2 kb hkb y75_5 v4 μ75
      · refine s_sub (lv' := [(0, .ref 253), (1, .int c1), (2, .int c2), (3, .int v3), (4, .int v4)]) [0, 1, 2, 3, 4] rfl ?_
        exact t_X12_mostAlike_B84 N c1 c2 kb hkb v3 v4 μ75
  · refine s_iload_n (pc := 90) 3 dX12_mostAlike_90 rfl rfl ?_
    exact s_iret (pc := 91) rfl dX12_mostAlike_91 rfl
def f_X12_mostAlike_L5 (N : Nat) (c1 : Int32) (c2 : Int32) : Nat → Int32 → Int32 → z_S → Option (Int32 × z_S)
  | 0, _, _, _ => none
  | n + 1, v3, v4, μ => b_X12_mostAlike_L5 N c1 c2 (f_X12_mostAlike_L5 N c1 c2 n) v3 v4 μ
theorem t_X12_mostAlike_L5 (N : Nat) (c1 : Int32) (c2 : Int32) : ∀ (n : Nat) (v3 : Int32) (v4 : Int32) (μ : z_S), z_sim false rI mX12_mostAlike 5 (f_X12_mostAlike_L5 N c1 c2 n v3 v4 μ) 5 [(0, .ref 253), (1, .int c1), (2, .int c2), (3, .int v3), (4, .int v4)] [] μ
  | 0, _, _, _ => s_none
  | n + 1, v3, v4, μ => tb_X12_mostAlike_L5 N c1 c2 (f_X12_mostAlike_L5 N c1 c2 n) (t_X12_mostAlike_L5 N c1 c2 n) v3 v4 μ
def f_X12_mostAlike (N : Nat) (a1 : Int32) (a2 : Int32) (μ : z_S) : Option (Int32 × z_S) :=
  f_X12_mostAlike_L5 N a1 a2 N (0 : Int32) (0 : Int32) μ
theorem t_X12_mostAlike (N : Nat) (a1 : Int32) (a2 : Int32) (μ : z_S) : z_met false rI mX12_mostAlike 5 [.ref 253, .int a1, .int a2] μ (f_X12_mostAlike N a1 a2 μ) := by
  refine z_met.of (by decide +kernel) (by show _ ≤ _; first | decide | exact Nat.le_of_ble_eq_true rfl) (lv := [(0, .ref 253), (1, .int a1), (2, .int a2)]) rfl ?_
  unfold f_X12_mostAlike
  refine s_iconst (pc := 0) (v := (0 : Int32)) dX12_mostAlike_0 (by decide) ?_
  refine s_istore_n (pc := 1) (lv' := [(3, .int (0 : Int32)), (0, .ref 253), (1, .int a1), (2, .int a2)]) dX12_mostAlike_1 rfl (by decide) rfl ?_
  refine s_iconst (pc := 2) (v := (0 : Int32)) dX12_mostAlike_2 (by decide) ?_
  refine s_istore (pc := 3) (lv' := [(4, .int (0 : Int32)), (3, .int (0 : Int32)), (0, .ref 253), (1, .int a1), (2, .int a2)]) dX12_mostAlike_3 (by decide) rfl ?_
  refine s_sub (lv' := [(0, .ref 253), (1, .int a1), (2, .int a2), (3, .int (0 : Int32)), (4, .int (0 : Int32))]) [2, 3, 4, 1, 0] rfl ?_
  refine t_X12_mostAlike_L5 N a1 a2 N (0 : Int32) (0 : Int32) μ
def f_X12_watched_B69 (N : Nat) (c1 : Int32) (c2 : Int32) (kb : Int32 → Int32 → Int32 → z_S → Option (Int32 × z_S)) (e75 : Int32 → Int32 → z_S → Option (Int32 × z_S)) (v3 : Int32) (v4 : Int32) (v5 : Int32) (μ : z_S) : Option (Int32 × z_S) :=
  z_bd (v5 + 1) fun x5 => kb v3 v4 x5 μ
theorem t_X12_watched_B69 (N : Nat) (c1 : Int32) (c2 : Int32)  (kb : Int32 → Int32 → Int32 → z_S → Option (Int32 × z_S)) (e75 : Int32 → Int32 → z_S → Option (Int32 × z_S)) (hkb : ∀ (a3 : Int32) (a4 : Int32) (a5 : Int32) (μ : z_S), z_sim false rI mX12_watched 7 (kb a3 a4 a5 μ) 25 [(0, .ref 253), (1, .int c1), (2, .int c2), (3, .int a3), (4, .int a4), (5, .int a5)] [] μ) (he75 : ∀ (a3 : Int32) (a4 : Int32) (μ : z_S), z_sim false rI mX12_watched 7 (e75 a3 a4 μ) 75 [(1, .int c1), (3, .int a3), (4, .int a4)] [] μ) (v3 : Int32) (v4 : Int32) (v5 : Int32)  (μ : z_S) : z_sim false rI mX12_watched 7 (f_X12_watched_B69 N c1 c2 kb e75 v3 v4 v5 μ) 69 [(0, .ref 253), (1, .int c1), (2, .int c2), (3, .int v3), (4, .int v4), (5, .int v5)] [] μ := by
  unfold f_X12_watched_B69
  refine s_iincB (pc := 69) (lv' := fun x5 => [(5, .int x5), (0, .ref 253), (1, .int c1), (2, .int c2), (3, .int v3), (4, .int v4)]) (c := 1) 5 dX12_watched_69 rfl (by decide) (by decide) (fun _ => rfl) (fun x5 => ?_)
  refine s_goto (pc := 72) (tgt := 25) dX12_watched_72 (by decide) ?_
  refine s_sub (lv' := [(0, .ref 253), (1, .int c1), (2, .int c2), (3, .int v3), (4, .int v4), (5, .int x5)]) [1, 2, 3, 4, 5, 0] rfl ?_
  exact hkb v3 v4 x5 μ
def f_X12_watched_B62 (N : Nat) (c1 : Int32) (c2 : Int32) (kb : Int32 → Int32 → Int32 → z_S → Option (Int32 × z_S)) (e75 : Int32 → Int32 → z_S → Option (Int32 × z_S)) (v5 : Int32) (v6 : Int32) (μ : z_S) : Option (Int32 × z_S) :=
  f_X12_watched_B69 N c1 c2 kb e75 v5 v6 v5 μ
theorem t_X12_watched_B62 (N : Nat) (c1 : Int32) (c2 : Int32)  (kb : Int32 → Int32 → Int32 → z_S → Option (Int32 × z_S)) (e75 : Int32 → Int32 → z_S → Option (Int32 × z_S)) (hkb : ∀ (a3 : Int32) (a4 : Int32) (a5 : Int32) (μ : z_S), z_sim false rI mX12_watched 7 (kb a3 a4 a5 μ) 25 [(0, .ref 253), (1, .int c1), (2, .int c2), (3, .int a3), (4, .int a4), (5, .int a5)] [] μ) (he75 : ∀ (a3 : Int32) (a4 : Int32) (μ : z_S), z_sim false rI mX12_watched 7 (e75 a3 a4 μ) 75 [(1, .int c1), (3, .int a3), (4, .int a4)] [] μ) (v5 : Int32) (v6 : Int32)  (μ : z_S) : z_sim false rI mX12_watched 7 (f_X12_watched_B62 N c1 c2 kb e75 v5 v6 μ) 62 [(0, .ref 253), (1, .int c1), (2, .int c2), (5, .int v5), (6, .int v6)] [] μ := by
  unfold f_X12_watched_B62
  refine s_iload (pc := 62) 3 dX12_watched_62 rfl ?_
  refine s_istore_n (pc := 64) (lv' := [(3, .int v5), (0, .ref 253), (1, .int c1), (2, .int c2), (5, .int v5), (6, .int v6)]) dX12_watched_64 rfl (by decide) rfl ?_
  refine s_iload (pc := 65) 5 dX12_watched_65 rfl ?_
  refine s_istore (pc := 67) (lv' := [(4, .int v6), (3, .int v5), (0, .ref 253), (1, .int c1), (2, .int c2), (5, .int v5), (6, .int v6)]) dX12_watched_67 (by decide) rfl ?_
  refine s_sub (lv' := [(0, .ref 253), (1, .int c1), (2, .int c2), (3, .int v5), (4, .int v6), (5, .int v5)]) [2, 3, 4, 1, 0, 5] rfl ?_
  exact t_X12_watched_B69 N c1 c2 kb e75 hkb he75 v5 v6 v5 μ
def b_X12_watched_L25 (N : Nat) (c1 : Int32) (c2 : Int32) (kb : Int32 → Int32 → Int32 → z_S → Option (Int32 × z_S)) (e75 : Int32 → Int32 → z_S → Option (Int32 × z_S)) (v3 : Int32) (v4 : Int32) (v5 : Int32) (μ : z_S) : Option (Int32 × z_S) :=
  z_bn (f_X12_letterMany N μ) fun x3 μ_3 => if v5 < x3 then (if c2 = 0 then (e75 v3 v4 μ_3) else z_bn (f_X12_mostAlike N v5 c2 μ_3) fun x4 μ_4 => if v3 = (-1 : Int32) then (f_X12_watched_B62 N c1 c2 kb e75 v5 x4 μ_4) else if x4 < v4 then (f_X12_watched_B62 N c1 c2 kb e75 v5 x4 μ_4) else f_X12_watched_B69 N c1 c2 kb e75 v3 v4 v5 μ_4) else e75 v3 v4 μ_3
theorem tb_X12_watched_L25 (N : Nat) (c1 : Int32) (c2 : Int32) (kb : Int32 → Int32 → Int32 → z_S → Option (Int32 × z_S)) (e75 : Int32 → Int32 → z_S → Option (Int32 × z_S)) (hkb : ∀ (a3 : Int32) (a4 : Int32) (a5 : Int32) (μ : z_S), z_sim false rI mX12_watched 7 (kb a3 a4 a5 μ) 25 [(0, .ref 253), (1, .int c1), (2, .int c2), (3, .int a3), (4, .int a4), (5, .int a5)] [] μ) (he75 : ∀ (a3 : Int32) (a4 : Int32) (μ : z_S), z_sim false rI mX12_watched 7 (e75 a3 a4 μ) 75 [(1, .int c1), (3, .int a3), (4, .int a4)] [] μ) (v3 : Int32) (v4 : Int32) (v5 : Int32) (μ : z_S) : z_sim false rI mX12_watched 7 (b_X12_watched_L25 N c1 c2 kb e75 v3 v4 v5 μ) 25 [(0, .ref 253), (1, .int c1), (2, .int c2), (3, .int v3), (4, .int v4), (5, .int v5)] [] μ := by
  unfold b_X12_watched_L25
  refine s_iload (pc := 25) 5 dX12_watched_25 rfl ?_
  refine s_aload_n (pc := 27) 0 dX12_watched_27 rfl rfl ?_
  refine s_callVI (pc := 28) (as := []) (st := [.int v5]) dX12_watched_28 lk_12_419 kd_253 (t_X12_letterMany N μ) (by omega) rfl (Nat.le_of_ble_eq_true rfl) rfl (fun x3 μ_3 => ?_)
  refine s_icmp_ge (pc := 31) (tgt := 75) dX12_watched_31 (by decide) ?_ ?_
  · refine s_iload_n (pc := 34) 2 dX12_watched_34 rfl rfl ?_
    refine s_if_eq (pc := 35) (tgt := 75) dX12_watched_35 (by decide) ?_ ?_
    · refine s_sub (lv' := [(1, .int c1), (3, .int v3), (4, .int v4)]) [1, 3, 4] rfl ?_
      exact he75 v3 v4 μ_3
    · refine s_aload_n (pc := 38) 0 dX12_watched_38 rfl rfl ?_
      refine s_iload (pc := 39) 5 dX12_watched_39 rfl ?_
      refine s_iload_n (pc := 41) 2 dX12_watched_41 rfl rfl ?_
      refine s_callVI (pc := 42) (as := [.int v5, .int c2]) (st := []) dX12_watched_42 lk_12_569 kd_253 (t_X12_mostAlike N v5 c2 μ_3) (by omega) rfl (by decide) rfl (fun x4 μ_4 => ?_)
      refine s_istore (pc := 45) (lv' := [(6, .int x4), (0, .ref 253), (1, .int c1), (2, .int c2), (3, .int v3), (4, .int v4), (5, .int v5)]) dX12_watched_45 (by decide) rfl ?_
      refine s_iload_n (pc := 47) 4 dX12_watched_47 rfl rfl ?_
      refine s_iconst (pc := 48) (v := (-1 : Int32)) dX12_watched_48 (by decide) ?_
      refine s_icmp_eq (pc := 49) (tgt := 62) dX12_watched_49 (by decide) ?_ ?_
      · refine s_sub (lv' := [(0, .ref 253), (1, .int c1), (2, .int c2), (5, .int v5), (6, .int x4)]) [1, 2, 3, 6, 0] rfl ?_
        exact t_X12_watched_B62 N c1 c2 kb e75 hkb he75 v5 x4 μ_4
      · refine s_iload (pc := 52) 0 dX12_watched_52 rfl ?_
        refine s_iload (pc := 54) 5 dX12_watched_54 rfl ?_
        refine s_icmp_lt (pc := 56) (tgt := 62) dX12_watched_56 (by decide) ?_ ?_
        · refine s_sub (lv' := [(0, .ref 253), (1, .int c1), (2, .int c2), (5, .int v5), (6, .int x4)]) [1, 2, 3, 6, 0] rfl ?_
          exact t_X12_watched_B62 N c1 c2 kb e75 hkb he75 v5 x4 μ_4
        · refine s_goto (pc := 59) (tgt := 69) dX12_watched_59 (by decide) ?_
          refine s_sub (lv' := [(0, .ref 253), (1, .int c1), (2, .int c2), (3, .int v3), (4, .int v4), (5, .int v5)]) [1, 2, 3, 4, 5, 6] rfl ?_
          exact t_X12_watched_B69 N c1 c2 kb e75 hkb he75 v3 v4 v5 μ_4
  · refine s_sub (lv' := [(1, .int c1), (3, .int v3), (4, .int v4)]) [1, 3, 4] rfl ?_
    exact he75 v3 v4 μ_3
def f_X12_watched_L25 (N : Nat) (c1 : Int32) (c2 : Int32) (e75 : Int32 → Int32 → z_S → Option (Int32 × z_S)) : Nat → Int32 → Int32 → Int32 → z_S → Option (Int32 × z_S)
  | 0, _, _, _, _ => none
  | n + 1, v3, v4, v5, μ => b_X12_watched_L25 N c1 c2 (f_X12_watched_L25 N c1 c2 e75 n) e75 v3 v4 v5 μ
theorem t_X12_watched_L25 (N : Nat) (c1 : Int32) (c2 : Int32) (e75 : Int32 → Int32 → z_S → Option (Int32 × z_S)) (he75 : ∀ (a3 : Int32) (a4 : Int32) (μ : z_S), z_sim false rI mX12_watched 7 (e75 a3 a4 μ) 75 [(1, .int c1), (3, .int a3), (4, .int a4)] [] μ) : ∀ (n : Nat) (v3 : Int32) (v4 : Int32) (v5 : Int32) (μ : z_S), z_sim false rI mX12_watched 7 (f_X12_watched_L25 N c1 c2 e75 n v3 v4 v5 μ) 25 [(0, .ref 253), (1, .int c1), (2, .int c2), (3, .int v3), (4, .int v4), (5, .int v5)] [] μ
  | 0, _, _, _, _ => s_none
  | n + 1, v3, v4, v5, μ => tb_X12_watched_L25 N c1 c2 (f_X12_watched_L25 N c1 c2 e75 n) e75 (t_X12_watched_L25 N c1 c2 e75 he75 n) he75 v3 v4 v5 μ
def f_X12_watched_B75 (N : Nat)  (v1 : Int32) (v3 : Int32) (v4 : Int32) (μ : z_S) : Option (Int32 × z_S) :=
  if v3 = (-1 : Int32) then (some ((-1 : Int32), μ)) else if v1 = 0 then (some (v3, μ)) else some (v4, μ)
theorem t_X12_watched_B75 (N : Nat)     (v1 : Int32) (v3 : Int32) (v4 : Int32)  (μ : z_S) : z_sim false rI mX12_watched 7 (f_X12_watched_B75 N   v1 v3 v4 μ) 75 [(1, .int v1), (3, .int v3), (4, .int v4)] [] μ := by
  unfold f_X12_watched_B75
  refine s_iload_n (pc := 75) 1 dX12_watched_75 rfl rfl ?_
  refine s_iconst (pc := 76) (v := (-1 : Int32)) dX12_watched_76 (by decide) ?_
  refine s_icmp_ne (pc := 77) (tgt := 84) dX12_watched_77 (by decide) ?_ ?_
  · refine s_iconst (pc := 80) (v := (-1 : Int32)) dX12_watched_80 (by decide) ?_
    refine s_goto (pc := 81) (tgt := 94) dX12_watched_81 (by decide) ?_
    exact s_iret (pc := 94) rfl dX12_watched_94 rfl
  · refine s_iload_n (pc := 84) 0 dX12_watched_84 rfl rfl ?_
    refine s_if_ne (pc := 85) (tgt := 92) dX12_watched_85 (by decide) ?_ ?_
    · refine s_iload_n (pc := 88) 1 dX12_watched_88 rfl rfl ?_
      refine s_goto (pc := 89) (tgt := 94) dX12_watched_89 (by decide) ?_
      exact s_iret (pc := 94) rfl dX12_watched_94 rfl
    · refine s_iload (pc := 92) 2 dX12_watched_92 rfl ?_
      exact s_iret (pc := 94) rfl dX12_watched_94 rfl
def f_X12_watched (N : Nat) (a1 : Int32) (μ : z_S) : Option (Int32 × z_S) :=
  z_bn (f_X12_isIn N a1.toInt64 (0 : Int64) (1 : Int64) μ) fun x1 μ_1 => if x1 = 0 then (some ((-1 : Int32), μ_1)) else z_bn (f_X12_whose N μ_1) fun x2 μ_2 => f_X12_watched_L25 N a1 x2 (fun y75_3 y75_4 μ75 => f_X12_watched_B75 N a1 y75_3 y75_4 μ75) N (-1 : Int32) (0 : Int32) (0 : Int32) μ_2
theorem t_X12_watched (N : Nat) (a1 : Int32) (μ : z_S) : z_met false rI mX12_watched 7 [.ref 253, .int a1] μ (f_X12_watched N a1 μ) := by
  refine z_met.of (by decide +kernel) (by show _ ≤ _; first | decide | exact Nat.le_of_ble_eq_true rfl) (lv := [(0, .ref 253), (1, .int a1)]) rfl ?_
  unfold f_X12_watched
  refine s_iload_n (pc := 0) 1 dX12_watched_0 rfl rfl ?_
  refine s_i2l (pc := 1) dX12_watched_1 ?_
  refine s_lconst (pc := 2) (v := (0 : Int64)) dX12_watched_2 (by decide) ?_
  refine s_lconst (pc := 3) (v := (1 : Int64)) dX12_watched_3 (by decide) ?_
  refine s_callSI (pc := 4) (as := [.long a1.toInt64, .long (0 : Int64), .long (1 : Int64)]) (st := []) dX12_watched_4 lk_12_303 (t_X12_isIn N a1.toInt64 (0 : Int64) (1 : Int64) μ) (by omega) rfl (by decide) rfl (fun x1 μ_1 => ?_)
  refine s_if_ne (pc := 7) (tgt := 12) dX12_watched_7 (by decide) ?_ ?_
  · refine s_iconst (pc := 10) (v := (-1 : Int32)) dX12_watched_10 (by decide) ?_
    exact s_iret (pc := 11) rfl dX12_watched_11 rfl
  · refine s_aload_n (pc := 12) 0 dX12_watched_12 rfl rfl ?_
    refine s_callVI (pc := 13) (as := []) (st := []) dX12_watched_13 lk_12_566 kd_253 (t_X12_whose N μ_1) (by omega) rfl (by decide) rfl (fun x2 μ_2 => ?_)
    refine s_istore_n (pc := 16) (lv' := [(2, .int x2), (0, .ref 253), (1, .int a1)]) dX12_watched_16 rfl (by decide) rfl ?_
    refine s_iconst (pc := 17) (v := (-1 : Int32)) dX12_watched_17 (by decide) ?_
    refine s_istore_n (pc := 18) (lv' := [(3, .int (-1 : Int32)), (2, .int x2), (0, .ref 253), (1, .int a1)]) dX12_watched_18 rfl (by decide) rfl ?_
    refine s_iconst (pc := 19) (v := (0 : Int32)) dX12_watched_19 (by decide) ?_
    refine s_istore (pc := 20) (lv' := [(4, .int (0 : Int32)), (3, .int (-1 : Int32)), (2, .int x2), (0, .ref 253), (1, .int a1)]) dX12_watched_20 (by decide) rfl ?_
    refine s_iconst (pc := 22) (v := (0 : Int32)) dX12_watched_22 (by decide) ?_
    refine s_istore (pc := 23) (lv' := [(5, .int (0 : Int32)), (4, .int (0 : Int32)), (3, .int (-1 : Int32)), (2, .int x2), (0, .ref 253), (1, .int a1)]) dX12_watched_23 (by decide) rfl ?_
    refine s_sub (lv' := [(0, .ref 253), (1, .int a1), (2, .int x2), (3, .int (-1 : Int32)), (4, .int (0 : Int32)), (5, .int (0 : Int32))]) [4, 5, 3, 2, 1, 0] rfl ?_
    refine t_X12_watched_L25 N a1 x2 _ ?_ N (-1 : Int32) (0 : Int32) (0 : Int32) μ_2
    · intro y75_3 y75_4 μ75
      exact t_X12_watched_B75 N a1 y75_3 y75_4 μ75
def b_X12_keeps_L15 (N : Nat) (kb : Int32 → z_S → Option (Unit × z_S)) (e47 : z_S → Option (Unit × z_S)) (v1 : Int32) (μ : z_S) : Option (Unit × z_S) :=
  if v1 < (32 : Int32) then (z_in v1 32 <| z_in (((32 : Int32) * (μ.1 253 69)) + v1) 640 <| z_bd (z_setI μ 306 (((32 : Int32) * (μ.1 253 69)) + v1).toNatClampNeg (μ.1 296 v1.toNatClampNeg)) fun μ_2 => z_bd (v1 + 1) fun x1 => kb x1 μ_2) else e47 μ
theorem tb_X12_keeps_L15 (N : Nat) (kb : Int32 → z_S → Option (Unit × z_S)) (e47 : z_S → Option (Unit × z_S)) (hkb : ∀ (a1 : Int32) (μ : z_S), z_sim false rV mX12_keeps 0 (kb a1 μ) 15 [(0, .ref 253), (1, .int a1)] [] μ) (he47 : ∀ (μ : z_S), z_sim false rV mX12_keeps 0 (e47 μ) 47 [(0, .ref 253)] [] μ) (v1 : Int32) (μ : z_S) : z_sim false rV mX12_keeps 0 (b_X12_keeps_L15 N kb e47 v1 μ) 15 [(0, .ref 253), (1, .int v1)] [] μ := by
  unfold b_X12_keeps_L15
  refine s_iload_n (pc := 15) 1 dX12_keeps_15 rfl rfl ?_
  refine s_bipush (pc := 16) (v := (32 : Int32)) dX12_keeps_16 (by decide) ?_
  refine s_icmp_ge (pc := 18) (tgt := 47) dX12_keeps_18 (by decide) ?_ ?_
  · refine s_aload_n (pc := 21) 0 dX12_keeps_21 rfl rfl ?_
    refine s_getR (pc := 22) (ci := 12) (k := 67) (r := 306) dX12_keeps_22 fl_12_172 kd_253 rfl rs_253_67 ?_
    refine s_bipush (pc := 25) (v := (32 : Int32)) dX12_keeps_25 (by decide) ?_
    refine s_aload_n (pc := 27) 0 dX12_keeps_27 rfl rfl ?_
    refine s_getI (pc := 28) (ci := 12) (k := 69) dX12_keeps_28 fl_12_572 kd_253 rfl ?_
    refine s_imul (pc := 31) dX12_keeps_31 ?_
    refine s_iload_n (pc := 32) 1 dX12_keeps_32 rfl rfl ?_
    refine s_iadd (pc := 33) dX12_keeps_33 ?_
    refine s_aload_n (pc := 34) 0 dX12_keeps_34 rfl rfl ?_
    refine s_getR (pc := 35) (ci := 12) (k := 54) (r := 296) dX12_keeps_35 fl_12_142 kd_253 rfl rs_253_54 ?_
    refine s_iload_n (pc := 38) 1 dX12_keeps_38 rfl rfl ?_
    refine s_iald (pc := 39) dX12_keeps_39 kd_296 ?_
    refine s_iast (pc := 40) dX12_keeps_40 kd_306 (fun μ_2 => ?_)
    refine s_iincB (pc := 41) (lv' := fun x1 => [(1, .int x1), (0, .ref 253)]) (c := 1) 1 dX12_keeps_41 rfl (by decide) (by decide) (fun _ => rfl) (fun x1 => ?_)
    refine s_goto (pc := 44) (tgt := 15) dX12_keeps_44 (by decide) ?_
    refine s_sub (lv' := [(0, .ref 253), (1, .int x1)]) [1, 0] rfl ?_
    exact hkb x1 μ_2
  · refine s_sub (lv' := [(0, .ref 253)]) [0] rfl ?_
    exact he47 μ
def f_X12_keeps_L15 (N : Nat) (e47 : z_S → Option (Unit × z_S)) : Nat → Int32 → z_S → Option (Unit × z_S)
  | 0, _, _ => none
  | n + 1, v1, μ => b_X12_keeps_L15 N (f_X12_keeps_L15 N e47 n) e47 v1 μ
theorem t_X12_keeps_L15 (N : Nat) (e47 : z_S → Option (Unit × z_S)) (he47 : ∀ (μ : z_S), z_sim false rV mX12_keeps 0 (e47 μ) 47 [(0, .ref 253)] [] μ) : ∀ (n : Nat) (v1 : Int32) (μ : z_S), z_sim false rV mX12_keeps 0 (f_X12_keeps_L15 N e47 n v1 μ) 15 [(0, .ref 253), (1, .int v1)] [] μ
  | 0, _, _ => s_none
  | n + 1, v1, μ => tb_X12_keeps_L15 N (f_X12_keeps_L15 N e47 n) e47 (t_X12_keeps_L15 N e47 he47 n) he47 v1 μ
def f_X12_keeps (N : Nat) (μ : z_S) : Option (Unit × z_S) :=
  z_nz (20 : Int32) <| z_bd (z_setI μ 253 69 (((μ.1 253 69) + (1 : Int32)) - ((μ.1 253 69) + (1 : Int32)) / (20 : Int32) * (20 : Int32))) fun μ_1 => f_X12_keeps_L15 N (fun μ47 => if (μ47.1 253 68) < (20 : Int32) then (z_bd (z_setI μ47 253 68 ((μ47.1 253 68) + (1 : Int32))) fun μ_3 => some ((), μ_3)) else some ((), μ47)) N (0 : Int32) μ_1
theorem t_X12_keeps (N : Nat) (μ : z_S) : z_met false rV mX12_keeps 0 [.ref 253] μ (f_X12_keeps N μ) := by
  refine z_met.of (by decide +kernel) (by show _ ≤ _; first | decide | exact Nat.le_of_ble_eq_true rfl) (lv := [(0, .ref 253)]) rfl ?_
  unfold f_X12_keeps
  refine s_aload_n (pc := 0) 0 dX12_keeps_0 rfl rfl ?_
  refine s_aload_n (pc := 1) 0 dX12_keeps_1 rfl rfl ?_
  refine s_getI (pc := 2) (ci := 12) (k := 69) dX12_keeps_2 fl_12_572 kd_253 rfl ?_
  refine s_iconst (pc := 5) (v := (1 : Int32)) dX12_keeps_5 (by decide) ?_
  refine s_iadd (pc := 6) dX12_keeps_6 ?_
  refine s_bipush (pc := 7) (v := (20 : Int32)) dX12_keeps_7 (by decide) ?_
  refine s_irem (pc := 9) dX12_keeps_9 ?_
  refine s_putI (pc := 10) (ci := 12) (k := 69) dX12_keeps_10 fl_12_572 kd_253 rfl rfl (fun μ_1 => ?_)
  refine s_iconst (pc := 13) (v := (0 : Int32)) dX12_keeps_13 (by decide) ?_
  refine s_istore_n (pc := 14) (lv' := [(1, .int (0 : Int32)), (0, .ref 253)]) dX12_keeps_14 rfl (by decide) rfl ?_
  refine s_sub (lv' := [(0, .ref 253), (1, .int (0 : Int32))]) [1, 0] rfl ?_
  refine t_X12_keeps_L15 N _ ?_ N (0 : Int32) μ_1
  · intro μ47
    refine s_aload_n (pc := 47) 0 dX12_keeps_47 rfl rfl ?_
    refine s_getI (pc := 48) (ci := 12) (k := 68) dX12_keeps_48 fl_12_413 kd_253 rfl ?_
    refine s_bipush (pc := 51) (v := (20 : Int32)) dX12_keeps_51 (by decide) ?_
    refine s_icmp_ge (pc := 53) (tgt := 66) dX12_keeps_53 (by decide) ?_ ?_
    · refine s_aload_n (pc := 56) 0 dX12_keeps_56 rfl rfl ?_
      refine s_dup (pc := 57) dX12_keeps_57 rfl ?_
      refine s_getI (pc := 58) (ci := 12) (k := 68) dX12_keeps_58 fl_12_413 kd_253 rfl ?_
      refine s_iconst (pc := 61) (v := (1 : Int32)) dX12_keeps_61 (by decide) ?_
      refine s_iadd (pc := 62) dX12_keeps_62 ?_
      refine s_putI (pc := 63) (ci := 12) (k := 68) dX12_keeps_63 fl_12_413 kd_253 rfl rfl (fun μ_3 => ?_)
      exact s_vret (pc := 66) dX12_keeps_66 rfl
    · exact s_vret (pc := 66) dX12_keeps_66 rfl
def b_X12_undo_L21 (N : Nat) (kb : Int32 → z_S → Option (Int32 × z_S)) (e53 : z_S → Option (Int32 × z_S)) (v1 : Int32) (μ : z_S) : Option (Int32 × z_S) :=
  if v1 < (32 : Int32) then (z_in (((32 : Int32) * (μ.1 253 69)) + v1) 640 <| z_in v1 32 <| z_bd (z_setI μ 296 v1.toNatClampNeg (μ.1 306 (((32 : Int32) * (μ.1 253 69)) + v1).toNatClampNeg)) fun μ_2 => z_bd (v1 + 1) fun x1 => kb x1 μ_2) else e53 μ
theorem tb_X12_undo_L21 (N : Nat) (kb : Int32 → z_S → Option (Int32 × z_S)) (e53 : z_S → Option (Int32 × z_S)) (hkb : ∀ (a1 : Int32) (μ : z_S), z_sim false rI mX12_undo 0 (kb a1 μ) 21 [(0, .ref 253), (1, .int a1)] [] μ) (he53 : ∀ (μ : z_S), z_sim false rI mX12_undo 0 (e53 μ) 53 [(0, .ref 253)] [] μ) (v1 : Int32) (μ : z_S) : z_sim false rI mX12_undo 0 (b_X12_undo_L21 N kb e53 v1 μ) 21 [(0, .ref 253), (1, .int v1)] [] μ := by
  unfold b_X12_undo_L21
  refine s_iload_n (pc := 21) 1 dX12_undo_21 rfl rfl ?_
  refine s_bipush (pc := 22) (v := (32 : Int32)) dX12_undo_22 (by decide) ?_
  refine s_icmp_ge (pc := 24) (tgt := 53) dX12_undo_24 (by decide) ?_ ?_
  · refine s_aload_n (pc := 27) 0 dX12_undo_27 rfl rfl ?_
    refine s_getR (pc := 28) (ci := 12) (k := 54) (r := 296) dX12_undo_28 fl_12_142 kd_253 rfl rs_253_54 ?_
    refine s_iload_n (pc := 31) 1 dX12_undo_31 rfl rfl ?_
    refine s_aload_n (pc := 32) 0 dX12_undo_32 rfl rfl ?_
    refine s_getR (pc := 33) (ci := 12) (k := 67) (r := 306) dX12_undo_33 fl_12_172 kd_253 rfl rs_253_67 ?_
    refine s_bipush (pc := 36) (v := (32 : Int32)) dX12_undo_36 (by decide) ?_
    refine s_aload_n (pc := 38) 0 dX12_undo_38 rfl rfl ?_
    refine s_getI (pc := 39) (ci := 12) (k := 69) dX12_undo_39 fl_12_572 kd_253 rfl ?_
    refine s_imul (pc := 42) dX12_undo_42 ?_
    refine s_iload_n (pc := 43) 1 dX12_undo_43 rfl rfl ?_
    refine s_iadd (pc := 44) dX12_undo_44 ?_
    refine s_iald (pc := 45) dX12_undo_45 kd_306 ?_
    refine s_iast (pc := 46) dX12_undo_46 kd_296 (fun μ_2 => ?_)
    refine s_iincB (pc := 47) (lv' := fun x1 => [(1, .int x1), (0, .ref 253)]) (c := 1) 1 dX12_undo_47 rfl (by decide) (by decide) (fun _ => rfl) (fun x1 => ?_)
    refine s_goto (pc := 50) (tgt := 21) dX12_undo_50 (by decide) ?_
    refine s_sub (lv' := [(0, .ref 253), (1, .int x1)]) [1, 0] rfl ?_
    exact hkb x1 μ_2
  · refine s_sub (lv' := [(0, .ref 253)]) [0] rfl ?_
    exact he53 μ
def f_X12_undo_L21 (N : Nat) (e53 : z_S → Option (Int32 × z_S)) : Nat → Int32 → z_S → Option (Int32 × z_S)
  | 0, _, _ => none
  | n + 1, v1, μ => b_X12_undo_L21 N (f_X12_undo_L21 N e53 n) e53 v1 μ
theorem t_X12_undo_L21 (N : Nat) (e53 : z_S → Option (Int32 × z_S)) (he53 : ∀ (μ : z_S), z_sim false rI mX12_undo 0 (e53 μ) 53 [(0, .ref 253)] [] μ) : ∀ (n : Nat) (v1 : Int32) (μ : z_S), z_sim false rI mX12_undo 0 (f_X12_undo_L21 N e53 n v1 μ) 21 [(0, .ref 253), (1, .int v1)] [] μ
  | 0, _, _ => s_none
  | n + 1, v1, μ => tb_X12_undo_L21 N (f_X12_undo_L21 N e53 n) e53 (t_X12_undo_L21 N e53 he53 n) he53 v1 μ
def f_X12_undo (N : Nat) (μ : z_S) : Option (Int32 × z_S) :=
  if (μ.1 253 68) = 0 then (z_bd (z_setI μ 255 4 ((μ.1 255 4) + (1 : Int32))) fun μ_1 => some ((0 : Int32), μ_1)) else f_X12_undo_L21 N (fun μ53 => z_nz (20 : Int32) <| z_bd (z_setI μ53 253 69 ((((μ53.1 253 69) + (20 : Int32)) - (1 : Int32)) - (((μ53.1 253 69) + (20 : Int32)) - (1 : Int32)) / (20 : Int32) * (20 : Int32))) fun μ_3 => z_bd (z_setI μ_3 253 68 ((μ_3.1 253 68) - (1 : Int32))) fun μ_4 => some ((1 : Int32), μ_4)) N (0 : Int32) μ
theorem t_X12_undo (N : Nat) (μ : z_S) : z_met false rI mX12_undo 0 [.ref 253] μ (f_X12_undo N μ) := by
  refine z_met.of (by decide +kernel) (by show _ ≤ _; first | decide | exact Nat.le_of_ble_eq_true rfl) (lv := [(0, .ref 253)]) rfl ?_
  unfold f_X12_undo
  refine s_aload_n (pc := 0) 0 dX12_undo_0 rfl rfl ?_
  refine s_getI (pc := 1) (ci := 12) (k := 68) dX12_undo_1 fl_12_413 kd_253 rfl ?_
  refine s_if_ne (pc := 4) (tgt := 19) dX12_undo_4 (by decide) ?_ ?_
  · refine s_aload_n (pc := 7) 0 dX12_undo_7 rfl rfl ?_
    refine s_getR (pc := 8) (ci := 12) (k := 9) (r := 255) dX12_undo_8 fl_12_17 kd_253 rfl rs_253_9 ?_
    refine s_iconst (pc := 11) (v := (4 : Int32)) dX12_undo_11 (by decide) ?_
    refine s_dup2 (pc := 12) dX12_undo_12 rfl rfl ?_
    refine s_ialdK (pc := 13) (k := 4) dX12_undo_13 kd_255 (by decide) (by decide) (by decide) ?_
    refine s_iconst (pc := 14) (v := (1 : Int32)) dX12_undo_14 (by decide) ?_
    refine s_iadd (pc := 15) dX12_undo_15 ?_
    refine s_iastK (pc := 16) (k := 4) dX12_undo_16 kd_255 (by decide) (by decide) (by decide) (fun μ_1 => ?_)
    refine s_iconst (pc := 17) (v := (0 : Int32)) dX12_undo_17 (by decide) ?_
    exact s_zret0 (pc := 18) dX12_undo_18 rfl rfl
  · refine s_iconst (pc := 19) (v := (0 : Int32)) dX12_undo_19 (by decide) ?_
    refine s_istore_n (pc := 20) (lv' := [(1, .int (0 : Int32)), (0, .ref 253)]) dX12_undo_20 rfl (by decide) rfl ?_
    refine s_sub (lv' := [(0, .ref 253), (1, .int (0 : Int32))]) [1, 0] rfl ?_
    refine t_X12_undo_L21 N _ ?_ N (0 : Int32) μ
    · intro μ53
      refine s_aload_n (pc := 53) 0 dX12_undo_53 rfl rfl ?_
      refine s_aload_n (pc := 54) 0 dX12_undo_54 rfl rfl ?_
      refine s_getI (pc := 55) (ci := 12) (k := 69) dX12_undo_55 fl_12_572 kd_253 rfl ?_
      refine s_bipush (pc := 58) (v := (20 : Int32)) dX12_undo_58 (by decide) ?_
      refine s_iadd (pc := 60) dX12_undo_60 ?_
      refine s_iconst (pc := 61) (v := (1 : Int32)) dX12_undo_61 (by decide) ?_
      refine s_isub (pc := 62) dX12_undo_62 ?_
      refine s_bipush (pc := 63) (v := (20 : Int32)) dX12_undo_63 (by decide) ?_
      refine s_irem (pc := 65) dX12_undo_65 ?_
      refine s_putI (pc := 66) (ci := 12) (k := 69) dX12_undo_66 fl_12_572 kd_253 rfl rfl (fun μ_3 => ?_)
      refine s_aload_n (pc := 69) 0 dX12_undo_69 rfl rfl ?_
      refine s_dup (pc := 70) dX12_undo_70 rfl ?_
      refine s_getI (pc := 71) (ci := 12) (k := 68) dX12_undo_71 fl_12_413 kd_253 rfl ?_
      refine s_iconst (pc := 74) (v := (1 : Int32)) dX12_undo_74 (by decide) ?_
      refine s_isub (pc := 75) dX12_undo_75 ?_
      refine s_putI (pc := 76) (ci := 12) (k := 68) dX12_undo_76 fl_12_413 kd_253 rfl rfl (fun μ_4 => ?_)
      refine s_iconst (pc := 79) (v := (1 : Int32)) dX12_undo_79 (by decide) ?_
      exact s_zret0 (pc := 80) dX12_undo_80 rfl rfl
def f_X12_answer_B25 (N : Nat)   (μ : z_S) : Option (Int32 × z_S) :=
  z_bn (f_X12_refuses N (2 : Int32) μ) fun x2 μ_2 => some (x2, μ_2)
theorem t_X12_answer_B25 (N : Nat)       (μ : z_S) : z_sim false rI mX12_answer 6 (f_X12_answer_B25 N    μ) 25 [(0, .ref 253)] [] μ := by
  unfold f_X12_answer_B25
  refine s_aload_n (pc := 25) 0 dX12_answer_25 rfl rfl ?_
  refine s_iconst (pc := 26) (v := (2 : Int32)) dX12_answer_26 (by decide) ?_
  refine s_callVI (pc := 27) (as := [.int (2 : Int32)]) (st := []) dX12_answer_27 lk_12_560 kd_253 (t_X12_refuses N (2 : Int32) μ) (by omega) rfl (by decide) rfl (fun x2 μ_2 => ?_)
  exact s_iret (pc := 30) rfl dX12_answer_30 rfl
def f_X12_answer (N : Nat) (a1 : Int32) (a2 : Int32) (μ : z_S) : Option (Int32 × z_S) :=
  z_bn (f_X12_isMail N a1 μ) fun x1 μ_1 => if x1 = 0 then (f_X12_answer_B25 N μ_1) else z_bn (f_X12_isHelper N a2 μ_1) fun x3 μ_3 => if x3 = 0 then (f_X12_answer_B25 N μ_3) else z_bn (f_X12_canAnswer N a1 a2 μ_3) fun x4 μ_4 => if x4 = 0 then (f_X12_answer_B25 N μ_4) else z_bn (f_X12_keeps N μ_4) fun _ μ_5 => z_bn (f_X12_timeOf N a1 a2 μ_5) fun x5 μ_6 => z_bn (f_X12_isAnswered N a1 a2 μ_6) fun _ μ_7 => some (x5, μ_7)
theorem t_X12_answer (N : Nat) (a1 : Int32) (a2 : Int32) (μ : z_S) : z_met false rI mX12_answer 6 [.ref 253, .int a1, .int a2] μ (f_X12_answer N a1 a2 μ) := by
  refine z_met.of (by decide +kernel) (by show _ ≤ _; first | decide | exact Nat.le_of_ble_eq_true rfl) (lv := [(0, .ref 253), (1, .int a1), (2, .int a2)]) rfl ?_
  unfold f_X12_answer
  refine s_aload_n (pc := 0) 0 dX12_answer_0 rfl rfl ?_
  refine s_iload_n (pc := 1) 1 dX12_answer_1 rfl rfl ?_
  refine s_callVI (pc := 2) (as := [.int a1]) (st := []) dX12_answer_2 lk_12_501 kd_253 (t_X12_isMail N a1 μ) (by omega) rfl (by decide) rfl (fun x1 μ_1 => ?_)
  refine s_if_eq (pc := 5) (tgt := 25) dX12_answer_5 (by decide) ?_ ?_
  · refine s_sub (lv' := [(0, .ref 253)]) [0] rfl ?_
    exact t_X12_answer_B25 N μ_1
  · refine s_aload_n (pc := 8) 0 dX12_answer_8 rfl rfl ?_
    refine s_iload_n (pc := 9) 2 dX12_answer_9 rfl rfl ?_
    refine s_callVI (pc := 10) (as := [.int a2]) (st := []) dX12_answer_10 lk_12_516 kd_253 (t_X12_isHelper N a2 μ_1) (by omega) rfl (by decide) rfl (fun x3 μ_3 => ?_)
    refine s_if_eq (pc := 13) (tgt := 25) dX12_answer_13 (by decide) ?_ ?_
    · refine s_sub (lv' := [(0, .ref 253)]) [0] rfl ?_
      exact t_X12_answer_B25 N μ_3
    · refine s_aload_n (pc := 16) 0 dX12_answer_16 rfl rfl ?_
      refine s_iload_n (pc := 17) 1 dX12_answer_17 rfl rfl ?_
      refine s_iload_n (pc := 18) 2 dX12_answer_18 rfl rfl ?_
      refine s_callVI (pc := 19) (as := [.int a1, .int a2]) (st := []) dX12_answer_19 lk_12_521 kd_253 (t_X12_canAnswer N a1 a2 μ_3) (by omega) rfl (by decide) rfl (fun x4 μ_4 => ?_)
      refine s_if_ne (pc := 22) (tgt := 31) dX12_answer_22 (by decide) ?_ ?_
      · refine s_sub (lv' := [(0, .ref 253)]) [0] rfl ?_
        exact t_X12_answer_B25 N μ_4
      · refine s_aload_n (pc := 31) 0 dX12_answer_31 rfl rfl ?_
        refine s_callVV (pc := 32) (as := []) (st := []) dX12_answer_32 lk_12_575 kd_253 (t_X12_keeps N μ_4) (by omega) rfl (by decide) rfl (fun _ μ_5 => ?_)
        refine s_aload_n (pc := 35) 0 dX12_answer_35 rfl rfl ?_
        refine s_iload_n (pc := 36) 1 dX12_answer_36 rfl rfl ?_
        refine s_iload_n (pc := 37) 2 dX12_answer_37 rfl rfl ?_
        refine s_callVI (pc := 38) (as := [.int a1, .int a2]) (st := []) dX12_answer_38 lk_12_461 kd_253 (t_X12_timeOf N a1 a2 μ_5) (by omega) rfl (by decide) rfl (fun x5 μ_6 => ?_)
        refine s_istore_n (pc := 41) (lv' := [(3, .int x5), (0, .ref 253), (1, .int a1), (2, .int a2)]) dX12_answer_41 rfl (by decide) rfl ?_
        refine s_aload_n (pc := 42) 1 dX12_answer_42 rfl rfl ?_
        refine s_iload_n (pc := 43) 2 dX12_answer_43 rfl rfl ?_
        refine s_iload_n (pc := 44) 3 dX12_answer_44 rfl rfl ?_
        refine s_callVV (pc := 45) (as := [.int a1, .int a2]) (st := []) dX12_answer_45 lk_12_488 kd_253 (t_X12_isAnswered N a1 a2 μ_6) (by omega) rfl (by decide) rfl (fun _ μ_7 => ?_)
        refine s_iload_n (pc := 48) 0 dX12_answer_48 rfl rfl ?_
        exact s_iret (pc := 49) rfl dX12_answer_49 rfl
def f_X12_isSheetNear_B38 (N : Nat) (c1 : Int32) (c2 : Int32) (kb : Int32 → z_S → Option (Int32 × z_S)) (v3 : Int32) (μ : z_S) : Option (Int32 × z_S) :=
  z_bd (v3 + 1) fun x3 => kb x3 μ
theorem t_X12_isSheetNear_B38 (N : Nat) (c1 : Int32) (c2 : Int32)  (kb : Int32 → z_S → Option (Int32 × z_S)) (hkb : ∀ (a3 : Int32) (μ : z_S), z_sim false rI mX12_isSheetNear 1 (kb a3 μ) 2 [(0, .ref 253), (1, .int c1), (2, .int c2), (3, .int a3)] [] μ) (v3 : Int32)  (μ : z_S) : z_sim false rI mX12_isSheetNear 1 (f_X12_isSheetNear_B38 N c1 c2 kb v3 μ) 38 [(0, .ref 253), (1, .int c1), (2, .int c2), (3, .int v3)] [] μ := by
  unfold f_X12_isSheetNear_B38
  refine s_iincB (pc := 38) (lv' := fun x3 => [(3, .int x3), (0, .ref 253), (1, .int c1), (2, .int c2)]) (c := 1) 3 dX12_isSheetNear_38 rfl (by decide) (by decide) (fun _ => rfl) (fun x3 => ?_)
  refine s_goto (pc := 41) (tgt := 2) dX12_isSheetNear_41 (by decide) ?_
  refine s_sub (lv' := [(0, .ref 253), (1, .int c1), (2, .int c2), (3, .int x3)]) [1, 2, 3, 0] rfl ?_
  exact hkb x3 μ
def b_X12_isSheetNear_L2 (N : Nat) (c1 : Int32) (c2 : Int32) (kb : Int32 → z_S → Option (Int32 × z_S)) (v3 : Int32) (μ : z_S) : Option (Int32 × z_S) :=
  z_bn (f_X12_letterMany N μ) fun x1 μ_1 => if v3 < x1 then (z_in ((8 : Int32) + c1) 16 <| if (((μ_1.1 289 ((8 : Int32) + c1).toNatClampNeg) >>> (v3 &&& 31)) &&& (1 : Int32)) = (1 : Int32) then (z_bn (f_X12_sheetOf N v3 μ_1) fun x2 μ_2 => if x2 = c2 then (some ((1 : Int32), μ_2)) else f_X12_isSheetNear_B38 N c1 c2 kb v3 μ_2) else f_X12_isSheetNear_B38 N c1 c2 kb v3 μ_1) else some ((0 : Int32), μ_1)
theorem tb_X12_isSheetNear_L2 (N : Nat) (c1 : Int32) (c2 : Int32) (kb : Int32 → z_S → Option (Int32 × z_S)) (hkb : ∀ (a3 : Int32) (μ : z_S), z_sim false rI mX12_isSheetNear 1 (kb a3 μ) 2 [(0, .ref 253), (1, .int c1), (2, .int c2), (3, .int a3)] [] μ) (v3 : Int32) (μ : z_S) : z_sim false rI mX12_isSheetNear 1 (b_X12_isSheetNear_L2 N c1 c2 kb v3 μ) 2 [(0, .ref 253), (1, .int c1), (2, .int c2), (3, .int v3)] [] μ := by
  unfold b_X12_isSheetNear_L2
  refine s_iload_n (pc := 2) 3 dX12_isSheetNear_2 rfl rfl ?_
  refine s_aload_n (pc := 3) 0 dX12_isSheetNear_3 rfl rfl ?_
  refine s_callVI (pc := 4) (as := []) (st := [.int v3]) dX12_isSheetNear_4 lk_12_419 kd_253 (t_X12_letterMany N μ) (by omega) rfl (Nat.le_of_ble_eq_true rfl) rfl (fun x1 μ_1 => ?_)
  refine s_icmp_ge (pc := 7) (tgt := 44) dX12_isSheetNear_7 (by decide) ?_ ?_
  · refine s_aload_n (pc := 10) 0 dX12_isSheetNear_10 rfl rfl ?_
    refine s_getR (pc := 11) (ci := 12) (k := 44) (r := 289) dX12_isSheetNear_11 fl_12_121 kd_253 rfl rs_253_44 ?_
    refine s_bipush (pc := 14) (v := (8 : Int32)) dX12_isSheetNear_14 (by decide) ?_
    refine s_iload_n (pc := 16) 1 dX12_isSheetNear_16 rfl rfl ?_
    refine s_iadd (pc := 17) dX12_isSheetNear_17 ?_
    refine s_iald (pc := 18) dX12_isSheetNear_18 kd_289 ?_
    refine s_iload_n (pc := 19) 3 dX12_isSheetNear_19 rfl rfl ?_
    refine s_ishr (pc := 20) dX12_isSheetNear_20 ?_
    refine s_iconst (pc := 21) (v := (1 : Int32)) dX12_isSheetNear_21 (by decide) ?_
    refine s_iand (pc := 22) dX12_isSheetNear_22 ?_
    refine s_iconst (pc := 23) (v := (1 : Int32)) dX12_isSheetNear_23 (by decide) ?_
    refine s_icmp_ne (pc := 24) (tgt := 38) dX12_isSheetNear_24 (by decide) ?_ ?_
    · refine s_aload_n (pc := 27) 0 dX12_isSheetNear_27 rfl rfl ?_
      refine s_iload_n (pc := 28) 3 dX12_isSheetNear_28 rfl rfl ?_
      refine s_callVI (pc := 29) (as := [.int v3]) (st := []) dX12_isSheetNear_29 lk_12_504 kd_253 (t_X12_sheetOf N v3 μ_1) (by omega) rfl (by decide) rfl (fun x2 μ_2 => ?_)
      refine s_iload_n (pc := 32) 2 dX12_isSheetNear_32 rfl rfl ?_
      refine s_icmp_ne (pc := 33) (tgt := 38) dX12_isSheetNear_33 (by decide) ?_ ?_
      · refine s_iconst (pc := 36) (v := (1 : Int32)) dX12_isSheetNear_36 (by decide) ?_
        exact s_zret0 (pc := 37) dX12_isSheetNear_37 rfl rfl
      · exact t_X12_isSheetNear_B38 N c1 c2 kb hkb v3 μ_2
    · exact t_X12_isSheetNear_B38 N c1 c2 kb hkb v3 μ_1
  · refine s_iconst (pc := 44) (v := (0 : Int32)) dX12_isSheetNear_44 (by decide) ?_
    exact s_zret0 (pc := 45) dX12_isSheetNear_45 rfl rfl
def f_X12_isSheetNear_L2 (N : Nat) (c1 : Int32) (c2 : Int32) : Nat → Int32 → z_S → Option (Int32 × z_S)
  | 0, _, _ => none
  | n + 1, v3, μ => b_X12_isSheetNear_L2 N c1 c2 (f_X12_isSheetNear_L2 N c1 c2 n) v3 μ
theorem t_X12_isSheetNear_L2 (N : Nat) (c1 : Int32) (c2 : Int32) : ∀ (n : Nat) (v3 : Int32) (μ : z_S), z_sim false rI mX12_isSheetNear 1 (f_X12_isSheetNear_L2 N c1 c2 n v3 μ) 2 [(0, .ref 253), (1, .int c1), (2, .int c2), (3, .int v3)] [] μ
  | 0, _, _ => s_none
  | n + 1, v3, μ => tb_X12_isSheetNear_L2 N c1 c2 (f_X12_isSheetNear_L2 N c1 c2 n) (t_X12_isSheetNear_L2 N c1 c2 n) v3 μ
def f_X12_isSheetNear (N : Nat) (a1 : Int32) (a2 : Int32) (μ : z_S) : Option (Int32 × z_S) :=
  f_X12_isSheetNear_L2 N a1 a2 N (0 : Int32) μ
theorem t_X12_isSheetNear (N : Nat) (a1 : Int32) (a2 : Int32) (μ : z_S) : z_met false rI mX12_isSheetNear 1 [.ref 253, .int a1, .int a2] μ (f_X12_isSheetNear N a1 a2 μ) := by
  refine z_met.of (by decide +kernel) (by show _ ≤ _; first | decide | exact Nat.le_of_ble_eq_true rfl) (lv := [(0, .ref 253), (1, .int a1), (2, .int a2)]) rfl ?_
  unfold f_X12_isSheetNear
  refine s_iconst (pc := 0) (v := (0 : Int32)) dX12_isSheetNear_0 (by decide) ?_
  refine s_istore_n (pc := 1) (lv' := [(3, .int (0 : Int32)), (0, .ref 253), (1, .int a1), (2, .int a2)]) dX12_isSheetNear_1 rfl (by decide) rfl ?_
  refine s_sub (lv' := [(0, .ref 253), (1, .int a1), (2, .int a2), (3, .int (0 : Int32))]) [1, 2, 3, 0] rfl ?_
  refine t_X12_isSheetNear_L2 N a1 a2 N (0 : Int32) μ
def f_X12_sheet_B38 (N : Nat)   (μ : z_S) : Option (Int32 × z_S) :=
  z_bd (z_setI μ 255 2 ((μ.1 255 2) + (1 : Int32))) fun μ_2 => some ((0 : Int32), μ_2)
theorem t_X12_sheet_B38 (N : Nat)       (μ : z_S) : z_sim false rI mX12_sheet 2 (f_X12_sheet_B38 N    μ) 38 [(0, .ref 253)] [] μ := by
  unfold f_X12_sheet_B38
  refine s_aload_n (pc := 38) 0 dX12_sheet_38 rfl rfl ?_
  refine s_getR (pc := 39) (ci := 12) (k := 9) (r := 255) dX12_sheet_39 fl_12_17 kd_253 rfl rs_253_9 ?_
  refine s_iconst (pc := 42) (v := (2 : Int32)) dX12_sheet_42 (by decide) ?_
  refine s_dup2 (pc := 43) dX12_sheet_43 rfl rfl ?_
  refine s_ialdK (pc := 44) (k := 2) dX12_sheet_44 kd_255 (by decide) (by decide) (by decide) ?_
  refine s_iconst (pc := 45) (v := (1 : Int32)) dX12_sheet_45 (by decide) ?_
  refine s_iadd (pc := 46) dX12_sheet_46 ?_
  refine s_iastK (pc := 47) (k := 2) dX12_sheet_47 kd_255 (by decide) (by decide) (by decide) (fun μ_2 => ?_)
  refine s_iconst (pc := 48) (v := (0 : Int32)) dX12_sheet_48 (by decide) ?_
  exact s_zret0 (pc := 49) dX12_sheet_49 rfl rfl
def f_X12_sheet (N : Nat) (a1 : Int32) (a2 : Int32) (μ : z_S) : Option (Int32 × z_S) :=
  z_bn (f_X12_isMail N a1 μ) fun x1 μ_1 => if x1 = 0 then (f_X12_sheet_B38 N μ_1) else z_bn (f_X12_isIn N a2.toInt64 (1 : Int64) (4 : Int64) μ_1) fun x2 μ_3 => if x2 = 0 then (f_X12_sheet_B38 N μ_3) else z_bn (f_X12_sheetOf N a1 μ_3) fun x3 μ_4 => if x3 = a2 then (f_X12_sheet_B38 N μ_4) else z_bn (f_X12_isSheetNear N a1 a2 μ_4) fun x4 μ_5 => if x4 = 0 then (z_bn (f_X12_keeps N μ_5) fun _ μ_6 => z_in (((8 : Int32) + ((3 : Int32) * a1)) + (1 : Int32)) 32 <| z_bd (z_setI μ_6 296 (((8 : Int32) + ((3 : Int32) * a1)) + (1 : Int32)).toNatClampNeg a2) fun μ_7 => some ((1 : Int32), μ_7)) else f_X12_sheet_B38 N μ_5
theorem t_X12_sheet (N : Nat) (a1 : Int32) (a2 : Int32) (μ : z_S) : z_met false rI mX12_sheet 2 [.ref 253, .int a1, .int a2] μ (f_X12_sheet N a1 a2 μ) := by
  refine z_met.of (by decide +kernel) (by show _ ≤ _; first | decide | exact Nat.le_of_ble_eq_true rfl) (lv := [(0, .ref 253), (1, .int a1), (2, .int a2)]) rfl ?_
  unfold f_X12_sheet
  refine s_aload_n (pc := 0) 0 dX12_sheet_0 rfl rfl ?_
  refine s_iload_n (pc := 1) 1 dX12_sheet_1 rfl rfl ?_
  refine s_callVI (pc := 2) (as := [.int a1]) (st := []) dX12_sheet_2 lk_12_501 kd_253 (t_X12_isMail N a1 μ) (by omega) rfl (by decide) rfl (fun x1 μ_1 => ?_)
  refine s_if_eq (pc := 5) (tgt := 38) dX12_sheet_5 (by decide) ?_ ?_
  · refine s_sub (lv' := [(0, .ref 253)]) [0] rfl ?_
    exact t_X12_sheet_B38 N μ_1
  · refine s_iload_n (pc := 8) 2 dX12_sheet_8 rfl rfl ?_
    refine s_i2l (pc := 9) dX12_sheet_9 ?_
    refine s_lconst (pc := 10) (v := (1 : Int64)) dX12_sheet_10 (by decide) ?_
    refine s_ldc2 (pc := 11) (v := (4 : Int64)) dX12_sheet_11 w_2107 ?_
    refine s_callSI (pc := 14) (as := [.long a2.toInt64, .long (1 : Int64), .long (4 : Int64)]) (st := []) dX12_sheet_14 lk_12_303 (t_X12_isIn N a2.toInt64 (1 : Int64) (4 : Int64) μ_1) (by omega) rfl (by decide) rfl (fun x2 μ_3 => ?_)
    refine s_if_eq (pc := 17) (tgt := 38) dX12_sheet_17 (by decide) ?_ ?_
    · refine s_sub (lv' := [(0, .ref 253)]) [0] rfl ?_
      exact t_X12_sheet_B38 N μ_3
    · refine s_aload_n (pc := 20) 0 dX12_sheet_20 rfl rfl ?_
      refine s_iload_n (pc := 21) 1 dX12_sheet_21 rfl rfl ?_
      refine s_callVI (pc := 22) (as := [.int a1]) (st := []) dX12_sheet_22 lk_12_504 kd_253 (t_X12_sheetOf N a1 μ_3) (by omega) rfl (by decide) rfl (fun x3 μ_4 => ?_)
      refine s_iload_n (pc := 25) 2 dX12_sheet_25 rfl rfl ?_
      refine s_icmp_eq (pc := 26) (tgt := 38) dX12_sheet_26 (by decide) ?_ ?_
      · refine s_sub (lv' := [(0, .ref 253)]) [0] rfl ?_
        exact t_X12_sheet_B38 N μ_4
      · refine s_aload_n (pc := 29) 0 dX12_sheet_29 rfl rfl ?_
        refine s_iload_n (pc := 30) 1 dX12_sheet_30 rfl rfl ?_
        refine s_iload_n (pc := 31) 2 dX12_sheet_31 rfl rfl ?_
        refine s_callVI (pc := 32) (as := [.int a1, .int a2]) (st := []) dX12_sheet_32 lk_12_580 kd_253 (t_X12_isSheetNear N a1 a2 μ_4) (by omega) rfl (by decide) rfl (fun x4 μ_5 => ?_)
        refine s_if_eq (pc := 35) (tgt := 50) dX12_sheet_35 (by decide) ?_ ?_
        · refine s_aload_n (pc := 50) 0 dX12_sheet_50 rfl rfl ?_
          refine s_callVV (pc := 51) (as := []) (st := []) dX12_sheet_51 lk_12_575 kd_253 (t_X12_keeps N μ_5) (by omega) rfl (by decide) rfl (fun _ μ_6 => ?_)
          refine s_aload_n (pc := 54) 0 dX12_sheet_54 rfl rfl ?_
          refine s_getR (pc := 55) (ci := 12) (k := 54) (r := 296) dX12_sheet_55 fl_12_142 kd_253 rfl rs_253_54 ?_
          refine s_bipush (pc := 58) (v := (8 : Int32)) dX12_sheet_58 (by decide) ?_
          refine s_iconst (pc := 60) (v := (3 : Int32)) dX12_sheet_60 (by decide) ?_
          refine s_iload_n (pc := 61) 1 dX12_sheet_61 rfl rfl ?_
          refine s_imul (pc := 62) dX12_sheet_62 ?_
          refine s_iadd (pc := 63) dX12_sheet_63 ?_
          refine s_iconst (pc := 64) (v := (1 : Int32)) dX12_sheet_64 (by decide) ?_
          refine s_iadd (pc := 65) dX12_sheet_65 ?_
          refine s_iload_n (pc := 66) 2 dX12_sheet_66 rfl rfl ?_
          refine s_iast (pc := 67) dX12_sheet_67 kd_296 (fun μ_7 => ?_)
          refine s_iconst (pc := 68) (v := (1 : Int32)) dX12_sheet_68 (by decide) ?_
          exact s_zret0 (pc := 69) dX12_sheet_69 rfl rfl
        · refine s_sub (lv' := [(0, .ref 253)]) [0] rfl ?_
          exact t_X12_sheet_B38 N μ_5
def f_X12_give_B35 (N : Nat)   (μ : z_S) : Option (Int32 × z_S) :=
  z_bn (f_X12_refuses N (2 : Int32) μ) fun x2 μ_2 => some (x2, μ_2)
theorem t_X12_give_B35 (N : Nat)       (μ : z_S) : z_sim false rI mX12_give 2 (f_X12_give_B35 N    μ) 35 [(0, .ref 253)] [] μ := by
  unfold f_X12_give_B35
  refine s_aload_n (pc := 35) 0 dX12_give_35 rfl rfl ?_
  refine s_iconst (pc := 36) (v := (2 : Int32)) dX12_give_36 (by decide) ?_
  refine s_callVI (pc := 37) (as := [.int (2 : Int32)]) (st := []) dX12_give_37 lk_12_560 kd_253 (t_X12_refuses N (2 : Int32) μ) (by omega) rfl (by decide) rfl (fun x2 μ_2 => ?_)
  exact s_iret (pc := 40) rfl dX12_give_40 rfl
def f_X12_give (N : Nat) (a1 : Int32) (a2 : Int32) (μ : z_S) : Option (Int32 × z_S) :=
  z_bn (f_X12_isMail N a1 μ) fun x1 μ_1 => if x1 = 0 then (f_X12_give_B35 N μ_1) else z_bn (f_X12_isGift N a2 μ_1) fun x3 μ_3 => if x3 = 0 then (f_X12_give_B35 N μ_3) else z_bn (f_X12_giftOf N a1 μ_3) fun x4 μ_4 => if 0 < x4 then (f_X12_give_B35 N μ_4) else z_in ((4 : Int32) + a2) 32 <| if (μ_4.1 296 ((4 : Int32) + a2).toNatClampNeg) = 0 then (f_X12_give_B35 N μ_4) else z_bn (f_X12_keeps N μ_4) fun _ μ_5 => z_bd ((4 : Int32) + a2) fun x5 => z_in x5 32 <| z_in x5 32 <| z_bd (z_setI μ_5 296 x5.toNatClampNeg ((μ_5.1 296 x5.toNatClampNeg) - (1 : Int32))) fun μ_6 => z_in (((8 : Int32) + ((3 : Int32) * a1)) + (2 : Int32)) 32 <| z_bd (z_setI μ_6 296 (((8 : Int32) + ((3 : Int32) * a1)) + (2 : Int32)).toNatClampNeg (a2 + (1 : Int32))) fun μ_7 => z_in ((4 : Int32) + a2) 32 <| some ((μ_7.1 296 ((4 : Int32) + a2).toNatClampNeg), μ_7)
theorem t_X12_give (N : Nat) (a1 : Int32) (a2 : Int32) (μ : z_S) : z_met false rI mX12_give 2 [.ref 253, .int a1, .int a2] μ (f_X12_give N a1 a2 μ) := by
  refine z_met.of (by decide +kernel) (by show _ ≤ _; first | decide | exact Nat.le_of_ble_eq_true rfl) (lv := [(0, .ref 253), (1, .int a1), (2, .int a2)]) rfl ?_
  unfold f_X12_give
  refine s_aload_n (pc := 0) 0 dX12_give_0 rfl rfl ?_
  refine s_iload_n (pc := 1) 1 dX12_give_1 rfl rfl ?_
  refine s_callVI (pc := 2) (as := [.int a1]) (st := []) dX12_give_2 lk_12_501 kd_253 (t_X12_isMail N a1 μ) (by omega) rfl (by decide) rfl (fun x1 μ_1 => ?_)
  refine s_if_eq (pc := 5) (tgt := 35) dX12_give_5 (by decide) ?_ ?_
  · refine s_sub (lv' := [(0, .ref 253)]) [0] rfl ?_
    exact t_X12_give_B35 N μ_1
  · refine s_aload_n (pc := 8) 0 dX12_give_8 rfl rfl ?_
    refine s_iload_n (pc := 9) 2 dX12_give_9 rfl rfl ?_
    refine s_callVI (pc := 10) (as := [.int a2]) (st := []) dX12_give_10 lk_12_513 kd_253 (t_X12_isGift N a2 μ_1) (by omega) rfl (by decide) rfl (fun x3 μ_3 => ?_)
    refine s_if_eq (pc := 13) (tgt := 35) dX12_give_13 (by decide) ?_ ?_
    · refine s_sub (lv' := [(0, .ref 253)]) [0] rfl ?_
      exact t_X12_give_B35 N μ_3
    · refine s_aload_n (pc := 16) 0 dX12_give_16 rfl rfl ?_
      refine s_iload_n (pc := 17) 1 dX12_give_17 rfl rfl ?_
      refine s_callVI (pc := 18) (as := [.int a1]) (st := []) dX12_give_18 lk_12_507 kd_253 (t_X12_giftOf N a1 μ_3) (by omega) rfl (by decide) rfl (fun x4 μ_4 => ?_)
      refine s_if_gt (pc := 21) (tgt := 35) dX12_give_21 (by decide) ?_ ?_
      · refine s_sub (lv' := [(0, .ref 253)]) [0] rfl ?_
        exact t_X12_give_B35 N μ_4
      · refine s_aload_n (pc := 24) 0 dX12_give_24 rfl rfl ?_
        refine s_getR (pc := 25) (ci := 12) (k := 54) (r := 296) dX12_give_25 fl_12_142 kd_253 rfl rs_253_54 ?_
        refine s_iconst (pc := 28) (v := (4 : Int32)) dX12_give_28 (by decide) ?_
        refine s_iload_n (pc := 29) 2 dX12_give_29 rfl rfl ?_
        refine s_iadd (pc := 30) dX12_give_30 ?_
        refine s_iald (pc := 31) dX12_give_31 kd_296 ?_
        refine s_if_ne (pc := 32) (tgt := 41) dX12_give_32 (by decide) ?_ ?_
        · refine s_sub (lv' := [(0, .ref 253)]) [0] rfl ?_
          exact t_X12_give_B35 N μ_4
        · refine s_aload_n (pc := 41) 0 dX12_give_41 rfl rfl ?_
          refine s_callVV (pc := 42) (as := []) (st := []) dX12_give_42 lk_12_575 kd_253 (t_X12_keeps N μ_4) (by omega) rfl (by decide) rfl (fun _ μ_5 => ?_)
          refine s_aload_n (pc := 45) 0 dX12_give_45 rfl rfl ?_
          refine s_getR (pc := 46) (ci := 12) (k := 54) (r := 296) dX12_give_46 fl_12_142 kd_253 rfl rs_253_54 ?_
          refine s_iconst (pc := 49) (v := (4 : Int32)) dX12_give_49 (by decide) ?_
          refine s_iload_n (pc := 50) 2 dX12_give_50 rfl rfl ?_
          refine s_iadd (pc := 51) dX12_give_51 ?_
          refine s_letI (fun x5 => ?_)
          refine s_dup2 (pc := 52) dX12_give_52 rfl rfl ?_
          refine s_iald (pc := 53) dX12_give_53 kd_296 ?_
          refine s_iconst (pc := 54) (v := (1 : Int32)) dX12_give_54 (by decide) ?_
          refine s_isub (pc := 55) dX12_give_55 ?_
          refine s_iast (pc := 56) dX12_give_56 kd_296 (fun μ_6 => ?_)
          refine s_aload_n (pc := 57) 0 dX12_give_57 rfl rfl ?_
          refine s_getR (pc := 58) (ci := 12) (k := 54) (r := 296) dX12_give_58 fl_12_142 kd_253 rfl rs_253_54 ?_
          refine s_bipush (pc := 61) (v := (8 : Int32)) dX12_give_61 (by decide) ?_
          refine s_iconst (pc := 63) (v := (3 : Int32)) dX12_give_63 (by decide) ?_
          refine s_iload_n (pc := 64) 1 dX12_give_64 rfl rfl ?_
          refine s_imul (pc := 65) dX12_give_65 ?_
          refine s_iadd (pc := 66) dX12_give_66 ?_
          refine s_iconst (pc := 67) (v := (2 : Int32)) dX12_give_67 (by decide) ?_
          refine s_iadd (pc := 68) dX12_give_68 ?_
          refine s_iload_n (pc := 69) 2 dX12_give_69 rfl rfl ?_
          refine s_iconst (pc := 70) (v := (1 : Int32)) dX12_give_70 (by decide) ?_
          refine s_iadd (pc := 71) dX12_give_71 ?_
          refine s_iast (pc := 72) dX12_give_72 kd_296 (fun μ_7 => ?_)
          refine s_aload_n (pc := 73) 0 dX12_give_73 rfl rfl ?_
          refine s_getR (pc := 74) (ci := 12) (k := 54) (r := 296) dX12_give_74 fl_12_142 kd_253 rfl rs_253_54 ?_
          refine s_iconst (pc := 77) (v := (4 : Int32)) dX12_give_77 (by decide) ?_
          refine s_iload_n (pc := 78) 2 dX12_give_78 rfl rfl ?_
          refine s_iadd (pc := 79) dX12_give_79 ?_
          refine s_iald (pc := 80) dX12_give_80 kd_296 ?_
          exact s_iret (pc := 81) rfl dX12_give_81 rfl
def b_X12_evenings_L25 (N : Nat) (c1 : Int32) (kb : Int32 → Int32 → z_S → Option (Int32 × z_S)) (v2 : Int32) (v3 : Int32) (μ : z_S) : Option (Int32 × z_S) :=
  if v3 < c1 then (z_bn (f_X12_eveningGoes N μ) fun x3 μ_4 => z_bd (v2 + x3) fun x4 => z_bd (v3 + 1) fun x5 => kb x4 x5 μ_4) else some (v2, μ)
theorem tb_X12_evenings_L25 (N : Nat) (c1 : Int32) (kb : Int32 → Int32 → z_S → Option (Int32 × z_S)) (hkb : ∀ (a2 : Int32) (a3 : Int32) (μ : z_S), z_sim false rI mX12_evenings 8 (kb a2 a3 μ) 25 [(0, .ref 253), (1, .int c1), (2, .int a2), (3, .int a3)] [] μ) (v2 : Int32) (v3 : Int32) (μ : z_S) : z_sim false rI mX12_evenings 8 (b_X12_evenings_L25 N c1 kb v2 v3 μ) 25 [(0, .ref 253), (1, .int c1), (2, .int v2), (3, .int v3)] [] μ := by
  unfold b_X12_evenings_L25
  refine s_iload_n (pc := 25) 3 dX12_evenings_25 rfl rfl ?_
  refine s_iload_n (pc := 26) 1 dX12_evenings_26 rfl rfl ?_
  refine s_icmp_ge (pc := 27) (tgt := 43) dX12_evenings_27 (by decide) ?_ ?_
  · refine s_iload_n (pc := 30) 2 dX12_evenings_30 rfl rfl ?_
    refine s_aload_n (pc := 31) 0 dX12_evenings_31 rfl rfl ?_
    refine s_callVI (pc := 32) (as := []) (st := [.int v2]) dX12_evenings_32 lk_12_530 kd_253 (t_X12_eveningGoes N μ) (by omega) rfl (Nat.le_of_ble_eq_true rfl) rfl (fun x3 μ_4 => ?_)
    refine s_iadd (pc := 35) dX12_evenings_35 ?_
    refine s_letI (fun x4 => ?_)
    refine s_istore_n (pc := 36) (lv' := [(2, .int x4), (0, .ref 253), (1, .int c1), (3, .int v3)]) dX12_evenings_36 rfl (by decide) rfl ?_
    refine s_iincB (pc := 37) (lv' := fun x5 => [(3, .int x5), (2, .int x4), (0, .ref 253), (1, .int c1)]) (c := 1) 3 dX12_evenings_37 rfl (by decide) (by decide) (fun _ => rfl) (fun x5 => ?_)
    refine s_goto (pc := 40) (tgt := 25) dX12_evenings_40 (by decide) ?_
    refine s_sub (lv' := [(0, .ref 253), (1, .int c1), (2, .int x4), (3, .int x5)]) [2, 3, 1, 0] rfl ?_
    exact hkb x4 x5 μ_4
  · refine s_iload_n (pc := 43) 2 dX12_evenings_43 rfl rfl ?_
    exact s_iret (pc := 44) rfl dX12_evenings_44 rfl
def f_X12_evenings_L25 (N : Nat) (c1 : Int32) : Nat → Int32 → Int32 → z_S → Option (Int32 × z_S)
  | 0, _, _, _ => none
  | n + 1, v2, v3, μ => b_X12_evenings_L25 N c1 (f_X12_evenings_L25 N c1 n) v2 v3 μ
theorem t_X12_evenings_L25 (N : Nat) (c1 : Int32) : ∀ (n : Nat) (v2 : Int32) (v3 : Int32) (μ : z_S), z_sim false rI mX12_evenings 8 (f_X12_evenings_L25 N c1 n v2 v3 μ) 25 [(0, .ref 253), (1, .int c1), (2, .int v2), (3, .int v3)] [] μ
  | 0, _, _, _ => s_none
  | n + 1, v2, v3, μ => tb_X12_evenings_L25 N c1 (f_X12_evenings_L25 N c1 n) (t_X12_evenings_L25 N c1 n) v2 v3 μ
def f_X12_evenings (N : Nat) (a1 : Int32) (μ : z_S) : Option (Int32 × z_S) :=
  z_bn (f_X12_isAhead N a1 (1 : Int32) (50 : Int32) μ) fun x1 μ_1 => if x1 = 0 then (z_bn (f_X12_refuses N (3 : Int32) μ_1) fun x2 μ_2 => some (x2, μ_2)) else z_bn (f_X12_keeps N μ_1) fun _ μ_3 => f_X12_evenings_L25 N a1 N (0 : Int32) (0 : Int32) μ_3
theorem t_X12_evenings (N : Nat) (a1 : Int32) (μ : z_S) : z_met false rI mX12_evenings 8 [.ref 253, .int a1] μ (f_X12_evenings N a1 μ) := by
  refine z_met.of (by decide +kernel) (by show _ ≤ _; first | decide | exact Nat.le_of_ble_eq_true rfl) (lv := [(0, .ref 253), (1, .int a1)]) rfl ?_
  unfold f_X12_evenings
  refine s_aload_n (pc := 0) 0 dX12_evenings_0 rfl rfl ?_
  refine s_iload_n (pc := 1) 1 dX12_evenings_1 rfl rfl ?_
  refine s_iconst (pc := 2) (v := (1 : Int32)) dX12_evenings_2 (by decide) ?_
  refine s_bipush (pc := 3) (v := (50 : Int32)) dX12_evenings_3 (by decide) ?_
  refine s_callVI (pc := 5) (as := [.int a1, .int (1 : Int32), .int (50 : Int32)]) (st := []) dX12_evenings_5 lk_12_524 kd_253 (t_X12_isAhead N a1 (1 : Int32) (50 : Int32) μ) (by omega) rfl (by decide) rfl (fun x1 μ_1 => ?_)
  refine s_if_ne (pc := 8) (tgt := 17) dX12_evenings_8 (by decide) ?_ ?_
  · refine s_aload_n (pc := 11) 0 dX12_evenings_11 rfl rfl ?_
    refine s_iconst (pc := 12) (v := (3 : Int32)) dX12_evenings_12 (by decide) ?_
    refine s_callVI (pc := 13) (as := [.int (3 : Int32)]) (st := []) dX12_evenings_13 lk_12_560 kd_253 (t_X12_refuses N (3 : Int32) μ_1) (by omega) rfl (by decide) rfl (fun x2 μ_2 => ?_)
    exact s_iret (pc := 16) rfl dX12_evenings_16 rfl
  · refine s_aload_n (pc := 17) 0 dX12_evenings_17 rfl rfl ?_
    refine s_callVV (pc := 18) (as := []) (st := []) dX12_evenings_18 lk_12_575 kd_253 (t_X12_keeps N μ_1) (by omega) rfl (by decide) rfl (fun _ μ_3 => ?_)
    refine s_iconst (pc := 21) (v := (0 : Int32)) dX12_evenings_21 (by decide) ?_
    refine s_istore_n (pc := 22) (lv' := [(2, .int (0 : Int32)), (0, .ref 253), (1, .int a1)]) dX12_evenings_22 rfl (by decide) rfl ?_
    refine s_iconst (pc := 23) (v := (0 : Int32)) dX12_evenings_23 (by decide) ?_
    refine s_istore_n (pc := 24) (lv' := [(3, .int (0 : Int32)), (2, .int (0 : Int32)), (0, .ref 253), (1, .int a1)]) dX12_evenings_24 rfl (by decide) rfl ?_
    refine s_sub (lv' := [(0, .ref 253), (1, .int a1), (2, .int (0 : Int32)), (3, .int (0 : Int32))]) [2, 3, 1, 0] rfl ?_
    refine t_X12_evenings_L25 N a1 N (0 : Int32) (0 : Int32) μ_3
def f_X12_seed (N : Nat) (a1 : Int32) (μ : z_S) : Option (Int32 × z_S) :=
  if a1 < 0 then (z_bd (z_setI μ 255 5 ((μ.1 255 5) + (1 : Int32))) fun μ_1 => some ((0 : Int32), μ_1)) else z_bd (z_setJ μ 253 70 a1.toInt64) fun μ_2 => some ((1 : Int32), μ_2)
theorem t_X12_seed (N : Nat) (a1 : Int32) (μ : z_S) : z_met false rI mX12_seed 0 [.ref 253, .int a1] μ (f_X12_seed N a1 μ) := by
  refine z_met.of (by decide +kernel) (by show _ ≤ _; first | decide | exact Nat.le_of_ble_eq_true rfl) (lv := [(0, .ref 253), (1, .int a1)]) rfl ?_
  unfold f_X12_seed
  refine s_iload_n (pc := 0) 1 dX12_seed_0 rfl rfl ?_
  refine s_if_ge (pc := 1) (tgt := 16) dX12_seed_1 (by decide) ?_ ?_
  · refine s_aload_n (pc := 4) 0 dX12_seed_4 rfl rfl ?_
    refine s_getR (pc := 5) (ci := 12) (k := 9) (r := 255) dX12_seed_5 fl_12_17 kd_253 rfl rs_253_9 ?_
    refine s_iconst (pc := 8) (v := (5 : Int32)) dX12_seed_8 (by decide) ?_
    refine s_dup2 (pc := 9) dX12_seed_9 rfl rfl ?_
    refine s_ialdK (pc := 10) (k := 5) dX12_seed_10 kd_255 (by decide) (by decide) (by decide) ?_
    refine s_iconst (pc := 11) (v := (1 : Int32)) dX12_seed_11 (by decide) ?_
    refine s_iadd (pc := 12) dX12_seed_12 ?_
    refine s_iastK (pc := 13) (k := 5) dX12_seed_13 kd_255 (by decide) (by decide) (by decide) (fun μ_1 => ?_)
    refine s_iconst (pc := 14) (v := (0 : Int32)) dX12_seed_14 (by decide) ?_
    exact s_zret0 (pc := 15) dX12_seed_15 rfl rfl
  · refine s_aload_n (pc := 16) 0 dX12_seed_16 rfl rfl ?_
    refine s_iload_n (pc := 17) 1 dX12_seed_17 rfl rfl ?_
    refine s_i2l (pc := 18) dX12_seed_18 ?_
    refine s_putJ (pc := 19) (ci := 12) (k := 70) dX12_seed_19 fl_12_175 kd_253 rfl rfl (fun μ_2 => ?_)
    refine s_iconst (pc := 22) (v := (1 : Int32)) dX12_seed_22 (by decide) ?_
    exact s_zret0 (pc := 23) dX12_seed_23 rfl rfl
def f_X12_drawOf (N : Nat) (a1 : Int32) (μ : z_S) : Option (Int32 × z_S) :=
  z_nzJ (2147483648 : Int64) <| z_bd (z_setJ μ 253 70 ((((1103515245 : Int64) * (μ.2.1 253 70)) + (12345 : Int64)) - (((1103515245 : Int64) * (μ.2.1 253 70)) + (12345 : Int64)) / (2147483648 : Int64) * (2147483648 : Int64))) fun μ_1 => z_nzJ (64 : Int64) <| z_nzJ a1.toInt64 <| some ((((μ_1.2.1 253 70) / (64 : Int64)) - ((μ_1.2.1 253 70) / (64 : Int64)) / a1.toInt64 * a1.toInt64).toInt32, μ_1)
theorem t_X12_drawOf (N : Nat) (a1 : Int32) (μ : z_S) : z_met false rI mX12_drawOf 0 [.ref 253, .int a1] μ (f_X12_drawOf N a1 μ) := by
  refine z_met.of (by decide +kernel) (by show _ ≤ _; first | decide | exact Nat.le_of_ble_eq_true rfl) (lv := [(0, .ref 253), (1, .int a1)]) rfl ?_
  unfold f_X12_drawOf
  refine s_aload_n (pc := 0) 0 dX12_drawOf_0 rfl rfl ?_
  refine s_ldc2 (pc := 1) (v := (1103515245 : Int64)) dX12_drawOf_1 w_2132 ?_
  refine s_aload_n (pc := 4) 0 dX12_drawOf_4 rfl rfl ?_
  refine s_getJ (pc := 5) (ci := 12) (k := 70) dX12_drawOf_5 fl_12_175 kd_253 rfl ?_
  refine s_lmul (pc := 8) dX12_drawOf_8 ?_
  refine s_ldc2 (pc := 9) (v := (12345 : Int64)) dX12_drawOf_9 w_2133 ?_
  refine s_ladd (pc := 12) dX12_drawOf_12 ?_
  refine s_ldc2 (pc := 13) (v := (2147483648 : Int64)) dX12_drawOf_13 w_2134 ?_
  refine s_lrem (pc := 16) dX12_drawOf_16 ?_
  refine s_putJ (pc := 17) (ci := 12) (k := 70) dX12_drawOf_17 fl_12_175 kd_253 rfl rfl (fun μ_1 => ?_)
  refine s_aload_n (pc := 20) 0 dX12_drawOf_20 rfl rfl ?_
  refine s_getJ (pc := 21) (ci := 12) (k := 70) dX12_drawOf_21 fl_12_175 kd_253 rfl ?_
  refine s_ldc2 (pc := 24) (v := (64 : Int64)) dX12_drawOf_24 w_2135 ?_
  refine s_ldiv (pc := 27) dX12_drawOf_27 ?_
  refine s_iload_n (pc := 28) 1 dX12_drawOf_28 rfl rfl ?_
  refine s_i2l (pc := 29) dX12_drawOf_29 ?_
  refine s_lrem (pc := 30) dX12_drawOf_30 ?_
  refine s_l2i (pc := 31) dX12_drawOf_31 ?_
  exact s_iret (pc := 32) rfl dX12_drawOf_32 rfl
def f_X12_chance_B70 (N : Nat) (c1 : Int32) (c3 : Int32) (kb : Int32 → Int32 → z_S → Option (Int32 × z_S)) (e76 : Int32 → z_S → Option (Int32 × z_S)) (v2 : Int32) (v4 : Int32) (μ : z_S) : Option (Int32 × z_S) :=
  z_bd (v4 + 1) fun x6 => kb v2 x6 μ
theorem t_X12_chance_B70 (N : Nat) (c1 : Int32) (c3 : Int32)  (kb : Int32 → Int32 → z_S → Option (Int32 × z_S)) (e76 : Int32 → z_S → Option (Int32 × z_S)) (hkb : ∀ (a2 : Int32) (a4 : Int32) (μ : z_S), z_sim false rI mX12_chance 8 (kb a2 a4 μ) 33 [(0, .ref 253), (1, .int c1), (2, .int a2), (3, .int c3), (4, .int a4)] [] μ) (he76 : ∀ (a2 : Int32) (μ : z_S), z_sim false rI mX12_chance 8 (e76 a2 μ) 76 [(0, .ref 253), (1, .int c1), (2, .int a2), (3, .int c3)] [] μ) (v2 : Int32) (v4 : Int32)  (μ : z_S) : z_sim false rI mX12_chance 8 (f_X12_chance_B70 N c1 c3 kb e76 v2 v4 μ) 70 [(0, .ref 253), (1, .int c1), (2, .int v2), (3, .int c3), (4, .int v4)] [] μ := by
  unfold f_X12_chance_B70
  refine s_iincB (pc := 70) (lv' := fun x6 => [(4, .int x6), (0, .ref 253), (1, .int c1), (2, .int v2), (3, .int c3)]) (c := 1) 4 dX12_chance_70 rfl (by decide) (by decide) (fun _ => rfl) (fun x6 => ?_)
  refine s_goto (pc := 73) (tgt := 33) dX12_chance_73 (by decide) ?_
  refine s_sub (lv' := [(0, .ref 253), (1, .int c1), (2, .int v2), (3, .int c3), (4, .int x6)]) [1, 2, 3, 4, 0] rfl ?_
  exact hkb v2 x6 μ
def b_X12_chance_L33 (N : Nat) (c1 : Int32) (c3 : Int32) (kb : Int32 → Int32 → z_S → Option (Int32 × z_S)) (e76 : Int32 → z_S → Option (Int32 × z_S)) (v2 : Int32) (v4 : Int32) (μ : z_S) : Option (Int32 × z_S) :=
  z_bn (f_X12_helperMany N μ) fun x3 μ_4 => if v4 < x3 then (z_bn (f_X12_drawOf N (100 : Int32) μ_4) fun x4 μ_5 => if x4 < (μ_5.1 292 3) then (z_in ((1 : Int32) + v4) 32 <| z_bd (z_setI μ_5 296 ((1 : Int32) + v4).toNatClampNeg (0 : Int32)) fun μ_6 => z_bd (v2 + 1) fun x5 => f_X12_chance_B70 N c1 c3 kb e76 x5 v4 μ_6) else f_X12_chance_B70 N c1 c3 kb e76 v2 v4 μ_5) else e76 v2 μ_4
theorem tb_X12_chance_L33 (N : Nat) (c1 : Int32) (c3 : Int32) (kb : Int32 → Int32 → z_S → Option (Int32 × z_S)) (e76 : Int32 → z_S → Option (Int32 × z_S)) (hkb : ∀ (a2 : Int32) (a4 : Int32) (μ : z_S), z_sim false rI mX12_chance 8 (kb a2 a4 μ) 33 [(0, .ref 253), (1, .int c1), (2, .int a2), (3, .int c3), (4, .int a4)] [] μ) (he76 : ∀ (a2 : Int32) (μ : z_S), z_sim false rI mX12_chance 8 (e76 a2 μ) 76 [(0, .ref 253), (1, .int c1), (2, .int a2), (3, .int c3)] [] μ) (v2 : Int32) (v4 : Int32) (μ : z_S) : z_sim false rI mX12_chance 8 (b_X12_chance_L33 N c1 c3 kb e76 v2 v4 μ) 33 [(0, .ref 253), (1, .int c1), (2, .int v2), (3, .int c3), (4, .int v4)] [] μ := by
  unfold b_X12_chance_L33
  refine s_iload (pc := 33) 4 dX12_chance_33 rfl ?_
  refine s_aload_n (pc := 35) 0 dX12_chance_35 rfl rfl ?_
  refine s_callVI (pc := 36) (as := []) (st := [.int v4]) dX12_chance_36 lk_12_422 kd_253 (t_X12_helperMany N μ) (by omega) rfl (Nat.le_of_ble_eq_true rfl) rfl (fun x3 μ_4 => ?_)
  refine s_icmp_ge (pc := 39) (tgt := 76) dX12_chance_39 (by decide) ?_ ?_
  · refine s_aload_n (pc := 42) 0 dX12_chance_42 rfl rfl ?_
    refine s_bipush (pc := 43) (v := (100 : Int32)) dX12_chance_43 (by decide) ?_
    refine s_callVI (pc := 45) (as := [.int (100 : Int32)]) (st := []) dX12_chance_45 lk_12_591 kd_253 (t_X12_drawOf N (100 : Int32) μ_4) (by omega) rfl (by decide) rfl (fun x4 μ_5 => ?_)
    refine s_aload_n (pc := 48) 0 dX12_chance_48 rfl rfl ?_
    refine s_getR (pc := 49) (ci := 12) (k := 47) (r := 292) dX12_chance_49 fl_12_130 kd_253 rfl rs_253_47 ?_
    refine s_iconst (pc := 52) (v := (3 : Int32)) dX12_chance_52 (by decide) ?_
    refine s_ialdK (pc := 53) (k := 3) dX12_chance_53 kd_292 (by decide) (by decide) (by decide) ?_
    refine s_icmp_ge (pc := 54) (tgt := 70) dX12_chance_54 (by decide) ?_ ?_
    · refine s_aload_n (pc := 57) 0 dX12_chance_57 rfl rfl ?_
      refine s_getR (pc := 58) (ci := 12) (k := 54) (r := 296) dX12_chance_58 fl_12_142 kd_253 rfl rs_253_54 ?_
      refine s_iconst (pc := 61) (v := (1 : Int32)) dX12_chance_61 (by decide) ?_
      refine s_iload (pc := 62) 4 dX12_chance_62 rfl ?_
      refine s_iadd (pc := 64) dX12_chance_64 ?_
      refine s_iconst (pc := 65) (v := (0 : Int32)) dX12_chance_65 (by decide) ?_
      refine s_iast (pc := 66) dX12_chance_66 kd_296 (fun μ_6 => ?_)
      refine s_iincB (pc := 67) (lv' := fun x5 => [(2, .int x5), (0, .ref 253), (1, .int c1), (3, .int c3), (4, .int v4)]) (c := 1) 2 dX12_chance_67 rfl (by decide) (by decide) (fun _ => rfl) (fun x5 => ?_)
      refine s_sub (lv' := [(0, .ref 253), (1, .int c1), (2, .int x5), (3, .int c3), (4, .int v4)]) [1, 2, 0, 3, 4] rfl ?_
      exact t_X12_chance_B70 N c1 c3 kb e76 hkb he76 x5 v4 μ_6
    · exact t_X12_chance_B70 N c1 c3 kb e76 hkb he76 v2 v4 μ_5
  · refine s_sub (lv' := [(0, .ref 253), (1, .int c1), (2, .int v2), (3, .int c3)]) [0, 1, 2, 3] rfl ?_
    exact he76 v2 μ_4
def f_X12_chance_L33 (N : Nat) (c1 : Int32) (c3 : Int32) (e76 : Int32 → z_S → Option (Int32 × z_S)) : Nat → Int32 → Int32 → z_S → Option (Int32 × z_S)
  | 0, _, _, _ => none
  | n + 1, v2, v4, μ => b_X12_chance_L33 N c1 c3 (f_X12_chance_L33 N c1 c3 e76 n) e76 v2 v4 μ
theorem t_X12_chance_L33 (N : Nat) (c1 : Int32) (c3 : Int32) (e76 : Int32 → z_S → Option (Int32 × z_S)) (he76 : ∀ (a2 : Int32) (μ : z_S), z_sim false rI mX12_chance 8 (e76 a2 μ) 76 [(0, .ref 253), (1, .int c1), (2, .int a2), (3, .int c3)] [] μ) : ∀ (n : Nat) (v2 : Int32) (v4 : Int32) (μ : z_S), z_sim false rI mX12_chance 8 (f_X12_chance_L33 N c1 c3 e76 n v2 v4 μ) 33 [(0, .ref 253), (1, .int c1), (2, .int v2), (3, .int c3), (4, .int v4)] [] μ
  | 0, _, _, _ => s_none
  | n + 1, v2, v4, μ => tb_X12_chance_L33 N c1 c3 (f_X12_chance_L33 N c1 c3 e76 n) e76 (t_X12_chance_L33 N c1 c3 e76 he76 n) he76 v2 v4 μ
def b_X12_chance_L25 (N : Nat) (c1 : Int32) (kb : Int32 → Int32 → z_S → Option (Int32 × z_S)) (v2 : Int32) (v3 : Int32) (μ : z_S) : Option (Int32 × z_S) :=
  if v3 < c1 then (f_X12_chance_L33 N c1 v3 (fun y76_2 μ76 => z_bn (f_X12_eveningGoes N μ76) fun x7 μ_7 => z_bd (v3 + 1) fun x8 => kb y76_2 x8 μ_7) N v2 (0 : Int32) μ) else some (v2, μ)
theorem tb_X12_chance_L25 (N : Nat) (c1 : Int32) (kb : Int32 → Int32 → z_S → Option (Int32 × z_S)) (hkb : ∀ (a2 : Int32) (a3 : Int32) (μ : z_S), z_sim false rI mX12_chance 8 (kb a2 a3 μ) 25 [(0, .ref 253), (1, .int c1), (2, .int a2), (3, .int a3)] [] μ) (v2 : Int32) (v3 : Int32) (μ : z_S) : z_sim false rI mX12_chance 8 (b_X12_chance_L25 N c1 kb v2 v3 μ) 25 [(0, .ref 253), (1, .int c1), (2, .int v2), (3, .int v3)] [] μ := by
  unfold b_X12_chance_L25
  refine s_iload_n (pc := 25) 3 dX12_chance_25 rfl rfl ?_
  refine s_iload_n (pc := 26) 1 dX12_chance_26 rfl rfl ?_
  refine s_icmp_ge (pc := 27) (tgt := 87) dX12_chance_27 (by decide) ?_ ?_
  · refine s_iconst (pc := 30) (v := (0 : Int32)) dX12_chance_30 (by decide) ?_
    refine s_istore (pc := 31) (lv' := [(4, .int (0 : Int32)), (0, .ref 253), (1, .int c1), (2, .int v2), (3, .int v3)]) dX12_chance_31 (by decide) rfl ?_
    refine s_sub (lv' := [(0, .ref 253), (1, .int c1), (2, .int v2), (3, .int v3), (4, .int (0 : Int32))]) [1, 2, 3, 4, 0] rfl ?_
    refine t_X12_chance_L33 N c1 v3 _ ?_ N v2 (0 : Int32) μ
    · intro y76_2 μ76
      refine s_aload_n (pc := 76) 0 dX12_chance_76 rfl rfl ?_
      refine s_callVI (pc := 77) (as := []) (st := []) dX12_chance_77 lk_12_530 kd_253 (t_X12_eveningGoes N μ76) (by omega) rfl (by decide) rfl (fun x7 μ_7 => ?_)
      refine s_pop (pc := 80) dX12_chance_80 rfl ?_
      refine s_iincB (pc := 81) (lv' := fun x8 => [(3, .int x8), (0, .ref 253), (1, .int c1), (2, .int y76_2)]) (c := 1) 3 dX12_chance_81 rfl (by decide) (by decide) (fun _ => rfl) (fun x8 => ?_)
      refine s_goto (pc := 84) (tgt := 25) dX12_chance_84 (by decide) ?_
      refine s_sub (lv' := [(0, .ref 253), (1, .int c1), (2, .int y76_2), (3, .int x8)]) [1, 2, 3, 0] rfl ?_
      exact hkb y76_2 x8 μ_7
  · refine s_iload_n (pc := 87) 2 dX12_chance_87 rfl rfl ?_
    exact s_iret (pc := 88) rfl dX12_chance_88 rfl
def f_X12_chance_L25 (N : Nat) (c1 : Int32) : Nat → Int32 → Int32 → z_S → Option (Int32 × z_S)
  | 0, _, _, _ => none
  | n + 1, v2, v3, μ => b_X12_chance_L25 N c1 (f_X12_chance_L25 N c1 n) v2 v3 μ
theorem t_X12_chance_L25 (N : Nat) (c1 : Int32) : ∀ (n : Nat) (v2 : Int32) (v3 : Int32) (μ : z_S), z_sim false rI mX12_chance 8 (f_X12_chance_L25 N c1 n v2 v3 μ) 25 [(0, .ref 253), (1, .int c1), (2, .int v2), (3, .int v3)] [] μ
  | 0, _, _, _ => s_none
  | n + 1, v2, v3, μ => tb_X12_chance_L25 N c1 (f_X12_chance_L25 N c1 n) (t_X12_chance_L25 N c1 n) v2 v3 μ
def f_X12_chance (N : Nat) (a1 : Int32) (μ : z_S) : Option (Int32 × z_S) :=
  z_bn (f_X12_isAhead N a1 (1 : Int32) (50 : Int32) μ) fun x1 μ_1 => if x1 = 0 then (z_bn (f_X12_refuses N (3 : Int32) μ_1) fun x2 μ_2 => some (x2, μ_2)) else z_bn (f_X12_keeps N μ_1) fun _ μ_3 => f_X12_chance_L25 N a1 N (0 : Int32) (0 : Int32) μ_3
theorem t_X12_chance (N : Nat) (a1 : Int32) (μ : z_S) : z_met false rI mX12_chance 8 [.ref 253, .int a1] μ (f_X12_chance N a1 μ) := by
  refine z_met.of (by decide +kernel) (by show _ ≤ _; first | decide | exact Nat.le_of_ble_eq_true rfl) (lv := [(0, .ref 253), (1, .int a1)]) rfl ?_
  unfold f_X12_chance
  refine s_aload_n (pc := 0) 0 dX12_chance_0 rfl rfl ?_
  refine s_iload_n (pc := 1) 1 dX12_chance_1 rfl rfl ?_
  refine s_iconst (pc := 2) (v := (1 : Int32)) dX12_chance_2 (by decide) ?_
  refine s_bipush (pc := 3) (v := (50 : Int32)) dX12_chance_3 (by decide) ?_
  refine s_callVI (pc := 5) (as := [.int a1, .int (1 : Int32), .int (50 : Int32)]) (st := []) dX12_chance_5 lk_12_524 kd_253 (t_X12_isAhead N a1 (1 : Int32) (50 : Int32) μ) (by omega) rfl (by decide) rfl (fun x1 μ_1 => ?_)
  refine s_if_ne (pc := 8) (tgt := 17) dX12_chance_8 (by decide) ?_ ?_
  · refine s_aload_n (pc := 11) 0 dX12_chance_11 rfl rfl ?_
    refine s_iconst (pc := 12) (v := (3 : Int32)) dX12_chance_12 (by decide) ?_
    refine s_callVI (pc := 13) (as := [.int (3 : Int32)]) (st := []) dX12_chance_13 lk_12_560 kd_253 (t_X12_refuses N (3 : Int32) μ_1) (by omega) rfl (by decide) rfl (fun x2 μ_2 => ?_)
    exact s_iret (pc := 16) rfl dX12_chance_16 rfl
  · refine s_aload_n (pc := 17) 0 dX12_chance_17 rfl rfl ?_
    refine s_callVV (pc := 18) (as := []) (st := []) dX12_chance_18 lk_12_575 kd_253 (t_X12_keeps N μ_1) (by omega) rfl (by decide) rfl (fun _ μ_3 => ?_)
    refine s_iconst (pc := 21) (v := (0 : Int32)) dX12_chance_21 (by decide) ?_
    refine s_istore_n (pc := 22) (lv' := [(2, .int (0 : Int32)), (0, .ref 253), (1, .int a1)]) dX12_chance_22 rfl (by decide) rfl ?_
    refine s_iconst (pc := 23) (v := (0 : Int32)) dX12_chance_23 (by decide) ?_
    refine s_istore_n (pc := 24) (lv' := [(3, .int (0 : Int32)), (2, .int (0 : Int32)), (0, .ref 253), (1, .int a1)]) dX12_chance_24 rfl (by decide) rfl ?_
    refine s_sub (lv' := [(0, .ref 253), (1, .int a1), (2, .int (0 : Int32)), (3, .int (0 : Int32))]) [2, 3, 1, 0] rfl ?_
    refine t_X12_chance_L25 N a1 N (0 : Int32) (0 : Int32) μ_3
def f_X12_qFact_B102 (N : Nat)  (s0 : Int32) (μ : z_S) : Option (Unit × z_S) :=
  z_bn (f_X12_qCode N s0 μ) fun _ μ_6 => some ((), μ_6)
theorem t_X12_qFact_B102 (N : Nat)     (s0 : Int32)  (μ : z_S) : z_sim false rV mX12_qFact 7 (f_X12_qFact_B102 N   s0 μ) 102 [] [.int s0, .ref 253] μ := by
  unfold f_X12_qFact_B102
  refine s_callVV (pc := 102) (as := [.int s0]) (st := []) dX12_qFact_102 lk_12_594 kd_253 (t_X12_qCode N s0 μ) (by omega) rfl (by decide) rfl (fun _ μ_6 => ?_)
  exact s_vret (pc := 105) dX12_qFact_105 rfl
def f_X12_qFact_B63 (N : Nat)  (v1 : Int32) (μ : z_S) : Option (Unit × z_S) :=
  z_bd (z_setI μ 253 2 ((μ.1 253 2) + (1 : Int32))) fun μ_4 => z_bn (f_X12_qSums N μ_4) fun _ μ_5 => if v1 = (60 : Int32) then (f_X12_qFact_B102 N (7 : Int32) μ_5) else if v1 = (62 : Int32) then (f_X12_qFact_B102 N (8 : Int32) μ_5) else f_X12_qFact_B102 N (9 : Int32) μ_5
theorem t_X12_qFact_B63 (N : Nat)     (v1 : Int32)  (μ : z_S) : z_sim false rV mX12_qFact 7 (f_X12_qFact_B63 N   v1 μ) 63 [(0, .ref 253), (1, .int v1)] [] μ := by
  unfold f_X12_qFact_B63
  refine s_aload_n (pc := 63) 0 dX12_qFact_63 rfl rfl ?_
  refine s_dup (pc := 64) dX12_qFact_64 rfl ?_
  refine s_getI (pc := 65) (ci := 12) (k := 2) dX12_qFact_65 fl_12_269 kd_253 rfl ?_
  refine s_iconst (pc := 68) (v := (1 : Int32)) dX12_qFact_68 (by decide) ?_
  refine s_iadd (pc := 69) dX12_qFact_69 ?_
  refine s_putI (pc := 70) (ci := 12) (k := 2) dX12_qFact_70 fl_12_269 kd_253 rfl rfl (fun μ_4 => ?_)
  refine s_aload_n (pc := 73) 0 dX12_qFact_73 rfl rfl ?_
  refine s_callVV (pc := 74) (as := []) (st := []) dX12_qFact_74 lk_12_364 kd_253 (t_X12_qSums N μ_4) (by omega) rfl (by decide) rfl (fun _ μ_5 => ?_)
  refine s_aload_n (pc := 77) 0 dX12_qFact_77 rfl rfl ?_
  refine s_iload_n (pc := 78) 1 dX12_qFact_78 rfl rfl ?_
  refine s_bipush (pc := 79) (v := (60 : Int32)) dX12_qFact_79 (by decide) ?_
  refine s_icmp_ne (pc := 81) (tgt := 89) dX12_qFact_81 (by decide) ?_ ?_
  · refine s_bipush (pc := 84) (v := (7 : Int32)) dX12_qFact_84 (by decide) ?_
    refine s_goto (pc := 86) (tgt := 102) dX12_qFact_86 (by decide) ?_
    refine s_sub (lv' := []) [] rfl ?_
    exact t_X12_qFact_B102 N (7 : Int32) μ_5
  · refine s_iload_n (pc := 89) 1 dX12_qFact_89 rfl rfl ?_
    refine s_bipush (pc := 90) (v := (62 : Int32)) dX12_qFact_90 (by decide) ?_
    refine s_icmp_ne (pc := 92) (tgt := 100) dX12_qFact_92 (by decide) ?_ ?_
    · refine s_bipush (pc := 95) (v := (8 : Int32)) dX12_qFact_95 (by decide) ?_
      refine s_goto (pc := 97) (tgt := 102) dX12_qFact_97 (by decide) ?_
      refine s_sub (lv' := []) [] rfl ?_
      exact t_X12_qFact_B102 N (8 : Int32) μ_5
    · refine s_bipush (pc := 100) (v := (9 : Int32)) dX12_qFact_100 (by decide) ?_
      refine s_sub (lv' := []) [] rfl ?_
      exact t_X12_qFact_B102 N (9 : Int32) μ_5
def f_X12_qFact (N : Nat) (μ : z_S) : Option (Unit × z_S) :=
  z_bn (f_X12_eats N 316 μ) fun x1 μ_1 => if x1 = 0 then (z_bn (f_X12_qSums N μ_1) fun _ μ_2 => if (μ_2.1 253 5) = 0 then (z_bn (f_X12_look N μ_2) fun x2 μ_3 => if x2 = (60 : Int32) then (f_X12_qFact_B63 N x2 μ_3) else if x2 = (62 : Int32) then (f_X12_qFact_B63 N x2 μ_3) else if x2 = (61 : Int32) then (f_X12_qFact_B63 N x2 μ_3) else z_bn (f_X12_fail N (1 : Int32) (μ_3.1 253 2) μ_3) fun _ μ_7 => some ((), μ_7)) else some ((), μ_2)) else z_bn (f_X12_qCode N (13 : Int32) μ_1) fun _ μ_8 => some ((), μ_8)
theorem t_X12_qFact (N : Nat) (μ : z_S) : z_met false rV mX12_qFact 7 [.ref 253] μ (f_X12_qFact N μ) := by
  refine z_met.of (by decide +kernel) (by show _ ≤ _; first | decide | exact Nat.le_of_ble_eq_true rfl) (lv := [(0, .ref 253)]) rfl ?_
  unfold f_X12_qFact
  refine s_aload_n (pc := 0) 0 dX12_qFact_0 rfl rfl ?_
  refine s_aload_n (pc := 1) 0 dX12_qFact_1 rfl rfl ?_
  refine s_getR (pc := 2) (ci := 12) (k := 80) (r := 316) dX12_qFact_2 fl_12_206 kd_253 rfl rs_253_80 ?_
  refine s_callVI (pc := 5) (as := [.ref 316]) (st := []) dX12_qFact_5 lk_12_290 kd_253 (t_X12_eats N 316 μ) (by omega) rfl (by decide) rfl (fun x1 μ_1 => ?_)
  refine s_if_eq (pc := 8) (tgt := 18) dX12_qFact_8 (by decide) ?_ ?_
  · refine s_aload_n (pc := 18) 0 dX12_qFact_18 rfl rfl ?_
    refine s_callVV (pc := 19) (as := []) (st := []) dX12_qFact_19 lk_12_364 kd_253 (t_X12_qSums N μ_1) (by omega) rfl (by decide) rfl (fun _ μ_2 => ?_)
    refine s_aload_n (pc := 22) 0 dX12_qFact_22 rfl rfl ?_
    refine s_getI (pc := 23) (ci := 12) (k := 5) dX12_qFact_23 fl_12_263 kd_253 rfl ?_
    refine s_if_eq (pc := 26) (tgt := 30) dX12_qFact_26 (by decide) ?_ ?_
    · refine s_aload_n (pc := 30) 0 dX12_qFact_30 rfl rfl ?_
      refine s_callVI (pc := 31) (as := []) (st := []) dX12_qFact_31 lk_12_275 kd_253 (t_X12_look N μ_2) (by omega) rfl (by decide) rfl (fun x2 μ_3 => ?_)
      refine s_istore_n (pc := 34) (lv' := [(1, .int x2), (0, .ref 253)]) dX12_qFact_34 rfl (by decide) rfl ?_
      refine s_iload_n (pc := 35) 0 dX12_qFact_35 rfl rfl ?_
      refine s_bipush (pc := 36) (v := (60 : Int32)) dX12_qFact_36 (by decide) ?_
      refine s_icmp_eq (pc := 38) (tgt := 63) dX12_qFact_38 (by decide) ?_ ?_
      · refine s_sub (lv' := [(0, .ref 253), (1, .int x2)]) [1, 0] rfl ?_
        exact t_X12_qFact_B63 N x2 μ_3
      · refine s_iload_n (pc := 41) 0 dX12_qFact_41 rfl rfl ?_
        refine s_bipush (pc := 42) (v := (62 : Int32)) dX12_qFact_42 (by decide) ?_
        refine s_icmp_eq (pc := 44) (tgt := 63) dX12_qFact_44 (by decide) ?_ ?_
        · refine s_sub (lv' := [(0, .ref 253), (1, .int x2)]) [1, 0] rfl ?_
          exact t_X12_qFact_B63 N x2 μ_3
        · refine s_iload_n (pc := 47) 0 dX12_qFact_47 rfl rfl ?_
          refine s_bipush (pc := 48) (v := (61 : Int32)) dX12_qFact_48 (by decide) ?_
          refine s_icmp_eq (pc := 50) (tgt := 63) dX12_qFact_50 (by decide) ?_ ?_
          · refine s_sub (lv' := [(0, .ref 253), (1, .int x2)]) [1, 0] rfl ?_
            exact t_X12_qFact_B63 N x2 μ_3
          · refine s_aload_n (pc := 53) 1 dX12_qFact_53 rfl rfl ?_
            refine s_iconst (pc := 54) (v := (1 : Int32)) dX12_qFact_54 (by decide) ?_
            refine s_aload_n (pc := 55) 1 dX12_qFact_55 rfl rfl ?_
            refine s_getI (pc := 56) (ci := 12) (k := 2) dX12_qFact_56 fl_12_269 kd_253 rfl ?_
            refine s_callVV (pc := 59) (as := [.int (1 : Int32), .int (μ_3.1 253 2)]) (st := []) dX12_qFact_59 lk_12_293 kd_253 (t_X12_fail N (1 : Int32) (μ_3.1 253 2) μ_3) (by omega) rfl (by decide) rfl (fun _ μ_7 => ?_)
            exact s_vret (pc := 62) dX12_qFact_62 rfl
    · exact s_vret (pc := 29) dX12_qFact_29 rfl
  · refine s_aload_n (pc := 11) 0 dX12_qFact_11 rfl rfl ?_
    refine s_bipush (pc := 12) (v := (13 : Int32)) dX12_qFact_12 (by decide) ?_
    refine s_callVV (pc := 14) (as := [.int (13 : Int32)]) (st := []) dX12_qFact_14 lk_12_594 kd_253 (t_X12_qCode N (13 : Int32) μ_1) (by omega) rfl (by decide) rfl (fun _ μ_8 => ?_)
    exact s_vret (pc := 17) dX12_qFact_17 rfl
def b_X12_qHasSquare_L2 (N : Nat) (kb : Int32 → z_S → Option (Int32 × z_S)) (v1 : Int32) (μ : z_S) : Option (Int32 × z_S) :=
  if v1 < (μ.1 253 97) then (z_in v1 1700 <| if (μ.1 331 v1.toNatClampNeg) = (25 : Int32) then (some ((1 : Int32), μ)) else z_bd (v1 + 1) fun x1 => kb x1 μ) else some ((0 : Int32), μ)
theorem tb_X12_qHasSquare_L2 (N : Nat) (kb : Int32 → z_S → Option (Int32 × z_S)) (hkb : ∀ (a1 : Int32) (μ : z_S), z_sim false rI mX12_qHasSquare 0 (kb a1 μ) 2 [(0, .ref 253), (1, .int a1)] [] μ) (v1 : Int32) (μ : z_S) : z_sim false rI mX12_qHasSquare 0 (b_X12_qHasSquare_L2 N kb v1 μ) 2 [(0, .ref 253), (1, .int v1)] [] μ := by
  unfold b_X12_qHasSquare_L2
  refine s_iload_n (pc := 2) 1 dX12_qHasSquare_2 rfl rfl ?_
  refine s_aload_n (pc := 3) 0 dX12_qHasSquare_3 rfl rfl ?_
  refine s_getI (pc := 4) (ci := 12) (k := 97) dX12_qHasSquare_4 fl_12_355 kd_253 rfl ?_
  refine s_icmp_ge (pc := 7) (tgt := 29) dX12_qHasSquare_7 (by decide) ?_ ?_
  · refine s_aload_n (pc := 10) 0 dX12_qHasSquare_10 rfl rfl ?_
    refine s_getR (pc := 11) (ci := 12) (k := 96) (r := 331) dX12_qHasSquare_11 fl_12_251 kd_253 rfl rs_253_96 ?_
    refine s_iload_n (pc := 14) 1 dX12_qHasSquare_14 rfl rfl ?_
    refine s_iald (pc := 15) dX12_qHasSquare_15 kd_331 ?_
    refine s_bipush (pc := 16) (v := (25 : Int32)) dX12_qHasSquare_16 (by decide) ?_
    refine s_icmp_ne (pc := 18) (tgt := 23) dX12_qHasSquare_18 (by decide) ?_ ?_
    · refine s_iconst (pc := 21) (v := (1 : Int32)) dX12_qHasSquare_21 (by decide) ?_
      exact s_zret0 (pc := 22) dX12_qHasSquare_22 rfl rfl
    · refine s_iincB (pc := 23) (lv' := fun x1 => [(1, .int x1), (0, .ref 253)]) (c := 1) 1 dX12_qHasSquare_23 rfl (by decide) (by decide) (fun _ => rfl) (fun x1 => ?_)
      refine s_goto (pc := 26) (tgt := 2) dX12_qHasSquare_26 (by decide) ?_
      refine s_sub (lv' := [(0, .ref 253), (1, .int x1)]) [1, 0] rfl ?_
      exact hkb x1 μ
  · refine s_iconst (pc := 29) (v := (0 : Int32)) dX12_qHasSquare_29 (by decide) ?_
    exact s_zret0 (pc := 30) dX12_qHasSquare_30 rfl rfl
def f_X12_qHasSquare_L2 (N : Nat) : Nat → Int32 → z_S → Option (Int32 × z_S)
  | 0, _, _ => none
  | n + 1, v1, μ => b_X12_qHasSquare_L2 N (f_X12_qHasSquare_L2 N n) v1 μ
theorem t_X12_qHasSquare_L2 (N : Nat) : ∀ (n : Nat) (v1 : Int32) (μ : z_S), z_sim false rI mX12_qHasSquare 0 (f_X12_qHasSquare_L2 N n v1 μ) 2 [(0, .ref 253), (1, .int v1)] [] μ
  | 0, _, _ => s_none
  | n + 1, v1, μ => tb_X12_qHasSquare_L2 N (f_X12_qHasSquare_L2 N n) (t_X12_qHasSquare_L2 N n) v1 μ
def f_X12_qHasSquare (N : Nat) (μ : z_S) : Option (Int32 × z_S) :=
  f_X12_qHasSquare_L2 N N (0 : Int32) μ
theorem t_X12_qHasSquare (N : Nat) (μ : z_S) : z_met false rI mX12_qHasSquare 0 [.ref 253] μ (f_X12_qHasSquare N μ) := by
  refine z_met.of (by decide +kernel) (by show _ ≤ _; first | decide | exact Nat.le_of_ble_eq_true rfl) (lv := [(0, .ref 253)]) rfl ?_
  unfold f_X12_qHasSquare
  refine s_iconst (pc := 0) (v := (0 : Int32)) dX12_qHasSquare_0 (by decide) ?_
  refine s_istore_n (pc := 1) (lv' := [(1, .int (0 : Int32)), (0, .ref 253)]) dX12_qHasSquare_1 rfl (by decide) rfl ?_
  refine s_sub (lv' := [(0, .ref 253), (1, .int (0 : Int32))]) [1, 0] rfl ?_
  refine t_X12_qHasSquare_L2 N N (0 : Int32) μ
def b_X12_qDropsNots_L0 (N : Nat) (kb : z_S → Option (Unit × z_S)) (μ : z_S) : Option (Unit × z_S) :=
  if (μ.1 253 5) = 0 then (z_bn (f_X12_qIsOn N (12 : Int32) μ) fun x1 μ_1 => if x1 = 0 then (some ((), μ_1)) else z_bd (z_setI μ_1 253 98 ((μ_1.1 253 98) - (1 : Int32))) fun μ_2 => z_bn (f_X12_qDrops N μ_2) fun _ μ_3 => kb μ_3) else some ((), μ)
theorem tb_X12_qDropsNots_L0 (N : Nat) (kb : z_S → Option (Unit × z_S)) (hkb : ∀ (μ : z_S), z_sim false rV mX12_qDropsNots 2 (kb μ) 0 [(0, .ref 253)] [] μ) (μ : z_S) : z_sim false rV mX12_qDropsNots 2 (b_X12_qDropsNots_L0 N kb μ) 0 [(0, .ref 253)] [] μ := by
  unfold b_X12_qDropsNots_L0
  refine s_aload_n (pc := 0) 0 dX12_qDropsNots_0 rfl rfl ?_
  refine s_getI (pc := 1) (ci := 12) (k := 5) dX12_qDropsNots_1 fl_12_263 kd_253 rfl ?_
  refine s_if_ne (pc := 4) (tgt := 33) dX12_qDropsNots_4 (by decide) ?_ ?_
  · refine s_aload_n (pc := 7) 0 dX12_qDropsNots_7 rfl rfl ?_
    refine s_bipush (pc := 8) (v := (12 : Int32)) dX12_qDropsNots_8 (by decide) ?_
    refine s_callVI (pc := 10) (as := [.int (12 : Int32)]) (st := []) dX12_qDropsNots_10 lk_12_627 kd_253 (t_X12_qIsOn N (12 : Int32) μ) (by omega) rfl (by decide) rfl (fun x1 μ_1 => ?_)
    refine s_if_eq (pc := 13) (tgt := 33) dX12_qDropsNots_13 (by decide) ?_ ?_
    · exact s_vret (pc := 33) dX12_qDropsNots_33 rfl
    · refine s_aload_n (pc := 16) 0 dX12_qDropsNots_16 rfl rfl ?_
      refine s_dup (pc := 17) dX12_qDropsNots_17 rfl ?_
      refine s_getI (pc := 18) (ci := 12) (k := 98) dX12_qDropsNots_18 fl_12_358 kd_253 rfl ?_
      refine s_iconst (pc := 21) (v := (1 : Int32)) dX12_qDropsNots_21 (by decide) ?_
      refine s_isub (pc := 22) dX12_qDropsNots_22 ?_
      refine s_putI (pc := 23) (ci := 12) (k := 98) dX12_qDropsNots_23 fl_12_358 kd_253 rfl rfl (fun μ_2 => ?_)
      refine s_aload_n (pc := 26) 0 dX12_qDropsNots_26 rfl rfl ?_
      refine s_callVV (pc := 27) (as := []) (st := []) dX12_qDropsNots_27 lk_12_600 kd_253 (t_X12_qDrops N μ_2) (by omega) rfl (by decide) rfl (fun _ μ_3 => ?_)
      refine s_goto (pc := 30) (tgt := 0) dX12_qDropsNots_30 (by decide) ?_
      exact hkb μ_3
  · exact s_vret (pc := 33) dX12_qDropsNots_33 rfl
def f_X12_qDropsNots_L0 (N : Nat) : Nat → z_S → Option (Unit × z_S)
  | 0, _ => none
  | n + 1, μ => b_X12_qDropsNots_L0 N (f_X12_qDropsNots_L0 N n) μ
theorem t_X12_qDropsNots_L0 (N : Nat) : ∀ (n : Nat) (μ : z_S), z_sim false rV mX12_qDropsNots 2 (f_X12_qDropsNots_L0 N n μ) 0 [(0, .ref 253)] [] μ
  | 0, _ => s_none
  | n + 1, μ => tb_X12_qDropsNots_L0 N (f_X12_qDropsNots_L0 N n) (t_X12_qDropsNots_L0 N n) μ
def f_X12_qDropsNots (N : Nat) (μ : z_S) : Option (Unit × z_S) :=
  f_X12_qDropsNots_L0 N N μ
theorem t_X12_qDropsNots (N : Nat) (μ : z_S) : z_met false rV mX12_qDropsNots 2 [.ref 253] μ (f_X12_qDropsNots N μ) := by
  refine z_met.of (by decide +kernel) (by show _ ≤ _; first | decide | exact Nat.le_of_ble_eq_true rfl) (lv := [(0, .ref 253)]) rfl ?_
  unfold f_X12_qDropsNots
  refine t_X12_qDropsNots_L0 N N μ
def b_X12_qGoesOnTest_L33 (N : Nat) (kb : z_S → Option (Int32 × z_S)) (e49 : z_S → Option (Int32 × z_S)) (μ : z_S) : Option (Int32 × z_S) :=
  z_bn (f_X12_qIsOn N (25 : Int32) μ) fun x3 μ_4 => if x3 = 0 then (z_bn (f_X12_qDrops N μ_4) fun _ μ_5 => kb μ_5) else e49 μ_4
theorem tb_X12_qGoesOnTest_L33 (N : Nat) (kb : z_S → Option (Int32 × z_S)) (e49 : z_S → Option (Int32 × z_S)) (hkb : ∀ (μ : z_S), z_sim false rI mX12_qGoesOnTest 3 (kb μ) 33 [(0, .ref 253)] [] μ) (he49 : ∀ (μ : z_S), z_sim false rI mX12_qGoesOnTest 3 (e49 μ) 49 [(0, .ref 253)] [] μ) (μ : z_S) : z_sim false rI mX12_qGoesOnTest 3 (b_X12_qGoesOnTest_L33 N kb e49 μ) 33 [(0, .ref 253)] [] μ := by
  unfold b_X12_qGoesOnTest_L33
  refine s_aload_n (pc := 33) 0 dX12_qGoesOnTest_33 rfl rfl ?_
  refine s_bipush (pc := 34) (v := (25 : Int32)) dX12_qGoesOnTest_34 (by decide) ?_
  refine s_callVI (pc := 36) (as := [.int (25 : Int32)]) (st := []) dX12_qGoesOnTest_36 lk_12_627 kd_253 (t_X12_qIsOn N (25 : Int32) μ) (by omega) rfl (by decide) rfl (fun x3 μ_4 => ?_)
  refine s_if_ne (pc := 39) (tgt := 49) dX12_qGoesOnTest_39 (by decide) ?_ ?_
  · refine s_aload_n (pc := 42) 0 dX12_qGoesOnTest_42 rfl rfl ?_
    refine s_callVV (pc := 43) (as := []) (st := []) dX12_qGoesOnTest_43 lk_12_600 kd_253 (t_X12_qDrops N μ_4) (by omega) rfl (by decide) rfl (fun _ μ_5 => ?_)
    refine s_goto (pc := 46) (tgt := 33) dX12_qGoesOnTest_46 (by decide) ?_
    exact hkb μ_5
  · exact he49 μ_4
def f_X12_qGoesOnTest_L33 (N : Nat) (e49 : z_S → Option (Int32 × z_S)) : Nat → z_S → Option (Int32 × z_S)
  | 0, _ => none
  | n + 1, μ => b_X12_qGoesOnTest_L33 N (f_X12_qGoesOnTest_L33 N e49 n) e49 μ
theorem t_X12_qGoesOnTest_L33 (N : Nat) (e49 : z_S → Option (Int32 × z_S)) (he49 : ∀ (μ : z_S), z_sim false rI mX12_qGoesOnTest 3 (e49 μ) 49 [(0, .ref 253)] [] μ) : ∀ (n : Nat) (μ : z_S), z_sim false rI mX12_qGoesOnTest 3 (f_X12_qGoesOnTest_L33 N e49 n μ) 33 [(0, .ref 253)] [] μ
  | 0, _ => s_none
  | n + 1, μ => tb_X12_qGoesOnTest_L33 N (f_X12_qGoesOnTest_L33 N e49 n) e49 (t_X12_qGoesOnTest_L33 N e49 he49 n) he49 μ
def b_X12_qGoesOnTest_L0 (N : Nat) (kb : z_S → Option (Int32 × z_S)) (e76 : z_S → Option (Int32 × z_S)) (μ : z_S) : Option (Int32 × z_S) :=
  if (μ.1 253 5) = 0 then (z_bn (f_X12_look N μ) fun x1 μ_1 => if x1 = (93 : Int32) then (z_bn (f_X12_qHasSquare N μ_1) fun x2 μ_2 => if x2 = 0 then (e76 μ_2) else z_bd (z_setI μ_2 253 2 ((μ_2.1 253 2) + (1 : Int32))) fun μ_3 => f_X12_qGoesOnTest_L33 N (fun μ49 => z_bd (z_setI μ49 253 97 ((μ49.1 253 97) - (1 : Int32))) fun μ_6 => z_bd (z_setI μ_6 253 98 ((μ_6.1 253 98) - (1 : Int32))) fun μ_7 => z_bn (f_X12_qDropsNots N μ_7) fun _ μ_8 => kb μ_8) N μ_3) else e76 μ_1) else e76 μ
theorem tb_X12_qGoesOnTest_L0 (N : Nat) (kb : z_S → Option (Int32 × z_S)) (e76 : z_S → Option (Int32 × z_S)) (hkb : ∀ (μ : z_S), z_sim false rI mX12_qGoesOnTest 3 (kb μ) 0 [(0, .ref 253)] [] μ) (he76 : ∀ (μ : z_S), z_sim false rI mX12_qGoesOnTest 3 (e76 μ) 76 [(0, .ref 253)] [] μ) (μ : z_S) : z_sim false rI mX12_qGoesOnTest 3 (b_X12_qGoesOnTest_L0 N kb e76 μ) 0 [(0, .ref 253)] [] μ := by
  unfold b_X12_qGoesOnTest_L0
  refine s_aload_n (pc := 0) 0 dX12_qGoesOnTest_0 rfl rfl ?_
  refine s_getI (pc := 1) (ci := 12) (k := 5) dX12_qGoesOnTest_1 fl_12_263 kd_253 rfl ?_
  refine s_if_ne (pc := 4) (tgt := 76) dX12_qGoesOnTest_4 (by decide) ?_ ?_
  · refine s_aload_n (pc := 7) 0 dX12_qGoesOnTest_7 rfl rfl ?_
    refine s_callVI (pc := 8) (as := []) (st := []) dX12_qGoesOnTest_8 lk_12_275 kd_253 (t_X12_look N μ) (by omega) rfl (by decide) rfl (fun x1 μ_1 => ?_)
    refine s_bipush (pc := 11) (v := (93 : Int32)) dX12_qGoesOnTest_11 (by decide) ?_
    refine s_icmp_ne (pc := 13) (tgt := 76) dX12_qGoesOnTest_13 (by decide) ?_ ?_
    · refine s_aload_n (pc := 16) 0 dX12_qGoesOnTest_16 rfl rfl ?_
      refine s_callVI (pc := 17) (as := []) (st := []) dX12_qGoesOnTest_17 lk_12_645 kd_253 (t_X12_qHasSquare N μ_1) (by omega) rfl (by decide) rfl (fun x2 μ_2 => ?_)
      refine s_if_eq (pc := 20) (tgt := 76) dX12_qGoesOnTest_20 (by decide) ?_ ?_
      · exact he76 μ_2
      · refine s_aload_n (pc := 23) 0 dX12_qGoesOnTest_23 rfl rfl ?_
        refine s_dup (pc := 24) dX12_qGoesOnTest_24 rfl ?_
        refine s_getI (pc := 25) (ci := 12) (k := 2) dX12_qGoesOnTest_25 fl_12_269 kd_253 rfl ?_
        refine s_iconst (pc := 28) (v := (1 : Int32)) dX12_qGoesOnTest_28 (by decide) ?_
        refine s_iadd (pc := 29) dX12_qGoesOnTest_29 ?_
        refine s_putI (pc := 30) (ci := 12) (k := 2) dX12_qGoesOnTest_30 fl_12_269 kd_253 rfl rfl (fun μ_3 => ?_)
        refine t_X12_qGoesOnTest_L33 N _ ?_ N μ_3
        · intro μ49
          refine s_aload_n (pc := 49) 0 dX12_qGoesOnTest_49 rfl rfl ?_
          refine s_dup (pc := 50) dX12_qGoesOnTest_50 rfl ?_
          refine s_getI (pc := 51) (ci := 12) (k := 97) dX12_qGoesOnTest_51 fl_12_355 kd_253 rfl ?_
          refine s_iconst (pc := 54) (v := (1 : Int32)) dX12_qGoesOnTest_54 (by decide) ?_
          refine s_isub (pc := 55) dX12_qGoesOnTest_55 ?_
          refine s_putI (pc := 56) (ci := 12) (k := 97) dX12_qGoesOnTest_56 fl_12_355 kd_253 rfl rfl (fun μ_6 => ?_)
          refine s_aload_n (pc := 59) 0 dX12_qGoesOnTest_59 rfl rfl ?_
          refine s_dup (pc := 60) dX12_qGoesOnTest_60 rfl ?_
          refine s_getI (pc := 61) (ci := 12) (k := 98) dX12_qGoesOnTest_61 fl_12_358 kd_253 rfl ?_
          refine s_iconst (pc := 64) (v := (1 : Int32)) dX12_qGoesOnTest_64 (by decide) ?_
          refine s_isub (pc := 65) dX12_qGoesOnTest_65 ?_
          refine s_putI (pc := 66) (ci := 12) (k := 98) dX12_qGoesOnTest_66 fl_12_358 kd_253 rfl rfl (fun μ_7 => ?_)
          refine s_aload_n (pc := 69) 0 dX12_qGoesOnTest_69 rfl rfl ?_
          refine s_callVV (pc := 70) (as := []) (st := []) dX12_qGoesOnTest_70 lk_12_639 kd_253 (t_X12_qDropsNots N μ_7) (by omega) rfl (by decide) rfl (fun _ μ_8 => ?_)
          refine s_goto (pc := 73) (tgt := 0) dX12_qGoesOnTest_73 (by decide) ?_
          exact hkb μ_8
    · exact he76 μ_1
  · exact he76 μ
def f_X12_qGoesOnTest_L0 (N : Nat) (e76 : z_S → Option (Int32 × z_S)) : Nat → z_S → Option (Int32 × z_S)
  | 0, _ => none
  | n + 1, μ => b_X12_qGoesOnTest_L0 N (f_X12_qGoesOnTest_L0 N e76 n) e76 μ
theorem t_X12_qGoesOnTest_L0 (N : Nat) (e76 : z_S → Option (Int32 × z_S)) (he76 : ∀ (μ : z_S), z_sim false rI mX12_qGoesOnTest 3 (e76 μ) 76 [(0, .ref 253)] [] μ) : ∀ (n : Nat) (μ : z_S), z_sim false rI mX12_qGoesOnTest 3 (f_X12_qGoesOnTest_L0 N e76 n μ) 0 [(0, .ref 253)] [] μ
  | 0, _ => s_none
  | n + 1, μ => tb_X12_qGoesOnTest_L0 N (f_X12_qGoesOnTest_L0 N e76 n) e76 (t_X12_qGoesOnTest_L0 N e76 he76 n) he76 μ
def f_X12_qGoesOnTest_B155 (N : Nat) (kb : z_S → Option (Int32 × z_S)) (e162 : z_S → Option (Int32 × z_S)) (μ : z_S) : Option (Int32 × z_S) :=
  z_bn (f_X12_qDrops N μ) fun _ μ_15 => kb μ_15
theorem t_X12_qGoesOnTest_B155 (N : Nat)   (kb : z_S → Option (Int32 × z_S)) (e162 : z_S → Option (Int32 × z_S)) (hkb : ∀  (μ : z_S), z_sim false rI mX12_qGoesOnTest 3 (kb μ) 137 [(0, .ref 253)] [] μ) (he162 : ∀  (μ : z_S), z_sim false rI mX12_qGoesOnTest 3 (e162 μ) 162 [(0, .ref 253)] [] μ)   (μ : z_S) : z_sim false rI mX12_qGoesOnTest 3 (f_X12_qGoesOnTest_B155 N  kb e162  μ) 155 [(0, .ref 253)] [] μ := by
  unfold f_X12_qGoesOnTest_B155
  refine s_aload_n (pc := 155) 0 dX12_qGoesOnTest_155 rfl rfl ?_
  refine s_callVV (pc := 156) (as := []) (st := []) dX12_qGoesOnTest_156 lk_12_600 kd_253 (t_X12_qDrops N μ) (by omega) rfl (by decide) rfl (fun _ μ_15 => ?_)
  refine s_goto (pc := 159) (tgt := 137) dX12_qGoesOnTest_159 (by decide) ?_
  exact hkb μ_15
def b_X12_qGoesOnTest_L137 (N : Nat) (kb : z_S → Option (Int32 × z_S)) (e162 : z_S → Option (Int32 × z_S)) (μ : z_S) : Option (Int32 × z_S) :=
  z_bn (f_X12_qIsOn N (10 : Int32) μ) fun x7 μ_13 => if x7 = 0 then (z_bn (f_X12_qIsOn N (11 : Int32) μ_13) fun x8 μ_14 => if x8 = 0 then (e162 μ_14) else f_X12_qGoesOnTest_B155 N kb e162 μ_14) else f_X12_qGoesOnTest_B155 N kb e162 μ_13
theorem tb_X12_qGoesOnTest_L137 (N : Nat) (kb : z_S → Option (Int32 × z_S)) (e162 : z_S → Option (Int32 × z_S)) (hkb : ∀ (μ : z_S), z_sim false rI mX12_qGoesOnTest 3 (kb μ) 137 [(0, .ref 253)] [] μ) (he162 : ∀ (μ : z_S), z_sim false rI mX12_qGoesOnTest 3 (e162 μ) 162 [(0, .ref 253)] [] μ) (μ : z_S) : z_sim false rI mX12_qGoesOnTest 3 (b_X12_qGoesOnTest_L137 N kb e162 μ) 137 [(0, .ref 253)] [] μ := by
  unfold b_X12_qGoesOnTest_L137
  refine s_aload_n (pc := 137) 0 dX12_qGoesOnTest_137 rfl rfl ?_
  refine s_bipush (pc := 138) (v := (10 : Int32)) dX12_qGoesOnTest_138 (by decide) ?_
  refine s_callVI (pc := 140) (as := [.int (10 : Int32)]) (st := []) dX12_qGoesOnTest_140 lk_12_627 kd_253 (t_X12_qIsOn N (10 : Int32) μ) (by omega) rfl (by decide) rfl (fun x7 μ_13 => ?_)
  refine s_if_ne (pc := 143) (tgt := 155) dX12_qGoesOnTest_143 (by decide) ?_ ?_
  · refine s_aload_n (pc := 146) 0 dX12_qGoesOnTest_146 rfl rfl ?_
    refine s_bipush (pc := 147) (v := (11 : Int32)) dX12_qGoesOnTest_147 (by decide) ?_
    refine s_callVI (pc := 149) (as := [.int (11 : Int32)]) (st := []) dX12_qGoesOnTest_149 lk_12_627 kd_253 (t_X12_qIsOn N (11 : Int32) μ_13) (by omega) rfl (by decide) rfl (fun x8 μ_14 => ?_)
    refine s_if_eq (pc := 152) (tgt := 162) dX12_qGoesOnTest_152 (by decide) ?_ ?_
    · exact he162 μ_14
    · exact t_X12_qGoesOnTest_B155 N kb e162 hkb he162 μ_14
  · exact t_X12_qGoesOnTest_B155 N kb e162 hkb he162 μ_13
def f_X12_qGoesOnTest_L137 (N : Nat) (e162 : z_S → Option (Int32 × z_S)) : Nat → z_S → Option (Int32 × z_S)
  | 0, _ => none
  | n + 1, μ => b_X12_qGoesOnTest_L137 N (f_X12_qGoesOnTest_L137 N e162 n) e162 μ
theorem t_X12_qGoesOnTest_L137 (N : Nat) (e162 : z_S → Option (Int32 × z_S)) (he162 : ∀ (μ : z_S), z_sim false rI mX12_qGoesOnTest 3 (e162 μ) 162 [(0, .ref 253)] [] μ) : ∀ (n : Nat) (μ : z_S), z_sim false rI mX12_qGoesOnTest 3 (f_X12_qGoesOnTest_L137 N e162 n μ) 137 [(0, .ref 253)] [] μ
  | 0, _ => s_none
  | n + 1, μ => tb_X12_qGoesOnTest_L137 N (f_X12_qGoesOnTest_L137 N e162 n) e162 (t_X12_qGoesOnTest_L137 N e162 he162 n) he162 μ
def b_X12_qGoesOnTest_L87 (N : Nat) (kb : z_S → Option (Int32 × z_S)) (e103 : z_S → Option (Int32 × z_S)) (μ : z_S) : Option (Int32 × z_S) :=
  z_bn (f_X12_qIsOn N (10 : Int32) μ) fun x9 μ_18 => if x9 = 0 then (e103 μ_18) else z_bn (f_X12_qDrops N μ_18) fun _ μ_19 => kb μ_19
theorem tb_X12_qGoesOnTest_L87 (N : Nat) (kb : z_S → Option (Int32 × z_S)) (e103 : z_S → Option (Int32 × z_S)) (hkb : ∀ (μ : z_S), z_sim false rI mX12_qGoesOnTest 3 (kb μ) 87 [(0, .ref 253)] [] μ) (he103 : ∀ (μ : z_S), z_sim false rI mX12_qGoesOnTest 3 (e103 μ) 103 [(0, .ref 253)] [] μ) (μ : z_S) : z_sim false rI mX12_qGoesOnTest 3 (b_X12_qGoesOnTest_L87 N kb e103 μ) 87 [(0, .ref 253)] [] μ := by
  unfold b_X12_qGoesOnTest_L87
  refine s_aload_n (pc := 87) 0 dX12_qGoesOnTest_87 rfl rfl ?_
  refine s_bipush (pc := 88) (v := (10 : Int32)) dX12_qGoesOnTest_88 (by decide) ?_
  refine s_callVI (pc := 90) (as := [.int (10 : Int32)]) (st := []) dX12_qGoesOnTest_90 lk_12_627 kd_253 (t_X12_qIsOn N (10 : Int32) μ) (by omega) rfl (by decide) rfl (fun x9 μ_18 => ?_)
  refine s_if_eq (pc := 93) (tgt := 103) dX12_qGoesOnTest_93 (by decide) ?_ ?_
  · exact he103 μ_18
  · refine s_aload_n (pc := 96) 0 dX12_qGoesOnTest_96 rfl rfl ?_
    refine s_callVV (pc := 97) (as := []) (st := []) dX12_qGoesOnTest_97 lk_12_600 kd_253 (t_X12_qDrops N μ_18) (by omega) rfl (by decide) rfl (fun _ μ_19 => ?_)
    refine s_goto (pc := 100) (tgt := 87) dX12_qGoesOnTest_100 (by decide) ?_
    exact hkb μ_19
def f_X12_qGoesOnTest_L87 (N : Nat) (e103 : z_S → Option (Int32 × z_S)) : Nat → z_S → Option (Int32 × z_S)
  | 0, _ => none
  | n + 1, μ => b_X12_qGoesOnTest_L87 N (f_X12_qGoesOnTest_L87 N e103 n) e103 μ
theorem t_X12_qGoesOnTest_L87 (N : Nat) (e103 : z_S → Option (Int32 × z_S)) (he103 : ∀ (μ : z_S), z_sim false rI mX12_qGoesOnTest 3 (e103 μ) 103 [(0, .ref 253)] [] μ) : ∀ (n : Nat) (μ : z_S), z_sim false rI mX12_qGoesOnTest 3 (f_X12_qGoesOnTest_L87 N e103 n μ) 87 [(0, .ref 253)] [] μ
  | 0, _ => s_none
  | n + 1, μ => tb_X12_qGoesOnTest_L87 N (f_X12_qGoesOnTest_L87 N e103 n) e103 (t_X12_qGoesOnTest_L87 N e103 he103 n) he103 μ
def f_X12_qGoesOnTest_B76 (N : Nat)   (μ : z_S) : Option (Int32 × z_S) :=
  z_bn (f_X12_eats N 314 μ) fun x4 μ_9 => if x4 = 0 then (z_bn (f_X12_eats N 315 μ_9) fun x5 μ_10 => if x5 = 0 then (if (μ_10.1 253 5) = 0 then (z_bn (f_X12_qHasSquare N μ_10) fun x6 μ_11 => if x6 = 0 then (some ((0 : Int32), μ_11)) else z_bn (f_X12_fail N (1 : Int32) (μ_11.1 253 2) μ_11) fun _ μ_12 => some ((0 : Int32), μ_12)) else some ((0 : Int32), μ_10)) else f_X12_qGoesOnTest_L137 N (fun μ162 => z_in (μ162.1 253 97) 1700 <| z_bd (z_setI μ162 331 (μ162.1 253 97).toNatClampNeg (11 : Int32)) fun μ_16 => z_bd (z_setI μ_16 253 97 ((μ_16.1 253 97) + (1 : Int32))) fun μ_17 => some ((1 : Int32), μ_17)) N μ_10) else f_X12_qGoesOnTest_L87 N (fun μ103 => z_in (μ103.1 253 97) 1700 <| z_bd (z_setI μ103 331 (μ103.1 253 97).toNatClampNeg (10 : Int32)) fun μ_20 => z_bd (z_setI μ_20 253 97 ((μ_20.1 253 97) + (1 : Int32))) fun μ_21 => some ((1 : Int32), μ_21)) N μ_9
theorem t_X12_qGoesOnTest_B76 (N : Nat)       (μ : z_S) : z_sim false rI mX12_qGoesOnTest 3 (f_X12_qGoesOnTest_B76 N    μ) 76 [(0, .ref 253)] [] μ := by
  unfold f_X12_qGoesOnTest_B76
  refine s_aload_n (pc := 76) 0 dX12_qGoesOnTest_76 rfl rfl ?_
  refine s_aload_n (pc := 77) 0 dX12_qGoesOnTest_77 rfl rfl ?_
  refine s_getR (pc := 78) (ci := 12) (k := 78) (r := 314) dX12_qGoesOnTest_78 fl_12_200 kd_253 rfl rs_253_78 ?_
  refine s_callVI (pc := 81) (as := [.ref 314]) (st := []) dX12_qGoesOnTest_81 lk_12_290 kd_253 (t_X12_eats N 314 μ) (by omega) rfl (by decide) rfl (fun x4 μ_9 => ?_)
  refine s_if_eq (pc := 84) (tgt := 126) dX12_qGoesOnTest_84 (by decide) ?_ ?_
  · refine s_aload_n (pc := 126) 0 dX12_qGoesOnTest_126 rfl rfl ?_
    refine s_aload_n (pc := 127) 0 dX12_qGoesOnTest_127 rfl rfl ?_
    refine s_getR (pc := 128) (ci := 12) (k := 79) (r := 315) dX12_qGoesOnTest_128 fl_12_203 kd_253 rfl rs_253_79 ?_
    refine s_callVI (pc := 131) (as := [.ref 315]) (st := []) dX12_qGoesOnTest_131 lk_12_290 kd_253 (t_X12_eats N 315 μ_9) (by omega) rfl (by decide) rfl (fun x5 μ_10 => ?_)
    refine s_if_eq (pc := 134) (tgt := 185) dX12_qGoesOnTest_134 (by decide) ?_ ?_
    · refine s_aload_n (pc := 185) 0 dX12_qGoesOnTest_185 rfl rfl ?_
      refine s_getI (pc := 186) (ci := 12) (k := 5) dX12_qGoesOnTest_186 fl_12_263 kd_253 rfl ?_
      refine s_if_ne (pc := 189) (tgt := 208) dX12_qGoesOnTest_189 (by decide) ?_ ?_
      · refine s_aload_n (pc := 192) 0 dX12_qGoesOnTest_192 rfl rfl ?_
        refine s_callVI (pc := 193) (as := []) (st := []) dX12_qGoesOnTest_193 lk_12_645 kd_253 (t_X12_qHasSquare N μ_10) (by omega) rfl (by decide) rfl (fun x6 μ_11 => ?_)
        refine s_if_eq (pc := 196) (tgt := 208) dX12_qGoesOnTest_196 (by decide) ?_ ?_
        · refine s_iconst (pc := 208) (v := (0 : Int32)) dX12_qGoesOnTest_208 (by decide) ?_
          exact s_zret0 (pc := 209) dX12_qGoesOnTest_209 rfl rfl
        · refine s_aload_n (pc := 199) 0 dX12_qGoesOnTest_199 rfl rfl ?_
          refine s_iconst (pc := 200) (v := (1 : Int32)) dX12_qGoesOnTest_200 (by decide) ?_
          refine s_aload_n (pc := 201) 0 dX12_qGoesOnTest_201 rfl rfl ?_
          refine s_getI (pc := 202) (ci := 12) (k := 2) dX12_qGoesOnTest_202 fl_12_269 kd_253 rfl ?_
          refine s_callVV (pc := 205) (as := [.int (1 : Int32), .int (μ_11.1 253 2)]) (st := []) dX12_qGoesOnTest_205 lk_12_293 kd_253 (t_X12_fail N (1 : Int32) (μ_11.1 253 2) μ_11) (by omega) rfl (by decide) rfl (fun _ μ_12 => ?_)
          refine s_iconst (pc := 208) (v := (0 : Int32)) dX12_qGoesOnTest_208 (by decide) ?_
          exact s_zret0 (pc := 209) dX12_qGoesOnTest_209 rfl rfl
      · refine s_iconst (pc := 208) (v := (0 : Int32)) dX12_qGoesOnTest_208 (by decide) ?_
        exact s_zret0 (pc := 209) dX12_qGoesOnTest_209 rfl rfl
    · refine t_X12_qGoesOnTest_L137 N _ ?_ N μ_10
      · intro μ162
        refine s_aload_n (pc := 162) 0 dX12_qGoesOnTest_162 rfl rfl ?_
        refine s_getR (pc := 163) (ci := 12) (k := 96) (r := 331) dX12_qGoesOnTest_163 fl_12_251 kd_253 rfl rs_253_96 ?_
        refine s_aload_n (pc := 166) 0 dX12_qGoesOnTest_166 rfl rfl ?_
        refine s_getI (pc := 167) (ci := 12) (k := 97) dX12_qGoesOnTest_167 fl_12_355 kd_253 rfl ?_
        refine s_bipush (pc := 170) (v := (11 : Int32)) dX12_qGoesOnTest_170 (by decide) ?_
        refine s_iast (pc := 172) dX12_qGoesOnTest_172 kd_331 (fun μ_16 => ?_)
        refine s_aload_n (pc := 173) 0 dX12_qGoesOnTest_173 rfl rfl ?_
        refine s_dup (pc := 174) dX12_qGoesOnTest_174 rfl ?_
        refine s_getI (pc := 175) (ci := 12) (k := 97) dX12_qGoesOnTest_175 fl_12_355 kd_253 rfl ?_
        refine s_iconst (pc := 178) (v := (1 : Int32)) dX12_qGoesOnTest_178 (by decide) ?_
        refine s_iadd (pc := 179) dX12_qGoesOnTest_179 ?_
        refine s_putI (pc := 180) (ci := 12) (k := 97) dX12_qGoesOnTest_180 fl_12_355 kd_253 rfl rfl (fun μ_17 => ?_)
        refine s_iconst (pc := 183) (v := (1 : Int32)) dX12_qGoesOnTest_183 (by decide) ?_
        exact s_zret0 (pc := 184) dX12_qGoesOnTest_184 rfl rfl
  · refine t_X12_qGoesOnTest_L87 N _ ?_ N μ_9
    · intro μ103
      refine s_aload_n (pc := 103) 0 dX12_qGoesOnTest_103 rfl rfl ?_
      refine s_getR (pc := 104) (ci := 12) (k := 96) (r := 331) dX12_qGoesOnTest_104 fl_12_251 kd_253 rfl rs_253_96 ?_
      refine s_aload_n (pc := 107) 0 dX12_qGoesOnTest_107 rfl rfl ?_
      refine s_getI (pc := 108) (ci := 12) (k := 97) dX12_qGoesOnTest_108 fl_12_355 kd_253 rfl ?_
      refine s_bipush (pc := 111) (v := (10 : Int32)) dX12_qGoesOnTest_111 (by decide) ?_
      refine s_iast (pc := 113) dX12_qGoesOnTest_113 kd_331 (fun μ_20 => ?_)
      refine s_aload_n (pc := 114) 0 dX12_qGoesOnTest_114 rfl rfl ?_
      refine s_dup (pc := 115) dX12_qGoesOnTest_115 rfl ?_
      refine s_getI (pc := 116) (ci := 12) (k := 97) dX12_qGoesOnTest_116 fl_12_355 kd_253 rfl ?_
      refine s_iconst (pc := 119) (v := (1 : Int32)) dX12_qGoesOnTest_119 (by decide) ?_
      refine s_iadd (pc := 120) dX12_qGoesOnTest_120 ?_
      refine s_putI (pc := 121) (ci := 12) (k := 97) dX12_qGoesOnTest_121 fl_12_355 kd_253 rfl rfl (fun μ_21 => ?_)
      refine s_iconst (pc := 124) (v := (1 : Int32)) dX12_qGoesOnTest_124 (by decide) ?_
      exact s_zret0 (pc := 125) dX12_qGoesOnTest_125 rfl rfl
def f_X12_qGoesOnTest (N : Nat) (μ : z_S) : Option (Int32 × z_S) :=
  f_X12_qGoesOnTest_L0 N (fun μ76 => f_X12_qGoesOnTest_B76 N μ76) N μ
theorem t_X12_qGoesOnTest (N : Nat) (μ : z_S) : z_met false rI mX12_qGoesOnTest 3 [.ref 253] μ (f_X12_qGoesOnTest N μ) := by
  refine z_met.of (by decide +kernel) (by show _ ≤ _; first | decide | exact Nat.le_of_ble_eq_true rfl) (lv := [(0, .ref 253)]) rfl ?_
  unfold f_X12_qGoesOnTest
  refine t_X12_qGoesOnTest_L0 N _ ?_ N μ
  · intro μ76
    exact t_X12_qGoesOnTest_B76 N μ76
def f_X12_qTest_B106 (N : Nat) (kb : Int32 → z_S → Option (Unit × z_S)) (e110 : z_S → Option (Unit × z_S)) (s0 : Int32) (μ : z_S) : Option (Unit × z_S) :=
  kb s0 μ
theorem t_X12_qTest_B106 (N : Nat)   (kb : Int32 → z_S → Option (Unit × z_S)) (e110 : z_S → Option (Unit × z_S)) (hkb : ∀ (a1 : Int32) (μ : z_S), z_sim false rV mX12_qTest 8 (kb a1 μ) 2 [(0, .ref 253), (1, .int a1)] [] μ) (he110 : ∀  (μ : z_S), z_sim false rV mX12_qTest 8 (e110 μ) 110 [(0, .ref 253)] [] μ) (s0 : Int32)  (μ : z_S) : z_sim false rV mX12_qTest 8 (f_X12_qTest_B106 N  kb e110 s0 μ) 106 [(0, .ref 253)] [.int s0] μ := by
  unfold f_X12_qTest_B106
  refine s_istore_n (pc := 106) (lv' := [(1, .int s0), (0, .ref 253)]) dX12_qTest_106 rfl (by decide) rfl ?_
  refine s_goto (pc := 107) (tgt := 2) dX12_qTest_107 (by decide) ?_
  refine s_sub (lv' := [(0, .ref 253), (1, .int s0)]) [1, 0] rfl ?_
  exact hkb s0 μ
def f_X12_qTest_B105 (N : Nat) (kb : Int32 → z_S → Option (Unit × z_S)) (e110 : z_S → Option (Unit × z_S)) (μ : z_S) : Option (Unit × z_S) :=
  f_X12_qTest_B106 N kb e110 (0 : Int32) μ
theorem t_X12_qTest_B105 (N : Nat)   (kb : Int32 → z_S → Option (Unit × z_S)) (e110 : z_S → Option (Unit × z_S)) (hkb : ∀ (a1 : Int32) (μ : z_S), z_sim false rV mX12_qTest 8 (kb a1 μ) 2 [(0, .ref 253), (1, .int a1)] [] μ) (he110 : ∀  (μ : z_S), z_sim false rV mX12_qTest 8 (e110 μ) 110 [(0, .ref 253)] [] μ)   (μ : z_S) : z_sim false rV mX12_qTest 8 (f_X12_qTest_B105 N  kb e110  μ) 105 [(0, .ref 253)] [] μ := by
  unfold f_X12_qTest_B105
  refine s_iconst (pc := 105) (v := (0 : Int32)) dX12_qTest_105 (by decide) ?_
  exact t_X12_qTest_B106 N kb e110 hkb he110 (0 : Int32) μ
def b_X12_qTest_L2 (N : Nat) (kb : Int32 → z_S → Option (Unit × z_S)) (e110 : z_S → Option (Unit × z_S)) (v1 : Int32) (μ : z_S) : Option (Unit × z_S) :=
  if v1 = 0 then (e110 μ) else if (μ.1 253 5) = 0 then (z_bn (f_X12_look N μ) fun x1 μ_1 => if x1 = (91 : Int32) then (z_bn (f_X12_qOpens N (25 : Int32) (μ_1.1 253 2) μ_1) fun _ μ_2 => z_bd (z_setI μ_2 253 2 ((μ_2.1 253 2) + (1 : Int32))) fun μ_3 => kb v1 μ_3) else z_bn (f_X12_isHere N 313 μ_1) fun x2 μ_4 => if x2 = 0 then (z_bn (f_X12_qFact N μ_4) fun _ μ_5 => z_bn (f_X12_qDropsNots N μ_5) fun _ μ_6 => if (μ_6.1 253 5) = 0 then (z_bn (f_X12_qGoesOnTest N μ_6) fun x3 μ_7 => if x3 = 0 then (f_X12_qTest_B105 N kb e110 μ_7) else f_X12_qTest_B106 N kb e110 (1 : Int32) μ_7) else f_X12_qTest_B105 N kb e110 μ_6) else z_bn (f_X12_qOpens N (12 : Int32) (μ_4.1 253 2) μ_4) fun _ μ_8 => z_bn (f_X12_asks N 313 μ_8) fun _ μ_9 => kb v1 μ_9) else e110 μ
theorem tb_X12_qTest_L2 (N : Nat) (kb : Int32 → z_S → Option (Unit × z_S)) (e110 : z_S → Option (Unit × z_S)) (hkb : ∀ (a1 : Int32) (μ : z_S), z_sim false rV mX12_qTest 8 (kb a1 μ) 2 [(0, .ref 253), (1, .int a1)] [] μ) (he110 : ∀ (μ : z_S), z_sim false rV mX12_qTest 8 (e110 μ) 110 [(0, .ref 253)] [] μ) (v1 : Int32) (μ : z_S) : z_sim false rV mX12_qTest 8 (b_X12_qTest_L2 N kb e110 v1 μ) 2 [(0, .ref 253), (1, .int v1)] [] μ := by
  unfold b_X12_qTest_L2
  refine s_iload_n (pc := 2) 1 dX12_qTest_2 rfl rfl ?_
  refine s_if_eq (pc := 3) (tgt := 110) dX12_qTest_3 (by decide) ?_ ?_
  · refine s_sub (lv' := [(0, .ref 253)]) [0] rfl ?_
    exact he110 μ
  · refine s_aload_n (pc := 6) 0 dX12_qTest_6 rfl rfl ?_
    refine s_getI (pc := 7) (ci := 12) (k := 5) dX12_qTest_7 fl_12_263 kd_253 rfl ?_
    refine s_if_ne (pc := 10) (tgt := 110) dX12_qTest_10 (by decide) ?_ ?_
    · refine s_aload_n (pc := 13) 0 dX12_qTest_13 rfl rfl ?_
      refine s_callVI (pc := 14) (as := []) (st := []) dX12_qTest_14 lk_12_275 kd_253 (t_X12_look N μ) (by omega) rfl (by decide) rfl (fun x1 μ_1 => ?_)
      refine s_istore_n (pc := 17) (lv' := [(2, .int x1), (0, .ref 253), (1, .int v1)]) dX12_qTest_17 rfl (by decide) rfl ?_
      refine s_iload_n (pc := 18) 0 dX12_qTest_18 rfl rfl ?_
      refine s_bipush (pc := 19) (v := (91 : Int32)) dX12_qTest_19 (by decide) ?_
      refine s_icmp_ne (pc := 21) (tgt := 47) dX12_qTest_21 (by decide) ?_ ?_
      · refine s_aload_n (pc := 24) 1 dX12_qTest_24 rfl rfl ?_
        refine s_bipush (pc := 25) (v := (25 : Int32)) dX12_qTest_25 (by decide) ?_
        refine s_aload_n (pc := 27) 1 dX12_qTest_27 rfl rfl ?_
        refine s_getI (pc := 28) (ci := 12) (k := 2) dX12_qTest_28 fl_12_269 kd_253 rfl ?_
        refine s_callVV (pc := 31) (as := [.int (25 : Int32), .int (μ_1.1 253 2)]) (st := []) dX12_qTest_31 lk_12_612 kd_253 (t_X12_qOpens N (25 : Int32) (μ_1.1 253 2) μ_1) (by omega) rfl (by decide) rfl (fun _ μ_2 => ?_)
        refine s_aload_n (pc := 34) 1 dX12_qTest_34 rfl rfl ?_
        refine s_dup (pc := 35) dX12_qTest_35 rfl ?_
        refine s_getI (pc := 36) (ci := 12) (k := 2) dX12_qTest_36 fl_12_269 kd_253 rfl ?_
        refine s_iconst (pc := 39) (v := (1 : Int32)) dX12_qTest_39 (by decide) ?_
        refine s_iadd (pc := 40) dX12_qTest_40 ?_
        refine s_putI (pc := 41) (ci := 12) (k := 2) dX12_qTest_41 fl_12_269 kd_253 rfl rfl (fun μ_3 => ?_)
        refine s_goto (pc := 44) (tgt := 2) dX12_qTest_44 (by decide) ?_
        refine s_sub (lv' := [(0, .ref 253), (1, .int v1)]) [1, 2] rfl ?_
        exact hkb v1 μ_3
      · refine s_aload_n (pc := 47) 1 dX12_qTest_47 rfl rfl ?_
        refine s_aload_n (pc := 48) 1 dX12_qTest_48 rfl rfl ?_
        refine s_getR (pc := 49) (ci := 12) (k := 77) (r := 313) dX12_qTest_49 fl_12_197 kd_253 rfl rs_253_77 ?_
        refine s_callVI (pc := 52) (as := [.ref 313]) (st := []) dX12_qTest_52 lk_12_286 kd_253 (t_X12_isHere N 313 μ_1) (by omega) rfl (by decide) rfl (fun x2 μ_4 => ?_)
        refine s_if_eq (pc := 55) (tgt := 79) dX12_qTest_55 (by decide) ?_ ?_
        · refine s_aload_n (pc := 79) 1 dX12_qTest_79 rfl rfl ?_
          refine s_callVV (pc := 80) (as := []) (st := []) dX12_qTest_80 lk_12_636 kd_253 (t_X12_qFact N μ_4) (by omega) rfl (by decide) rfl (fun _ μ_5 => ?_)
          refine s_aload_n (pc := 83) 1 dX12_qTest_83 rfl rfl ?_
          refine s_callVV (pc := 84) (as := []) (st := []) dX12_qTest_84 lk_12_639 kd_253 (t_X12_qDropsNots N μ_5) (by omega) rfl (by decide) rfl (fun _ μ_6 => ?_)
          refine s_aload_n (pc := 87) 1 dX12_qTest_87 rfl rfl ?_
          refine s_getI (pc := 88) (ci := 12) (k := 5) dX12_qTest_88 fl_12_263 kd_253 rfl ?_
          refine s_if_ne (pc := 91) (tgt := 105) dX12_qTest_91 (by decide) ?_ ?_
          · refine s_aload_n (pc := 94) 1 dX12_qTest_94 rfl rfl ?_
            refine s_callVI (pc := 95) (as := []) (st := []) dX12_qTest_95 lk_12_642 kd_253 (t_X12_qGoesOnTest N μ_6) (by omega) rfl (by decide) rfl (fun x3 μ_7 => ?_)
            refine s_if_eq (pc := 98) (tgt := 105) dX12_qTest_98 (by decide) ?_ ?_
            · refine s_sub (lv' := [(0, .ref 253)]) [1] rfl ?_
              exact t_X12_qTest_B105 N kb e110 hkb he110 μ_7
            · refine s_iconst (pc := 101) (v := (1 : Int32)) dX12_qTest_101 (by decide) ?_
              refine s_goto (pc := 102) (tgt := 106) dX12_qTest_102 (by decide) ?_
              refine s_sub (lv' := [(0, .ref 253)]) [1] rfl ?_
              exact t_X12_qTest_B106 N kb e110 hkb he110 (1 : Int32) μ_7
          · refine s_sub (lv' := [(0, .ref 253)]) [1] rfl ?_
            exact t_X12_qTest_B105 N kb e110 hkb he110 μ_6
        · refine s_aload_n (pc := 58) 1 dX12_qTest_58 rfl rfl ?_
          refine s_bipush (pc := 59) (v := (12 : Int32)) dX12_qTest_59 (by decide) ?_
          refine s_aload_n (pc := 61) 1 dX12_qTest_61 rfl rfl ?_
          refine s_getI (pc := 62) (ci := 12) (k := 2) dX12_qTest_62 fl_12_269 kd_253 rfl ?_
          refine s_callVV (pc := 65) (as := [.int (12 : Int32), .int (μ_4.1 253 2)]) (st := []) dX12_qTest_65 lk_12_612 kd_253 (t_X12_qOpens N (12 : Int32) (μ_4.1 253 2) μ_4) (by omega) rfl (by decide) rfl (fun _ μ_8 => ?_)
          refine s_aload_n (pc := 68) 1 dX12_qTest_68 rfl rfl ?_
          refine s_aload_n (pc := 69) 1 dX12_qTest_69 rfl rfl ?_
          refine s_getR (pc := 70) (ci := 12) (k := 77) (r := 313) dX12_qTest_70 fl_12_197 kd_253 rfl rs_253_77 ?_
          refine s_callVV (pc := 73) (as := [.ref 313]) (st := []) dX12_qTest_73 lk_12_337 kd_253 (t_X12_asks N 313 μ_8) (by omega) rfl (by decide) rfl (fun _ μ_9 => ?_)
          refine s_goto (pc := 76) (tgt := 2) dX12_qTest_76 (by decide) ?_
          refine s_sub (lv' := [(0, .ref 253), (1, .int v1)]) [1, 2] rfl ?_
          exact hkb v1 μ_9
    · refine s_sub (lv' := [(0, .ref 253)]) [0] rfl ?_
      exact he110 μ
def f_X12_qTest_L2 (N : Nat) (e110 : z_S → Option (Unit × z_S)) : Nat → Int32 → z_S → Option (Unit × z_S)
  | 0, _, _ => none
  | n + 1, v1, μ => b_X12_qTest_L2 N (f_X12_qTest_L2 N e110 n) e110 v1 μ
theorem t_X12_qTest_L2 (N : Nat) (e110 : z_S → Option (Unit × z_S)) (he110 : ∀ (μ : z_S), z_sim false rV mX12_qTest 8 (e110 μ) 110 [(0, .ref 253)] [] μ) : ∀ (n : Nat) (v1 : Int32) (μ : z_S), z_sim false rV mX12_qTest 8 (f_X12_qTest_L2 N e110 n v1 μ) 2 [(0, .ref 253), (1, .int v1)] [] μ
  | 0, _, _ => s_none
  | n + 1, v1, μ => tb_X12_qTest_L2 N (f_X12_qTest_L2 N e110 n) e110 (t_X12_qTest_L2 N e110 he110 n) he110 v1 μ
def b_X12_qTest_L110 (N : Nat) (kb : z_S → Option (Unit × z_S)) (μ : z_S) : Option (Unit × z_S) :=
  if (μ.1 253 5) = 0 then (if 0 < (μ.1 253 97) then (z_bn (f_X12_qDrops N μ) fun _ μ_10 => kb μ_10) else some ((), μ)) else some ((), μ)
theorem tb_X12_qTest_L110 (N : Nat) (kb : z_S → Option (Unit × z_S)) (hkb : ∀ (μ : z_S), z_sim false rV mX12_qTest 8 (kb μ) 110 [(0, .ref 253)] [] μ) (μ : z_S) : z_sim false rV mX12_qTest 8 (b_X12_qTest_L110 N kb μ) 110 [(0, .ref 253)] [] μ := by
  unfold b_X12_qTest_L110
  refine s_aload_n (pc := 110) 0 dX12_qTest_110 rfl rfl ?_
  refine s_getI (pc := 111) (ci := 12) (k := 5) dX12_qTest_111 fl_12_263 kd_253 rfl ?_
  refine s_if_ne (pc := 114) (tgt := 131) dX12_qTest_114 (by decide) ?_ ?_
  · refine s_aload_n (pc := 117) 0 dX12_qTest_117 rfl rfl ?_
    refine s_getI (pc := 118) (ci := 12) (k := 97) dX12_qTest_118 fl_12_355 kd_253 rfl ?_
    refine s_if_le (pc := 121) (tgt := 131) dX12_qTest_121 (by decide) ?_ ?_
    · refine s_aload_n (pc := 124) 0 dX12_qTest_124 rfl rfl ?_
      refine s_callVV (pc := 125) (as := []) (st := []) dX12_qTest_125 lk_12_600 kd_253 (t_X12_qDrops N μ) (by omega) rfl (by decide) rfl (fun _ μ_10 => ?_)
      refine s_goto (pc := 128) (tgt := 110) dX12_qTest_128 (by decide) ?_
      exact hkb μ_10
    · exact s_vret (pc := 131) dX12_qTest_131 rfl
  · exact s_vret (pc := 131) dX12_qTest_131 rfl
def f_X12_qTest_L110 (N : Nat) : Nat → z_S → Option (Unit × z_S)
  | 0, _ => none
  | n + 1, μ => b_X12_qTest_L110 N (f_X12_qTest_L110 N n) μ
theorem t_X12_qTest_L110 (N : Nat) : ∀ (n : Nat) (μ : z_S), z_sim false rV mX12_qTest 8 (f_X12_qTest_L110 N n μ) 110 [(0, .ref 253)] [] μ
  | 0, _ => s_none
  | n + 1, μ => tb_X12_qTest_L110 N (f_X12_qTest_L110 N n) (t_X12_qTest_L110 N n) μ
def f_X12_qTest (N : Nat) (μ : z_S) : Option (Unit × z_S) :=
  f_X12_qTest_L2 N (fun μ110 => f_X12_qTest_L110 N N μ110) N (1 : Int32) μ
theorem t_X12_qTest (N : Nat) (μ : z_S) : z_met false rV mX12_qTest 8 [.ref 253] μ (f_X12_qTest N μ) := by
  refine z_met.of (by decide +kernel) (by show _ ≤ _; first | decide | exact Nat.le_of_ble_eq_true rfl) (lv := [(0, .ref 253)]) rfl ?_
  unfold f_X12_qTest
  refine s_iconst (pc := 0) (v := (1 : Int32)) dX12_qTest_0 (by decide) ?_
  refine s_istore_n (pc := 1) (lv' := [(1, .int (1 : Int32)), (0, .ref 253)]) dX12_qTest_1 rfl (by decide) rfl ?_
  refine s_sub (lv' := [(0, .ref 253), (1, .int (1 : Int32))]) [1, 0] rfl ?_
  refine t_X12_qTest_L2 N _ ?_ N (1 : Int32) μ
  · intro μ110
    refine t_X12_qTest_L110 N N μ110
def f_X12_qOf (N : Nat) (a1 : Int32) (a2 : Int64) (a4 : Int32) (μ : z_S) : Option (Int64 × z_S) :=
  z_bd a1 fun x1 => z_bn (f_X12_giftMany N μ) fun x2 μ_1 => z_bn (f_X12_isIn N a2 (0 : Int64) ((x2 - (1 : Int32)).toInt64) μ_1) fun x3 μ_2 => if x3 = 0 then (some ((0 : Int64), μ_2)) else z_bn (f_X12_wishOf N a4 a2.toInt32 μ_2) fun x4 μ_3 => some (x4.toInt64, μ_3)
theorem t_X12_qOf (N : Nat) (a1 : Int32) (a2 : Int64) (a4 : Int32) (μ : z_S) : z_met false rJ mX12_qOf 1 [.ref 253, .int a1, .long a2, .int a4] μ (f_X12_qOf N a1 a2 a4 μ) := by
  refine z_met.of (by decide +kernel) (by show _ ≤ _; first | decide | exact Nat.le_of_ble_eq_true rfl) (lv := [(0, .ref 253), (1, .int a1), (2, .long a2), (4, .int a4)]) rfl ?_
  unfold f_X12_qOf
  refine s_iload_n (pc := 0) 1 dX12_qOf_0 rfl rfl ?_
  refine s_letI (fun x1 => ?_)
  · refine s_lsw (pc := 1) (off := 11) (tgt := 12) dX12_qOf_1 (by decide) rfl (by decide) ?_
    refine s_lload_n (pc := 12) 2 dX12_qOf_12 rfl rfl ?_
    refine s_lconst (pc := 13) (v := (0 : Int64)) dX12_qOf_13 (by decide) ?_
    refine s_aload_n (pc := 14) 0 dX12_qOf_14 rfl rfl ?_
    refine s_callVI (pc := 15) (as := []) (st := [.long (0 : Int64), .long a2]) dX12_qOf_15 lk_12_410 kd_253 (t_X12_giftMany N μ) (by omega) rfl (Nat.le_of_ble_eq_true rfl) rfl (fun x2 μ_1 => ?_)
    refine s_iconst (pc := 18) (v := (1 : Int32)) dX12_qOf_18 (by decide) ?_
    refine s_isub (pc := 19) dX12_qOf_19 ?_
    refine s_i2l (pc := 20) dX12_qOf_20 ?_
    refine s_callSI (pc := 21) (as := [.long a2, .long (0 : Int64), .long (x2 - (1 : Int32)).toInt64]) (st := []) dX12_qOf_21 lk_12_303 (t_X12_isIn N a2 (0 : Int64) ((x2 - (1 : Int32)).toInt64) μ_1) (by omega) rfl (by decide) rfl (fun x3 μ_2 => ?_)
    refine s_if_eq (pc := 24) (tgt := 39) dX12_qOf_24 (by decide) ?_ ?_
    · refine s_lconst (pc := 39) (v := (0 : Int64)) dX12_qOf_39 (by decide) ?_
      exact s_lret (pc := 40) dX12_qOf_40 rfl
    · refine s_aload_n (pc := 27) 0 dX12_qOf_27 rfl rfl ?_
      refine s_iload (pc := 28) 3 dX12_qOf_28 rfl ?_
      refine s_lload_n (pc := 30) 2 dX12_qOf_30 rfl rfl ?_
      refine s_l2i (pc := 31) dX12_qOf_31 ?_
      refine s_callVI (pc := 32) (as := [.int a4, .int a2.toInt32]) (st := []) dX12_qOf_32 lk_12_425 kd_253 (t_X12_wishOf N a4 a2.toInt32 μ_2) (by omega) rfl (by decide) rfl (fun x4 μ_3 => ?_)
      refine s_i2l (pc := 35) dX12_qOf_35 ?_
      refine s_goto (pc := 36) (tgt := 40) dX12_qOf_36 (by decide) ?_
      exact s_lret (pc := 40) dX12_qOf_40 rfl
def f_X12_qTold_B162 (N : Nat) (c1 : Int32) (kb : Int32 → z_S → Option (Int64 × z_S)) (e168 : z_S → Option (Int64 × z_S)) (v2 : Int32) (μ : z_S) : Option (Int64 × z_S) :=
  z_bd (v2 + 1) fun x2 => kb x2 μ
theorem t_X12_qTold_B162 (N : Nat) (c1 : Int32)  (kb : Int32 → z_S → Option (Int64 × z_S)) (e168 : z_S → Option (Int64 × z_S)) (hkb : ∀ (a2 : Int32) (μ : z_S), z_sim false rJ mX12_qTold 3 (kb a2 μ) 7 [(0, .ref 253), (1, .int c1), (2, .int a2)] [] μ) (he168 : ∀  (μ : z_S), z_sim false rJ mX12_qTold 3 (e168 μ) 168 [(0, .ref 253)] [] μ) (v2 : Int32)  (μ : z_S) : z_sim false rJ mX12_qTold 3 (f_X12_qTold_B162 N c1 kb e168 v2 μ) 162 [(0, .ref 253), (1, .int c1), (2, .int v2)] [] μ := by
  unfold f_X12_qTold_B162
  refine s_iincB (pc := 162) (lv' := fun x2 => [(2, .int x2), (0, .ref 253), (1, .int c1)]) (c := 1) 2 dX12_qTold_162 rfl (by decide) (by decide) (fun _ => rfl) (fun x2 => ?_)
  refine s_goto (pc := 165) (tgt := 7) dX12_qTold_165 (by decide) ?_
  refine s_sub (lv' := [(0, .ref 253), (1, .int c1), (2, .int x2)]) [1, 2, 0] rfl ?_
  exact hkb x2 μ
def b_X12_qTold_L7 (N : Nat) (c1 : Int32) (kb : Int32 → z_S → Option (Int64 × z_S)) (e168 : z_S → Option (Int64 × z_S)) (v2 : Int32) (μ : z_S) : Option (Int64 × z_S) :=
  if v2 < (μ.1 253 95) then (z_in v2 1700 <| z_bd (μ.1 330 v2.toNatClampNeg) fun x1 => if x1 < (1000 : Int32) then (if x1 < (60 : Int32) then (if x1 < (40 : Int32) then (if x1 = (13 : Int32) then (z_bn (f_X12_qPuts N (1 : Int64) μ) fun _ μ_2 => f_X12_qTold_B162 N c1 kb e168 v2 μ_2) else if x1 = (12 : Int32) then (z_in ((μ.1 253 101) - (1 : Int32)) 1700 <| z_in ((μ.1 253 101) - (1 : Int32)) 1700 <| z_bd (z_setJ μ 332 ((μ.1 253 101) - (1 : Int32)).toNatClampNeg ((1 : Int64) - (μ.2.1 332 ((μ.1 253 101) - (1 : Int32)).toNatClampNeg))) fun μ_3 => f_X12_qTold_B162 N c1 kb e168 v2 μ_3) else z_bn (f_X12_qJoins N x1 μ) fun _ μ_4 => f_X12_qTold_B162 N c1 kb e168 v2 μ_4) else z_bn (f_X12_qPartOf N (x1 - (40 : Int32)) c1 μ) fun x3 μ_5 => z_bn (f_X12_qClip N x3 μ_5) fun x4 μ_6 => z_bn (f_X12_qPuts N x4 μ_6) fun _ μ_7 => f_X12_qTold_B162 N c1 kb e168 v2 μ_7) else z_in ((μ.1 253 101) - (1 : Int32)) 1700 <| z_bn (f_X12_qOf N (x1 - (60 : Int32)) (μ.2.1 332 ((μ.1 253 101) - (1 : Int32)).toNatClampNeg) c1 μ) fun x5 μ_8 => z_bn (f_X12_qClip N x5 μ_8) fun x6 μ_9 => z_in ((μ.1 253 101) - (1 : Int32)) 1700 <| z_bd (z_setJ μ_9 332 ((μ.1 253 101) - (1 : Int32)).toNatClampNeg x6) fun μ_10 => f_X12_qTold_B162 N c1 kb e168 v2 μ_10) else z_bn (f_X12_qPuts N ((x1 - (1000 : Int32)).toInt64) μ) fun _ μ_11 => f_X12_qTold_B162 N c1 kb e168 v2 μ_11) else e168 μ
theorem tb_X12_qTold_L7 (N : Nat) (c1 : Int32) (kb : Int32 → z_S → Option (Int64 × z_S)) (e168 : z_S → Option (Int64 × z_S)) (hkb : ∀ (a2 : Int32) (μ : z_S), z_sim false rJ mX12_qTold 3 (kb a2 μ) 7 [(0, .ref 253), (1, .int c1), (2, .int a2)] [] μ) (he168 : ∀ (μ : z_S), z_sim false rJ mX12_qTold 3 (e168 μ) 168 [(0, .ref 253)] [] μ) (v2 : Int32) (μ : z_S) : z_sim false rJ mX12_qTold 3 (b_X12_qTold_L7 N c1 kb e168 v2 μ) 7 [(0, .ref 253), (1, .int c1), (2, .int v2)] [] μ := by
  unfold b_X12_qTold_L7
  refine s_iload_n (pc := 7) 2 dX12_qTold_7 rfl rfl ?_
  refine s_aload_n (pc := 8) 0 dX12_qTold_8 rfl rfl ?_
  refine s_getI (pc := 9) (ci := 12) (k := 95) dX12_qTold_9 fl_12_352 kd_253 rfl ?_
  refine s_icmp_ge (pc := 12) (tgt := 168) dX12_qTold_12 (by decide) ?_ ?_
  · refine s_aload_n (pc := 15) 0 dX12_qTold_15 rfl rfl ?_
    refine s_getR (pc := 16) (ci := 12) (k := 94) (r := 330) dX12_qTold_16 fl_12_248 kd_253 rfl rs_253_94 ?_
    refine s_iload_n (pc := 19) 2 dX12_qTold_19 rfl rfl ?_
    refine s_iald (pc := 20) dX12_qTold_20 kd_330 ?_
    refine s_letI (fun x1 => ?_)
    refine s_istore_n (pc := 21) (lv' := [(3, .int x1), (0, .ref 253), (1, .int c1), (2, .int v2)]) dX12_qTold_21 rfl (by decide) rfl ?_
    refine s_iload_n (pc := 22) 0 dX12_qTold_22 rfl rfl ?_
    refine s_sipush (pc := 23) (v := (1000 : Int32)) dX12_qTold_23 (by decide) ?_
    refine s_icmp_lt (pc := 26) (tgt := 42) dX12_qTold_26 (by decide) ?_ ?_
    · refine s_iload_n (pc := 42) 0 dX12_qTold_42 rfl rfl ?_
      refine s_bipush (pc := 43) (v := (60 : Int32)) dX12_qTold_43 (by decide) ?_
      refine s_icmp_lt (pc := 45) (tgt := 85) dX12_qTold_45 (by decide) ?_ ?_
      · refine s_iload_n (pc := 85) 0 dX12_qTold_85 rfl rfl ?_
        refine s_bipush (pc := 86) (v := (40 : Int32)) dX12_qTold_86 (by decide) ?_
        refine s_icmp_lt (pc := 88) (tgt := 110) dX12_qTold_88 (by decide) ?_ ?_
        · refine s_iload_n (pc := 110) 0 dX12_qTold_110 rfl rfl ?_
          refine s_bipush (pc := 111) (v := (13 : Int32)) dX12_qTold_111 (by decide) ?_
          refine s_icmp_ne (pc := 113) (tgt := 124) dX12_qTold_113 (by decide) ?_ ?_
          · refine s_aload_n (pc := 116) 1 dX12_qTold_116 rfl rfl ?_
            refine s_lconst (pc := 117) (v := (1 : Int64)) dX12_qTold_117 (by decide) ?_
            refine s_callVV (pc := 118) (as := [.long (1 : Int64)]) (st := []) dX12_qTold_118 lk_12_434 kd_253 (t_X12_qPuts N (1 : Int64) μ) (by omega) rfl (by decide) rfl (fun _ μ_2 => ?_)
            refine s_goto (pc := 121) (tgt := 162) dX12_qTold_121 (by decide) ?_
            refine s_sub (lv' := [(0, .ref 253), (1, .int c1), (2, .int v2)]) [1, 2, 3] rfl ?_
            exact t_X12_qTold_B162 N c1 kb e168 hkb he168 v2 μ_2
          · refine s_iload_n (pc := 124) 0 dX12_qTold_124 rfl rfl ?_
            refine s_bipush (pc := 125) (v := (12 : Int32)) dX12_qTold_125 (by decide) ?_
            refine s_icmp_ne (pc := 127) (tgt := 157) dX12_qTold_127 (by decide) ?_ ?_
            · refine s_aload_n (pc := 130) 1 dX12_qTold_130 rfl rfl ?_
              refine s_getR (pc := 131) (ci := 12) (k := 100) (r := 332) dX12_qTold_131 fl_12_254 kd_253 rfl rs_253_100 ?_
              refine s_aload_n (pc := 134) 1 dX12_qTold_134 rfl rfl ?_
              refine s_getI (pc := 135) (ci := 12) (k := 101) dX12_qTold_135 fl_12_431 kd_253 rfl ?_
              refine s_iconst (pc := 138) (v := (1 : Int32)) dX12_qTold_138 (by decide) ?_
              refine s_isub (pc := 139) dX12_qTold_139 ?_
              refine s_lconst (pc := 140) (v := (1 : Int64)) dX12_qTold_140 (by decide) ?_
              refine s_aload_n (pc := 141) 1 dX12_qTold_141 rfl rfl ?_
              refine s_getR (pc := 142) (ci := 12) (k := 100) (r := 332) dX12_qTold_142 fl_12_254 kd_253 rfl rs_253_100 ?_
              refine s_aload_n (pc := 145) 1 dX12_qTold_145 rfl rfl ?_
              refine s_getI (pc := 146) (ci := 12) (k := 101) dX12_qTold_146 fl_12_431 kd_253 rfl ?_
              refine s_iconst (pc := 149) (v := (1 : Int32)) dX12_qTold_149 (by decide) ?_
              refine s_isub (pc := 150) dX12_qTold_150 ?_
              refine s_lald (pc := 151) dX12_qTold_151 kd_332 ?_
              refine s_lsub (pc := 152) dX12_qTold_152 ?_
              refine s_last (pc := 153) dX12_qTold_153 kd_332 (fun μ_3 => ?_)
              refine s_goto (pc := 154) (tgt := 162) dX12_qTold_154 (by decide) ?_
              refine s_sub (lv' := [(0, .ref 253), (1, .int c1), (2, .int v2)]) [1, 2, 3] rfl ?_
              exact t_X12_qTold_B162 N c1 kb e168 hkb he168 v2 μ_3
            · refine s_aload_n (pc := 157) 1 dX12_qTold_157 rfl rfl ?_
              refine s_iload_n (pc := 158) 0 dX12_qTold_158 rfl rfl ?_
              refine s_callVV (pc := 159) (as := [.int x1]) (st := []) dX12_qTold_159 lk_12_442 kd_253 (t_X12_qJoins N x1 μ) (by omega) rfl (by decide) rfl (fun _ μ_4 => ?_)
              refine s_sub (lv' := [(0, .ref 253), (1, .int c1), (2, .int v2)]) [1, 2, 3] rfl ?_
              exact t_X12_qTold_B162 N c1 kb e168 hkb he168 v2 μ_4
        · refine s_aload_n (pc := 91) 1 dX12_qTold_91 rfl rfl ?_
          refine s_aload_n (pc := 92) 1 dX12_qTold_92 rfl rfl ?_
          refine s_iload_n (pc := 93) 0 dX12_qTold_93 rfl rfl ?_
          refine s_bipush (pc := 94) (v := (40 : Int32)) dX12_qTold_94 (by decide) ?_
          refine s_isub (pc := 96) dX12_qTold_96 ?_
          refine s_iload_n (pc := 97) 2 dX12_qTold_97 rfl rfl ?_
          refine s_callVJ (pc := 98) (as := [.int (x1 - (40 : Int32)), .int c1]) (st := [.ref 253]) dX12_qTold_98 lk_12_438 kd_253 (t_X12_qPartOf N (x1 - (40 : Int32)) c1 μ) (by omega) rfl (Nat.le_of_ble_eq_true rfl) rfl (fun x3 μ_5 => ?_)
          refine s_callSJ (pc := 101) (as := [.long x3]) (st := [.ref 253]) dX12_qTold_101 lk_12_652 (t_X12_qClip N x3 μ_5) (by omega) rfl (Nat.le_of_ble_eq_true rfl) rfl (fun x4 μ_6 => ?_)
          refine s_callVV (pc := 104) (as := [.long x4]) (st := []) dX12_qTold_104 lk_12_434 kd_253 (t_X12_qPuts N x4 μ_6) (by omega) rfl (by decide) rfl (fun _ μ_7 => ?_)
          refine s_goto (pc := 107) (tgt := 162) dX12_qTold_107 (by decide) ?_
          refine s_sub (lv' := [(0, .ref 253), (1, .int c1), (2, .int v2)]) [1, 2, 3] rfl ?_
          exact t_X12_qTold_B162 N c1 kb e168 hkb he168 v2 μ_7
      · refine s_aload_n (pc := 48) 1 dX12_qTold_48 rfl rfl ?_
        refine s_getR (pc := 49) (ci := 12) (k := 100) (r := 332) dX12_qTold_49 fl_12_254 kd_253 rfl rs_253_100 ?_
        refine s_aload_n (pc := 52) 1 dX12_qTold_52 rfl rfl ?_
        refine s_getI (pc := 53) (ci := 12) (k := 101) dX12_qTold_53 fl_12_431 kd_253 rfl ?_
        refine s_iconst (pc := 56) (v := (1 : Int32)) dX12_qTold_56 (by decide) ?_
        refine s_isub (pc := 57) dX12_qTold_57 ?_
        refine s_aload_n (pc := 58) 1 dX12_qTold_58 rfl rfl ?_
        refine s_iload_n (pc := 59) 0 dX12_qTold_59 rfl rfl ?_
        refine s_bipush (pc := 60) (v := (60 : Int32)) dX12_qTold_60 (by decide) ?_
        refine s_isub (pc := 62) dX12_qTold_62 ?_
        refine s_aload_n (pc := 63) 1 dX12_qTold_63 rfl rfl ?_
        refine s_getR (pc := 64) (ci := 12) (k := 100) (r := 332) dX12_qTold_64 fl_12_254 kd_253 rfl rs_253_100 ?_
        refine s_aload_n (pc := 67) 1 dX12_qTold_67 rfl rfl ?_
        refine s_getI (pc := 68) (ci := 12) (k := 101) dX12_qTold_68 fl_12_431 kd_253 rfl ?_
        refine s_iconst (pc := 71) (v := (1 : Int32)) dX12_qTold_71 (by decide) ?_
        refine s_isub (pc := 72) dX12_qTold_72 ?_
        refine s_lald (pc := 73) dX12_qTold_73 kd_332 ?_
        refine s_iload_n (pc := 74) 2 dX12_qTold_74 rfl rfl ?_
        refine s_callVJ (pc := 75) (as := [.int (x1 - (60 : Int32)), .long (μ.2.1 332 ((μ.1 253 101) - (1 : Int32)).toNatClampNeg), .int c1]) (st := [.int ((μ.1 253 101) - (1 : Int32)), .ref 332]) dX12_qTold_75 lk_12_660 kd_253 (t_X12_qOf N (x1 - (60 : Int32)) (μ.2.1 332 ((μ.1 253 101) - (1 : Int32)).toNatClampNeg) c1 μ) (by omega) rfl (Nat.le_of_ble_eq_true rfl) rfl (fun x5 μ_8 => ?_)
        refine s_callSJ (pc := 78) (as := [.long x5]) (st := [.int ((μ.1 253 101) - (1 : Int32)), .ref 332]) dX12_qTold_78 lk_12_652 (t_X12_qClip N x5 μ_8) (by omega) rfl (Nat.le_of_ble_eq_true rfl) rfl (fun x6 μ_9 => ?_)
        refine s_last (pc := 81) dX12_qTold_81 kd_332 (fun μ_10 => ?_)
        refine s_goto (pc := 82) (tgt := 162) dX12_qTold_82 (by decide) ?_
        refine s_sub (lv' := [(0, .ref 253), (1, .int c1), (2, .int v2)]) [1, 2, 3] rfl ?_
        exact t_X12_qTold_B162 N c1 kb e168 hkb he168 v2 μ_10
    · refine s_aload_n (pc := 29) 1 dX12_qTold_29 rfl rfl ?_
      refine s_iload_n (pc := 30) 0 dX12_qTold_30 rfl rfl ?_
      refine s_sipush (pc := 31) (v := (1000 : Int32)) dX12_qTold_31 (by decide) ?_
      refine s_isub (pc := 34) dX12_qTold_34 ?_
      refine s_i2l (pc := 35) dX12_qTold_35 ?_
      refine s_callVV (pc := 36) (as := [.long (x1 - (1000 : Int32)).toInt64]) (st := []) dX12_qTold_36 lk_12_434 kd_253 (t_X12_qPuts N ((x1 - (1000 : Int32)).toInt64) μ) (by omega) rfl (by decide) rfl (fun _ μ_11 => ?_)
      refine s_goto (pc := 39) (tgt := 162) dX12_qTold_39 (by decide) ?_
      refine s_sub (lv' := [(0, .ref 253), (1, .int c1), (2, .int v2)]) [1, 2, 3] rfl ?_
      exact t_X12_qTold_B162 N c1 kb e168 hkb he168 v2 μ_11
  · refine s_sub (lv' := [(0, .ref 253)]) [0] rfl ?_
    exact he168 μ
def f_X12_qTold_L7 (N : Nat) (c1 : Int32) (e168 : z_S → Option (Int64 × z_S)) : Nat → Int32 → z_S → Option (Int64 × z_S)
  | 0, _, _ => none
  | n + 1, v2, μ => b_X12_qTold_L7 N c1 (f_X12_qTold_L7 N c1 e168 n) e168 v2 μ
theorem t_X12_qTold_L7 (N : Nat) (c1 : Int32) (e168 : z_S → Option (Int64 × z_S)) (he168 : ∀ (μ : z_S), z_sim false rJ mX12_qTold 3 (e168 μ) 168 [(0, .ref 253)] [] μ) : ∀ (n : Nat) (v2 : Int32) (μ : z_S), z_sim false rJ mX12_qTold 3 (f_X12_qTold_L7 N c1 e168 n v2 μ) 7 [(0, .ref 253), (1, .int c1), (2, .int v2)] [] μ
  | 0, _, _ => s_none
  | n + 1, v2, μ => tb_X12_qTold_L7 N c1 (f_X12_qTold_L7 N c1 e168 n) e168 (t_X12_qTold_L7 N c1 e168 he168 n) he168 v2 μ
def f_X12_qTold (N : Nat) (a1 : Int32) (μ : z_S) : Option (Int64 × z_S) :=
  z_bd (z_setI μ 253 101 (0 : Int32)) fun μ_1 => f_X12_qTold_L7 N a1 (fun μ168 => some ((μ168.2.1 332 0), μ168)) N (0 : Int32) μ_1
theorem t_X12_qTold (N : Nat) (a1 : Int32) (μ : z_S) : z_met false rJ mX12_qTold 3 [.ref 253, .int a1] μ (f_X12_qTold N a1 μ) := by
  refine z_met.of (by decide +kernel) (by show _ ≤ _; first | decide | exact Nat.le_of_ble_eq_true rfl) (lv := [(0, .ref 253), (1, .int a1)]) rfl ?_
  unfold f_X12_qTold
  refine s_aload_n (pc := 0) 0 dX12_qTold_0 rfl rfl ?_
  refine s_iconst (pc := 1) (v := (0 : Int32)) dX12_qTold_1 (by decide) ?_
  refine s_putI (pc := 2) (ci := 12) (k := 101) dX12_qTold_2 fl_12_431 kd_253 rfl rfl (fun μ_1 => ?_)
  refine s_iconst (pc := 5) (v := (0 : Int32)) dX12_qTold_5 (by decide) ?_
  refine s_istore_n (pc := 6) (lv' := [(2, .int (0 : Int32)), (0, .ref 253), (1, .int a1)]) dX12_qTold_6 rfl (by decide) rfl ?_
  refine s_sub (lv' := [(0, .ref 253), (1, .int a1), (2, .int (0 : Int32))]) [1, 2, 0] rfl ?_
  refine t_X12_qTold_L7 N a1 _ ?_ N (0 : Int32) μ_1
  · intro μ168
    refine s_aload_n (pc := 168) 0 dX12_qTold_168 rfl rfl ?_
    refine s_getR (pc := 169) (ci := 12) (k := 100) (r := 332) dX12_qTold_169 fl_12_254 kd_253 rfl rs_253_100 ?_
    refine s_iconst (pc := 172) (v := (0 : Int32)) dX12_qTold_172 (by decide) ?_
    refine s_laldK (pc := 173) (k := 0) dX12_qTold_173 kd_332 (by decide) (by decide) (by decide) ?_
    exact s_lret (pc := 174) dX12_qTold_174 rfl
def f_X12_qKind_B76 (N : Nat)  (s0 : Int32) (μ : z_S) : Option (Int32 × z_S) :=
  if s0 = (5 : Int32) then (z_bn (f_X12_asks N 312 μ) fun _ μ_6 => some (s0, μ_6)) else some (s0, μ)
theorem t_X12_qKind_B76 (N : Nat)     (s0 : Int32)  (μ : z_S) : z_sim false rI mX12_qKind 4 (f_X12_qKind_B76 N   s0 μ) 76 [(0, .ref 253)] [.int s0] μ := by
  unfold f_X12_qKind_B76
  refine s_istore_n (pc := 76) (lv' := [(1, .int s0), (0, .ref 253)]) dX12_qKind_76 rfl (by decide) rfl ?_
  refine s_iload_n (pc := 77) 0 dX12_qKind_77 rfl rfl ?_
  refine s_iconst (pc := 78) (v := (5 : Int32)) dX12_qKind_78 (by decide) ?_
  refine s_icmp_ne (pc := 79) (tgt := 90) dX12_qKind_79 (by decide) ?_ ?_
  · refine s_aload_n (pc := 82) 1 dX12_qKind_82 rfl rfl ?_
    refine s_aload_n (pc := 83) 1 dX12_qKind_83 rfl rfl ?_
    refine s_getR (pc := 84) (ci := 12) (k := 76) (r := 312) dX12_qKind_84 fl_12_194 kd_253 rfl rs_253_76 ?_
    refine s_callVV (pc := 87) (as := [.ref 312]) (st := []) dX12_qKind_87 lk_12_337 kd_253 (t_X12_asks N 312 μ) (by omega) rfl (by decide) rfl (fun _ μ_6 => ?_)
    refine s_iload_n (pc := 90) 0 dX12_qKind_90 rfl rfl ?_
    exact s_iret (pc := 91) rfl dX12_qKind_91 rfl
  · refine s_iload_n (pc := 90) 0 dX12_qKind_90 rfl rfl ?_
    exact s_iret (pc := 91) rfl dX12_qKind_91 rfl
def f_X12_qKind (N : Nat) (μ : z_S) : Option (Int32 × z_S) :=
  z_bn (f_X12_eats N 307 μ) fun x1 μ_1 => if x1 = 0 then (z_bn (f_X12_eats N 308 μ_1) fun x2 μ_2 => if x2 = 0 then (z_bn (f_X12_eats N 309 μ_2) fun x3 μ_3 => if x3 = 0 then (z_bn (f_X12_eats N 310 μ_3) fun x4 μ_4 => if x4 = 0 then (z_bn (f_X12_eats N 311 μ_4) fun x5 μ_5 => if x5 = 0 then (f_X12_qKind_B76 N (5 : Int32) μ_5) else f_X12_qKind_B76 N (4 : Int32) μ_5) else f_X12_qKind_B76 N (3 : Int32) μ_4) else f_X12_qKind_B76 N (2 : Int32) μ_3) else f_X12_qKind_B76 N (1 : Int32) μ_2) else f_X12_qKind_B76 N (0 : Int32) μ_1
theorem t_X12_qKind (N : Nat) (μ : z_S) : z_met false rI mX12_qKind 4 [.ref 253] μ (f_X12_qKind N μ) := by
  refine z_met.of (by decide +kernel) (by show _ ≤ _; first | decide | exact Nat.le_of_ble_eq_true rfl) (lv := [(0, .ref 253)]) rfl ?_
  unfold f_X12_qKind
  refine s_aload_n (pc := 0) 0 dX12_qKind_0 rfl rfl ?_
  refine s_aload_n (pc := 1) 0 dX12_qKind_1 rfl rfl ?_
  refine s_getR (pc := 2) (ci := 12) (k := 71) (r := 307) dX12_qKind_2 fl_12_179 kd_253 rfl rs_253_71 ?_
  refine s_callVI (pc := 5) (as := [.ref 307]) (st := []) dX12_qKind_5 lk_12_290 kd_253 (t_X12_eats N 307 μ) (by omega) rfl (by decide) rfl (fun x1 μ_1 => ?_)
  refine s_if_eq (pc := 8) (tgt := 15) dX12_qKind_8 (by decide) ?_ ?_
  · refine s_aload_n (pc := 15) 0 dX12_qKind_15 rfl rfl ?_
    refine s_aload_n (pc := 16) 0 dX12_qKind_16 rfl rfl ?_
    refine s_getR (pc := 17) (ci := 12) (k := 72) (r := 308) dX12_qKind_17 fl_12_182 kd_253 rfl rs_253_72 ?_
    refine s_callVI (pc := 20) (as := [.ref 308]) (st := []) dX12_qKind_20 lk_12_290 kd_253 (t_X12_eats N 308 μ_1) (by omega) rfl (by decide) rfl (fun x2 μ_2 => ?_)
    refine s_if_eq (pc := 23) (tgt := 30) dX12_qKind_23 (by decide) ?_ ?_
    · refine s_aload_n (pc := 30) 0 dX12_qKind_30 rfl rfl ?_
      refine s_aload_n (pc := 31) 0 dX12_qKind_31 rfl rfl ?_
      refine s_getR (pc := 32) (ci := 12) (k := 73) (r := 309) dX12_qKind_32 fl_12_185 kd_253 rfl rs_253_73 ?_
      refine s_callVI (pc := 35) (as := [.ref 309]) (st := []) dX12_qKind_35 lk_12_290 kd_253 (t_X12_eats N 309 μ_2) (by omega) rfl (by decide) rfl (fun x3 μ_3 => ?_)
      refine s_if_eq (pc := 38) (tgt := 45) dX12_qKind_38 (by decide) ?_ ?_
      · refine s_aload_n (pc := 45) 0 dX12_qKind_45 rfl rfl ?_
        refine s_aload_n (pc := 46) 0 dX12_qKind_46 rfl rfl ?_
        refine s_getR (pc := 47) (ci := 12) (k := 74) (r := 310) dX12_qKind_47 fl_12_188 kd_253 rfl rs_253_74 ?_
        refine s_callVI (pc := 50) (as := [.ref 310]) (st := []) dX12_qKind_50 lk_12_290 kd_253 (t_X12_eats N 310 μ_3) (by omega) rfl (by decide) rfl (fun x4 μ_4 => ?_)
        refine s_if_eq (pc := 53) (tgt := 60) dX12_qKind_53 (by decide) ?_ ?_
        · refine s_aload_n (pc := 60) 0 dX12_qKind_60 rfl rfl ?_
          refine s_aload_n (pc := 61) 0 dX12_qKind_61 rfl rfl ?_
          refine s_getR (pc := 62) (ci := 12) (k := 75) (r := 311) dX12_qKind_62 fl_12_191 kd_253 rfl rs_253_75 ?_
          refine s_callVI (pc := 65) (as := [.ref 311]) (st := []) dX12_qKind_65 lk_12_290 kd_253 (t_X12_eats N 311 μ_4) (by omega) rfl (by decide) rfl (fun x5 μ_5 => ?_)
          refine s_if_eq (pc := 68) (tgt := 75) dX12_qKind_68 (by decide) ?_ ?_
          · refine s_iconst (pc := 75) (v := (5 : Int32)) dX12_qKind_75 (by decide) ?_
            exact t_X12_qKind_B76 N (5 : Int32) μ_5
          · refine s_iconst (pc := 71) (v := (4 : Int32)) dX12_qKind_71 (by decide) ?_
            refine s_goto (pc := 72) (tgt := 76) dX12_qKind_72 (by decide) ?_
            exact t_X12_qKind_B76 N (4 : Int32) μ_5
        · refine s_iconst (pc := 56) (v := (3 : Int32)) dX12_qKind_56 (by decide) ?_
          refine s_goto (pc := 57) (tgt := 76) dX12_qKind_57 (by decide) ?_
          exact t_X12_qKind_B76 N (3 : Int32) μ_4
      · refine s_iconst (pc := 41) (v := (2 : Int32)) dX12_qKind_41 (by decide) ?_
        refine s_goto (pc := 42) (tgt := 76) dX12_qKind_42 (by decide) ?_
        exact t_X12_qKind_B76 N (2 : Int32) μ_3
    · refine s_iconst (pc := 26) (v := (1 : Int32)) dX12_qKind_26 (by decide) ?_
      refine s_goto (pc := 27) (tgt := 76) dX12_qKind_27 (by decide) ?_
      exact t_X12_qKind_B76 N (1 : Int32) μ_2
  · refine s_iconst (pc := 11) (v := (0 : Int32)) dX12_qKind_11 (by decide) ?_
    refine s_goto (pc := 12) (tgt := 76) dX12_qKind_12 (by decide) ?_
    exact t_X12_qKind_B76 N (0 : Int32) μ_1
def f_X12_qTakes_B133 (N : Nat)   (μ : z_S) : Option (Unit × z_S) :=
  z_bd (z_setI μ 253 103 (0 : Int32)) fun μ_3 => some ((), μ_3)
theorem t_X12_qTakes_B133 (N : Nat)       (μ : z_S) : z_sim false rV mX12_qTakes 0 (f_X12_qTakes_B133 N    μ) 133 [(0, .ref 253)] [] μ := by
  unfold f_X12_qTakes_B133
  refine s_aload_n (pc := 133) 0 dX12_qTakes_133 rfl rfl ?_
  refine s_iconst (pc := 134) (v := (0 : Int32)) dX12_qTakes_134 (by decide) ?_
  refine s_putZ (pc := 135) (ci := 12) (k := 103) dX12_qTakes_135 fl_12_669 kd_253 rfl rfl rfl rfl (fun μ_3 => ?_)
  exact s_vret (pc := 138) dX12_qTakes_138 rfl
def f_X12_qTakes_B128 (N : Nat)  (v2 : Int64) (μ : z_S) : Option (Unit × z_S) :=
  z_bd (z_setJ μ 253 102 v2) fun μ_2 => f_X12_qTakes_B133 N μ_2
theorem t_X12_qTakes_B128 (N : Nat)     (v2 : Int64)  (μ : z_S) : z_sim false rV mX12_qTakes 0 (f_X12_qTakes_B128 N   v2 μ) 128 [(0, .ref 253), (2, .long v2)] [] μ := by
  unfold f_X12_qTakes_B128
  refine s_aload_n (pc := 128) 0 dX12_qTakes_128 rfl rfl ?_
  refine s_lload_n (pc := 129) 1 dX12_qTakes_129 rfl rfl ?_
  refine s_putJ (pc := 130) (ci := 12) (k := 102) dX12_qTakes_130 fl_12_664 kd_253 rfl rfl (fun μ_2 => ?_)
  refine s_sub (lv' := [(0, .ref 253)]) [0] rfl ?_
  exact t_X12_qTakes_B133 N μ_2
def f_X12_qTakes_B90 (N : Nat)  (v1 : Int32) (v2 : Int64) (μ : z_S) : Option (Unit × z_S) :=
  if (3 : Int32) < v1 then (if (μ.1 253 103) = 0 then (if v1 = (4 : Int32) then (if (μ.2.1 253 102) < v2 then (f_X12_qTakes_B128 N v2 μ) else f_X12_qTakes_B133 N μ) else if v2 < (μ.2.1 253 102) then (f_X12_qTakes_B128 N v2 μ) else f_X12_qTakes_B133 N μ) else f_X12_qTakes_B128 N v2 μ) else f_X12_qTakes_B133 N μ
theorem t_X12_qTakes_B90 (N : Nat)     (v1 : Int32) (v2 : Int64)  (μ : z_S) : z_sim false rV mX12_qTakes 0 (f_X12_qTakes_B90 N   v1 v2 μ) 90 [(0, .ref 253), (1, .int v1), (2, .long v2)] [] μ := by
  unfold f_X12_qTakes_B90
  refine s_iload_n (pc := 90) 1 dX12_qTakes_90 rfl rfl ?_
  refine s_iconst (pc := 91) (v := (3 : Int32)) dX12_qTakes_91 (by decide) ?_
  refine s_icmp_le (pc := 92) (tgt := 133) dX12_qTakes_92 (by decide) ?_ ?_
  · refine s_aload_n (pc := 95) 0 dX12_qTakes_95 rfl rfl ?_
    refine s_getI (pc := 96) (ci := 12) (k := 103) dX12_qTakes_96 fl_12_669 kd_253 rfl ?_
    refine s_if_ne (pc := 99) (tgt := 128) dX12_qTakes_99 (by decide) ?_ ?_
    · refine s_iload_n (pc := 102) 1 dX12_qTakes_102 rfl rfl ?_
      refine s_iconst (pc := 103) (v := (4 : Int32)) dX12_qTakes_103 (by decide) ?_
      refine s_icmp_ne (pc := 104) (tgt := 119) dX12_qTakes_104 (by decide) ?_ ?_
      · refine s_lload_n (pc := 107) 2 dX12_qTakes_107 rfl rfl ?_
        refine s_aload_n (pc := 108) 0 dX12_qTakes_108 rfl rfl ?_
        refine s_getJ (pc := 109) (ci := 12) (k := 102) dX12_qTakes_109 fl_12_664 kd_253 rfl ?_
        refine s_lcmp_le (pc := 112) (tgt := 133) dX12_qTakes_112 dX12_qTakes_113 (by decide) ?_ ?_
        · refine s_goto (pc := 116) (tgt := 128) dX12_qTakes_116 (by decide) ?_
          refine s_sub (lv' := [(0, .ref 253), (2, .long v2)]) [0, 2] rfl ?_
          exact t_X12_qTakes_B128 N v2 μ
        · refine s_sub (lv' := [(0, .ref 253)]) [0] rfl ?_
          exact t_X12_qTakes_B133 N μ
      · refine s_lload_n (pc := 119) 2 dX12_qTakes_119 rfl rfl ?_
        refine s_aload_n (pc := 120) 0 dX12_qTakes_120 rfl rfl ?_
        refine s_getJ (pc := 121) (ci := 12) (k := 102) dX12_qTakes_121 fl_12_664 kd_253 rfl ?_
        refine s_lcmp_ge (pc := 124) (tgt := 133) dX12_qTakes_124 dX12_qTakes_125 (by decide) ?_ ?_
        · refine s_sub (lv' := [(0, .ref 253), (2, .long v2)]) [0, 2] rfl ?_
          exact t_X12_qTakes_B128 N v2 μ
        · refine s_sub (lv' := [(0, .ref 253)]) [0] rfl ?_
          exact t_X12_qTakes_B133 N μ
    · refine s_sub (lv' := [(0, .ref 253), (2, .long v2)]) [0, 2] rfl ?_
      exact t_X12_qTakes_B128 N v2 μ
  · refine s_sub (lv' := [(0, .ref 253)]) [0] rfl ?_
    exact t_X12_qTakes_B133 N μ
def f_X12_qTakes_B75 (N : Nat)  (v1 : Int32) (v2 : Int64) (μ : z_S) : Option (Unit × z_S) :=
  if v1 = (3 : Int32) then (z_bd (z_setJ μ 253 102 ((μ.2.1 253 102) + v2)) fun μ_1 => f_X12_qTakes_B90 N v1 v2 μ_1) else f_X12_qTakes_B90 N v1 v2 μ
theorem t_X12_qTakes_B75 (N : Nat)     (v1 : Int32) (v2 : Int64)  (μ : z_S) : z_sim false rV mX12_qTakes 0 (f_X12_qTakes_B75 N   v1 v2 μ) 75 [(0, .ref 253), (1, .int v1), (2, .long v2)] [] μ := by
  unfold f_X12_qTakes_B75
  refine s_iload_n (pc := 75) 1 dX12_qTakes_75 rfl rfl ?_
  refine s_iconst (pc := 76) (v := (3 : Int32)) dX12_qTakes_76 (by decide) ?_
  refine s_icmp_ne (pc := 77) (tgt := 90) dX12_qTakes_77 (by decide) ?_ ?_
  · refine s_aload_n (pc := 80) 0 dX12_qTakes_80 rfl rfl ?_
    refine s_dup (pc := 81) dX12_qTakes_81 rfl ?_
    refine s_getJ (pc := 82) (ci := 12) (k := 102) dX12_qTakes_82 fl_12_664 kd_253 rfl ?_
    refine s_lload_n (pc := 85) 2 dX12_qTakes_85 rfl rfl ?_
    refine s_ladd (pc := 86) dX12_qTakes_86 ?_
    refine s_putJ (pc := 87) (ci := 12) (k := 102) dX12_qTakes_87 fl_12_664 kd_253 rfl rfl (fun μ_1 => ?_)
    exact t_X12_qTakes_B90 N v1 v2 μ_1
  · exact t_X12_qTakes_B90 N v1 v2 μ
def f_X12_qTakes_B55 (N : Nat)  (v1 : Int32) (v2 : Int64) (v5 : Int32) (μ : z_S) : Option (Unit × z_S) :=
  if v1 = (2 : Int32) then (if v5 = 0 then (f_X12_qTakes_B75 N v1 v2 μ) else z_bd (z_setJ μ 253 102 ((μ.2.1 253 102) + (1 : Int64))) fun μ_4 => f_X12_qTakes_B75 N v1 v2 μ_4) else f_X12_qTakes_B75 N v1 v2 μ
theorem t_X12_qTakes_B55 (N : Nat)     (v1 : Int32) (v2 : Int64) (v5 : Int32)  (μ : z_S) : z_sim false rV mX12_qTakes 0 (f_X12_qTakes_B55 N   v1 v2 v5 μ) 55 [(0, .ref 253), (1, .int v1), (2, .long v2), (5, .int v5)] [] μ := by
  unfold f_X12_qTakes_B55
  refine s_iload_n (pc := 55) 1 dX12_qTakes_55 rfl rfl ?_
  refine s_iconst (pc := 56) (v := (2 : Int32)) dX12_qTakes_56 (by decide) ?_
  refine s_icmp_ne (pc := 57) (tgt := 75) dX12_qTakes_57 (by decide) ?_ ?_
  · refine s_iload (pc := 60) 3 dX12_qTakes_60 rfl ?_
    refine s_if_eq (pc := 62) (tgt := 75) dX12_qTakes_62 (by decide) ?_ ?_
    · refine s_sub (lv' := [(0, .ref 253), (1, .int v1), (2, .long v2)]) [0, 1, 2] rfl ?_
      exact t_X12_qTakes_B75 N v1 v2 μ
    · refine s_aload_n (pc := 65) 0 dX12_qTakes_65 rfl rfl ?_
      refine s_dup (pc := 66) dX12_qTakes_66 rfl ?_
      refine s_getJ (pc := 67) (ci := 12) (k := 102) dX12_qTakes_67 fl_12_664 kd_253 rfl ?_
      refine s_lconst (pc := 70) (v := (1 : Int64)) dX12_qTakes_70 (by decide) ?_
      refine s_ladd (pc := 71) dX12_qTakes_71 ?_
      refine s_putJ (pc := 72) (ci := 12) (k := 102) dX12_qTakes_72 fl_12_664 kd_253 rfl rfl (fun μ_4 => ?_)
      refine s_sub (lv' := [(0, .ref 253), (1, .int v1), (2, .long v2)]) [0, 1, 2] rfl ?_
      exact t_X12_qTakes_B75 N v1 v2 μ_4
  · refine s_sub (lv' := [(0, .ref 253), (1, .int v1), (2, .long v2)]) [0, 1, 2] rfl ?_
    exact t_X12_qTakes_B75 N v1 v2 μ
def f_X12_qTakes_B48 (N : Nat)  (v1 : Int32) (v2 : Int64) (v4 : Int32) (v5 : Int32) (μ : z_S) : Option (Unit × z_S) :=
  z_bd (z_setJ μ 253 102 v4.toInt64) fun μ_5 => f_X12_qTakes_B55 N v1 v2 v5 μ_5
theorem t_X12_qTakes_B48 (N : Nat)     (v1 : Int32) (v2 : Int64) (v4 : Int32) (v5 : Int32)  (μ : z_S) : z_sim false rV mX12_qTakes 0 (f_X12_qTakes_B48 N   v1 v2 v4 v5 μ) 48 [(0, .ref 253), (1, .int v1), (2, .long v2), (4, .int v4), (5, .int v5)] [] μ := by
  unfold f_X12_qTakes_B48
  refine s_aload_n (pc := 48) 0 dX12_qTakes_48 rfl rfl ?_
  refine s_iload (pc := 49) 3 dX12_qTakes_49 rfl ?_
  refine s_i2l (pc := 51) dX12_qTakes_51 ?_
  refine s_putJ (pc := 52) (ci := 12) (k := 102) dX12_qTakes_52 fl_12_664 kd_253 rfl rfl (fun μ_5 => ?_)
  refine s_sub (lv' := [(0, .ref 253), (1, .int v1), (2, .long v2), (5, .int v5)]) [0, 1, 2, 4] rfl ?_
  exact t_X12_qTakes_B55 N v1 v2 v5 μ_5
def f_X12_qTakes_B38 (N : Nat)  (v1 : Int32) (v2 : Int64) (v4 : Int32) (v5 : Int32) (μ : z_S) : Option (Unit × z_S) :=
  if v1 = (1 : Int32) then (if v5 = 0 then (f_X12_qTakes_B55 N v1 v2 v5 μ) else f_X12_qTakes_B48 N v1 v2 v4 v5 μ) else f_X12_qTakes_B55 N v1 v2 v5 μ
theorem t_X12_qTakes_B38 (N : Nat)     (v1 : Int32) (v2 : Int64) (v4 : Int32) (v5 : Int32)  (μ : z_S) : z_sim false rV mX12_qTakes 0 (f_X12_qTakes_B38 N   v1 v2 v4 v5 μ) 38 [(0, .ref 253), (1, .int v1), (2, .long v2), (4, .int v4), (5, .int v5)] [] μ := by
  unfold f_X12_qTakes_B38
  refine s_iload_n (pc := 38) 1 dX12_qTakes_38 rfl rfl ?_
  refine s_iconst (pc := 39) (v := (1 : Int32)) dX12_qTakes_39 (by decide) ?_
  refine s_icmp_ne (pc := 40) (tgt := 55) dX12_qTakes_40 (by decide) ?_ ?_
  · refine s_iload (pc := 43) 4 dX12_qTakes_43 rfl ?_
    refine s_if_eq (pc := 45) (tgt := 55) dX12_qTakes_45 (by decide) ?_ ?_
    · refine s_sub (lv' := [(0, .ref 253), (1, .int v1), (2, .long v2), (5, .int v5)]) [0, 1, 2, 4] rfl ?_
      exact t_X12_qTakes_B55 N v1 v2 v5 μ
    · exact t_X12_qTakes_B48 N v1 v2 v4 v5 μ
  · refine s_sub (lv' := [(0, .ref 253), (1, .int v1), (2, .long v2), (5, .int v5)]) [0, 1, 2, 4] rfl ?_
    exact t_X12_qTakes_B55 N v1 v2 v5 μ
def f_X12_qTakes_B16 (N : Nat)  (v1 : Int32) (v2 : Int64) (v4 : Int32) (s0 : Int32) (μ : z_S) : Option (Unit × z_S) :=
  if v1 = 0 then (if s0 = 0 then (f_X12_qTakes_B38 N v1 v2 v4 s0 μ) else if (μ.2.1 253 102) = (-1 : Int64) then (f_X12_qTakes_B48 N v1 v2 v4 s0 μ) else f_X12_qTakes_B38 N v1 v2 v4 s0 μ) else f_X12_qTakes_B38 N v1 v2 v4 s0 μ
theorem t_X12_qTakes_B16 (N : Nat)     (v1 : Int32) (v2 : Int64) (v4 : Int32) (s0 : Int32)  (μ : z_S) : z_sim false rV mX12_qTakes 0 (f_X12_qTakes_B16 N   v1 v2 v4 s0 μ) 16 [(0, .ref 253), (1, .int v1), (2, .long v2), (4, .int v4)] [.int s0] μ := by
  unfold f_X12_qTakes_B16
  refine s_istore (pc := 16) (lv' := [(5, .int s0), (0, .ref 253), (1, .int v1), (2, .long v2), (4, .int v4)]) dX12_qTakes_16 (by decide) rfl ?_
  refine s_iload_n (pc := 18) 2 dX12_qTakes_18 rfl rfl ?_
  refine s_if_ne (pc := 19) (tgt := 38) dX12_qTakes_19 (by decide) ?_ ?_
  · refine s_iload (pc := 22) 0 dX12_qTakes_22 rfl ?_
    refine s_if_eq (pc := 24) (tgt := 38) dX12_qTakes_24 (by decide) ?_ ?_
    · refine s_sub (lv' := [(0, .ref 253), (1, .int v1), (2, .long v2), (4, .int v4), (5, .int s0)]) [1, 2, 3, 4, 0] rfl ?_
      exact t_X12_qTakes_B38 N v1 v2 v4 s0 μ
    · refine s_aload_n (pc := 27) 1 dX12_qTakes_27 rfl rfl ?_
      refine s_getJ (pc := 28) (ci := 12) (k := 102) dX12_qTakes_28 fl_12_664 kd_253 rfl ?_
      refine s_ldc2 (pc := 31) (v := (-1 : Int64)) dX12_qTakes_31 w_2164 ?_
      refine s_lcmp_eq (pc := 34) (tgt := 48) dX12_qTakes_34 dX12_qTakes_35 (by decide) ?_ ?_
      · refine s_sub (lv' := [(0, .ref 253), (1, .int v1), (2, .long v2), (4, .int v4), (5, .int s0)]) [1, 2, 3, 4, 0] rfl ?_
        exact t_X12_qTakes_B48 N v1 v2 v4 s0 μ
      · refine s_sub (lv' := [(0, .ref 253), (1, .int v1), (2, .long v2), (4, .int v4), (5, .int s0)]) [1, 2, 3, 4, 0] rfl ?_
        exact t_X12_qTakes_B38 N v1 v2 v4 s0 μ
  · refine s_sub (lv' := [(0, .ref 253), (1, .int v1), (2, .long v2), (4, .int v4), (5, .int s0)]) [1, 2, 3, 4, 0] rfl ?_
    exact t_X12_qTakes_B38 N v1 v2 v4 s0 μ
def f_X12_qTakes_B15 (N : Nat)  (v1 : Int32) (v2 : Int64) (v4 : Int32) (μ : z_S) : Option (Unit × z_S) :=
  f_X12_qTakes_B16 N v1 v2 v4 (0 : Int32) μ
theorem t_X12_qTakes_B15 (N : Nat)     (v1 : Int32) (v2 : Int64) (v4 : Int32)  (μ : z_S) : z_sim false rV mX12_qTakes 0 (f_X12_qTakes_B15 N   v1 v2 v4 μ) 15 [(0, .ref 253), (1, .int v1), (2, .long v2), (4, .int v4)] [] μ := by
  unfold f_X12_qTakes_B15
  refine s_iconst (pc := 15) (v := (0 : Int32)) dX12_qTakes_15 (by decide) ?_
  exact t_X12_qTakes_B16 N v1 v2 v4 (0 : Int32) μ
def f_X12_qTakes (N : Nat) (a1 : Int32) (a2 : Int64) (a4 : Int32) (μ : z_S) : Option (Unit × z_S) :=
  if a1 < (3 : Int32) then (if a2 = (1 : Int64) then (f_X12_qTakes_B16 N a1 a2 a4 (1 : Int32) μ) else f_X12_qTakes_B15 N a1 a2 a4 μ) else f_X12_qTakes_B15 N a1 a2 a4 μ
theorem t_X12_qTakes (N : Nat) (a1 : Int32) (a2 : Int64) (a4 : Int32) (μ : z_S) : z_met false rV mX12_qTakes 0 [.ref 253, .int a1, .long a2, .int a4] μ (f_X12_qTakes N a1 a2 a4 μ) := by
  refine z_met.of (by decide +kernel) (by show _ ≤ _; first | decide | exact Nat.le_of_ble_eq_true rfl) (lv := [(0, .ref 253), (1, .int a1), (2, .long a2), (4, .int a4)]) rfl ?_
  unfold f_X12_qTakes
  refine s_iload_n (pc := 0) 1 dX12_qTakes_0 rfl rfl ?_
  refine s_iconst (pc := 1) (v := (3 : Int32)) dX12_qTakes_1 (by decide) ?_
  refine s_icmp_ge (pc := 2) (tgt := 15) dX12_qTakes_2 (by decide) ?_ ?_
  · refine s_lload_n (pc := 5) 2 dX12_qTakes_5 rfl rfl ?_
    refine s_lconst (pc := 6) (v := (1 : Int64)) dX12_qTakes_6 (by decide) ?_
    refine s_lcmp_ne (pc := 7) (tgt := 15) dX12_qTakes_7 dX12_qTakes_8 (by decide) ?_ ?_
    · refine s_iconst (pc := 11) (v := (1 : Int32)) dX12_qTakes_11 (by decide) ?_
      refine s_goto (pc := 12) (tgt := 16) dX12_qTakes_12 (by decide) ?_
      exact t_X12_qTakes_B16 N a1 a2 a4 (1 : Int32) μ
    · exact t_X12_qTakes_B15 N a1 a2 a4 μ
  · exact t_X12_qTakes_B15 N a1 a2 a4 μ
def b_X12_ask_L172 (N : Nat) (c1 : Int32) (kb : Int32 → z_S → Option (Int64 × z_S)) (v2 : Int32) (μ : z_S) : Option (Int64 × z_S) :=
  z_bn (f_X12_letterMany N μ) fun x3 μ_20 => if v2 < x3 then (z_bn (f_X12_qTold N v2 μ_20) fun x4 μ_21 => z_bn (f_X12_qTakes N c1 x4 v2 μ_21) fun _ μ_22 => z_bd (v2 + 1) fun x5 => kb x5 μ_22) else some ((μ_20.2.1 253 102), μ_20)
theorem tb_X12_ask_L172 (N : Nat) (c1 : Int32) (kb : Int32 → z_S → Option (Int64 × z_S)) (hkb : ∀ (a2 : Int32) (μ : z_S), z_sim false rJ mX12_ask 9 (kb a2 μ) 172 [(0, .ref 253), (1, .int c1), (2, .int a2)] [] μ) (v2 : Int32) (μ : z_S) : z_sim false rJ mX12_ask 9 (b_X12_ask_L172 N c1 kb v2 μ) 172 [(0, .ref 253), (1, .int c1), (2, .int v2)] [] μ := by
  unfold b_X12_ask_L172
  refine s_iload_n (pc := 172) 2 dX12_ask_172 rfl rfl ?_
  refine s_aload_n (pc := 173) 0 dX12_ask_173 rfl rfl ?_
  refine s_callVI (pc := 174) (as := []) (st := [.int v2]) dX12_ask_174 lk_12_419 kd_253 (t_X12_letterMany N μ) (by omega) rfl (Nat.le_of_ble_eq_true rfl) rfl (fun x3 μ_20 => ?_)
  refine s_icmp_ge (pc := 177) (tgt := 197) dX12_ask_177 (by decide) ?_ ?_
  · refine s_aload_n (pc := 180) 0 dX12_ask_180 rfl rfl ?_
    refine s_iload_n (pc := 181) 1 dX12_ask_181 rfl rfl ?_
    refine s_aload_n (pc := 182) 0 dX12_ask_182 rfl rfl ?_
    refine s_iload_n (pc := 183) 2 dX12_ask_183 rfl rfl ?_
    refine s_callVJ (pc := 184) (as := [.int v2]) (st := [.int c1, .ref 253]) dX12_ask_184 lk_12_678 kd_253 (t_X12_qTold N v2 μ_20) (by omega) rfl (Nat.le_of_ble_eq_true rfl) rfl (fun x4 μ_21 => ?_)
    refine s_iload_n (pc := 187) 2 dX12_ask_187 rfl rfl ?_
    refine s_callVV (pc := 188) (as := [.int c1, .long x4, .int v2]) (st := []) dX12_ask_188 lk_12_682 kd_253 (t_X12_qTakes N c1 x4 v2 μ_21) (by omega) rfl (by decide) rfl (fun _ μ_22 => ?_)
    refine s_iincB (pc := 191) (lv' := fun x5 => [(2, .int x5), (0, .ref 253), (1, .int c1)]) (c := 1) 2 dX12_ask_191 rfl (by decide) (by decide) (fun _ => rfl) (fun x5 => ?_)
    refine s_goto (pc := 194) (tgt := 172) dX12_ask_194 (by decide) ?_
    refine s_sub (lv' := [(0, .ref 253), (1, .int c1), (2, .int x5)]) [1, 2, 0] rfl ?_
    exact hkb x5 μ_22
  · refine s_aload_n (pc := 197) 0 dX12_ask_197 rfl rfl ?_
    refine s_getJ (pc := 198) (ci := 12) (k := 102) dX12_ask_198 fl_12_664 kd_253 rfl ?_
    exact s_lret (pc := 201) dX12_ask_201 rfl
def f_X12_ask_L172 (N : Nat) (c1 : Int32) : Nat → Int32 → z_S → Option (Int64 × z_S)
  | 0, _, _ => none
  | n + 1, v2, μ => b_X12_ask_L172 N c1 (f_X12_ask_L172 N c1 n) v2 μ
theorem t_X12_ask_L172 (N : Nat) (c1 : Int32) : ∀ (n : Nat) (v2 : Int32) (μ : z_S), z_sim false rJ mX12_ask 9 (f_X12_ask_L172 N c1 n v2 μ) 172 [(0, .ref 253), (1, .int c1), (2, .int v2)] [] μ
  | 0, _, _ => s_none
  | n + 1, v2, μ => tb_X12_ask_L172 N c1 (f_X12_ask_L172 N c1 n) (t_X12_ask_L172 N c1 n) v2 μ
def f_X12_ask_B157 (N : Nat)  (v1 : Int32) (s0 : Int64) (μ : z_S) : Option (Int64 × z_S) :=
  z_bd (z_setJ μ 253 102 s0) fun μ_17 => z_bd (z_setI μ_17 253 103 (1 : Int32)) fun μ_18 => z_bd (z_setI μ_18 253 53 (0 : Int32)) fun μ_19 => f_X12_ask_L172 N v1 N (0 : Int32) μ_19
theorem t_X12_ask_B157 (N : Nat)     (v1 : Int32) (s0 : Int64)  (μ : z_S) : z_sim false rJ mX12_ask 9 (f_X12_ask_B157 N   v1 s0 μ) 157 [(0, .ref 253), (1, .int v1)] [.long s0, .ref 253] μ := by
  unfold f_X12_ask_B157
  refine s_putJ (pc := 157) (ci := 12) (k := 102) dX12_ask_157 fl_12_664 kd_253 rfl rfl (fun μ_17 => ?_)
  refine s_aload_n (pc := 160) 0 dX12_ask_160 rfl rfl ?_
  refine s_iconst (pc := 161) (v := (1 : Int32)) dX12_ask_161 (by decide) ?_
  refine s_putZ (pc := 162) (ci := 12) (k := 103) dX12_ask_162 fl_12_669 kd_253 rfl rfl rfl rfl (fun μ_18 => ?_)
  refine s_aload_n (pc := 165) 0 dX12_ask_165 rfl rfl ?_
  refine s_iconst (pc := 166) (v := (0 : Int32)) dX12_ask_166 (by decide) ?_
  refine s_putZ (pc := 167) (ci := 12) (k := 53) dX12_ask_167 fl_12_318 kd_253 rfl rfl rfl rfl (fun μ_19 => ?_)
  refine s_iconst (pc := 170) (v := (0 : Int32)) dX12_ask_170 (by decide) ?_
  refine s_istore_n (pc := 171) (lv' := [(2, .int (0 : Int32)), (0, .ref 253), (1, .int v1)]) dX12_ask_171 rfl (by decide) rfl ?_
  refine s_sub (lv' := [(0, .ref 253), (1, .int v1), (2, .int (0 : Int32))]) [1, 2, 0] rfl ?_
  refine t_X12_ask_L172 N v1 N (0 : Int32) μ_19
def f_X12_ask_B117 (N : Nat)  (v1 : Int32) (μ : z_S) : Option (Int64 × z_S) :=
  z_bd (z_setI μ 253 7 (μ.1 253 5)) fun μ_15 => z_bd (z_setI μ_15 253 8 (μ_15.1 253 6)) fun μ_16 => if (μ_16.1 253 5) = 0 then (if v1 < (2 : Int32) then (f_X12_ask_B157 N v1 (-1 : Int64) μ_16) else f_X12_ask_B157 N v1 (0 : Int64) μ_16) else some ((-1000000000000000 : Int64), μ_16)
theorem t_X12_ask_B117 (N : Nat)     (v1 : Int32)  (μ : z_S) : z_sim false rJ mX12_ask 9 (f_X12_ask_B117 N   v1 μ) 117 [(0, .ref 253), (1, .int v1)] [] μ := by
  unfold f_X12_ask_B117
  refine s_aload_n (pc := 117) 0 dX12_ask_117 rfl rfl ?_
  refine s_aload_n (pc := 118) 0 dX12_ask_118 rfl rfl ?_
  refine s_getI (pc := 119) (ci := 12) (k := 5) dX12_ask_119 fl_12_263 kd_253 rfl ?_
  refine s_putI (pc := 122) (ci := 12) (k := 7) dX12_ask_122 fl_12_401 kd_253 rfl rfl (fun μ_15 => ?_)
  refine s_aload_n (pc := 125) 0 dX12_ask_125 rfl rfl ?_
  refine s_aload_n (pc := 126) 0 dX12_ask_126 rfl rfl ?_
  refine s_getI (pc := 127) (ci := 12) (k := 6) dX12_ask_127 fl_12_266 kd_253 rfl ?_
  refine s_putI (pc := 130) (ci := 12) (k := 8) dX12_ask_130 fl_12_13 kd_253 rfl rfl (fun μ_16 => ?_)
  refine s_aload_n (pc := 133) 0 dX12_ask_133 rfl rfl ?_
  refine s_getI (pc := 134) (ci := 12) (k := 5) dX12_ask_134 fl_12_263 kd_253 rfl ?_
  refine s_if_eq (pc := 137) (tgt := 144) dX12_ask_137 (by decide) ?_ ?_
  · refine s_aload_n (pc := 144) 0 dX12_ask_144 rfl rfl ?_
    refine s_iload_n (pc := 145) 1 dX12_ask_145 rfl rfl ?_
    refine s_iconst (pc := 146) (v := (2 : Int32)) dX12_ask_146 (by decide) ?_
    refine s_icmp_ge (pc := 147) (tgt := 156) dX12_ask_147 (by decide) ?_ ?_
    · refine s_ldc2 (pc := 150) (v := (-1 : Int64)) dX12_ask_150 w_2164 ?_
      refine s_goto (pc := 153) (tgt := 157) dX12_ask_153 (by decide) ?_
      exact t_X12_ask_B157 N v1 (-1 : Int64) μ_16
    · refine s_lconst (pc := 156) (v := (0 : Int64)) dX12_ask_156 (by decide) ?_
      exact t_X12_ask_B157 N v1 (0 : Int64) μ_16
  · refine s_ldc2 (pc := 140) (v := (-1000000000000000 : Int64)) dX12_ask_140 w_1945 ?_
    exact s_lret (pc := 143) dX12_ask_143 rfl
def f_X12_ask_B93 (N : Nat)  (v1 : Int32) (μ : z_S) : Option (Int64 × z_S) :=
  if (μ.1 253 5) = 0 then (z_bn (f_X12_look N μ) fun x2 μ_14 => if x2 = (-1 : Int32) then (f_X12_ask_B117 N v1 μ_14) else z_bn (f_X12_fail N (1 : Int32) (μ_14.1 253 2) μ_14) fun _ μ_23 => f_X12_ask_B117 N v1 μ_23) else f_X12_ask_B117 N v1 μ
theorem t_X12_ask_B93 (N : Nat)     (v1 : Int32)  (μ : z_S) : z_sim false rJ mX12_ask 9 (f_X12_ask_B93 N   v1 μ) 93 [(0, .ref 253), (1, .int v1)] [] μ := by
  unfold f_X12_ask_B93
  refine s_aload_n (pc := 93) 0 dX12_ask_93 rfl rfl ?_
  refine s_getI (pc := 94) (ci := 12) (k := 5) dX12_ask_94 fl_12_263 kd_253 rfl ?_
  refine s_if_ne (pc := 97) (tgt := 117) dX12_ask_97 (by decide) ?_ ?_
  · refine s_aload_n (pc := 100) 0 dX12_ask_100 rfl rfl ?_
    refine s_callVI (pc := 101) (as := []) (st := []) dX12_ask_101 lk_12_275 kd_253 (t_X12_look N μ) (by omega) rfl (by decide) rfl (fun x2 μ_14 => ?_)
    refine s_iconst (pc := 104) (v := (-1 : Int32)) dX12_ask_104 (by decide) ?_
    refine s_icmp_eq (pc := 105) (tgt := 117) dX12_ask_105 (by decide) ?_ ?_
    · exact t_X12_ask_B117 N v1 μ_14
    · refine s_aload_n (pc := 108) 0 dX12_ask_108 rfl rfl ?_
      refine s_iconst (pc := 109) (v := (1 : Int32)) dX12_ask_109 (by decide) ?_
      refine s_aload_n (pc := 110) 0 dX12_ask_110 rfl rfl ?_
      refine s_getI (pc := 111) (ci := 12) (k := 2) dX12_ask_111 fl_12_269 kd_253 rfl ?_
      refine s_callVV (pc := 114) (as := [.int (1 : Int32), .int (μ_14.1 253 2)]) (st := []) dX12_ask_114 lk_12_293 kd_253 (t_X12_fail N (1 : Int32) (μ_14.1 253 2) μ_14) (by omega) rfl (by decide) rfl (fun _ μ_23 => ?_)
      exact t_X12_ask_B117 N v1 μ_23
  · exact t_X12_ask_B117 N v1 μ
def f_X12_ask_B82 (N : Nat)  (v1 : Int32) (μ : z_S) : Option (Int64 × z_S) :=
  if (μ.1 253 5) = 0 then (z_bn (f_X12_qSums N μ) fun _ μ_24 => f_X12_ask_B93 N v1 μ_24) else f_X12_ask_B93 N v1 μ
theorem t_X12_ask_B82 (N : Nat)     (v1 : Int32)  (μ : z_S) : z_sim false rJ mX12_ask 9 (f_X12_ask_B82 N   v1 μ) 82 [(0, .ref 253), (1, .int v1)] [] μ := by
  unfold f_X12_ask_B82
  refine s_aload_n (pc := 82) 0 dX12_ask_82 rfl rfl ?_
  refine s_getI (pc := 83) (ci := 12) (k := 5) dX12_ask_83 fl_12_263 kd_253 rfl ?_
  refine s_if_ne (pc := 86) (tgt := 93) dX12_ask_86 (by decide) ?_ ?_
  · refine s_aload_n (pc := 89) 0 dX12_ask_89 rfl rfl ?_
    refine s_callVV (pc := 90) (as := []) (st := []) dX12_ask_90 lk_12_364 kd_253 (t_X12_qSums N μ) (by omega) rfl (by decide) rfl (fun _ μ_24 => ?_)
    exact t_X12_ask_B93 N v1 μ_24
  · exact t_X12_ask_B93 N v1 μ
def f_X12_ask (N : Nat) (μ : z_S) : Option (Int64 × z_S) :=
  z_bd (z_setI μ 253 3 (μ.1 253 1)) fun μ_1 => z_bd (z_setI μ_1 253 1 (0 : Int32)) fun μ_2 => z_bd (z_setI μ_2 253 2 (0 : Int32)) fun μ_3 => z_bd (z_setI μ_3 253 4 (-1 : Int32)) fun μ_4 => z_bd (z_setI μ_4 253 5 (0 : Int32)) fun μ_5 => z_bd (z_setI μ_5 253 6 (-1 : Int32)) fun μ_6 => z_bd (z_setI μ_6 253 53 (0 : Int32)) fun μ_7 => z_bd (z_setI μ_7 253 95 (0 : Int32)) fun μ_8 => z_bd (z_setI μ_8 253 97 (0 : Int32)) fun μ_9 => z_bd (z_setI μ_9 253 98 (0 : Int32)) fun μ_10 => z_bd (z_setI μ_10 253 99 (0 : Int32)) fun μ_11 => z_bn (f_X12_qKind N μ_11) fun x1 μ_12 => if (μ_12.1 253 5) = 0 then (if x1 < (3 : Int32) then (z_bn (f_X12_qTest N μ_12) fun _ μ_13 => f_X12_ask_B93 N x1 μ_13) else f_X12_ask_B82 N x1 μ_12) else f_X12_ask_B82 N x1 μ_12
theorem t_X12_ask (N : Nat) (μ : z_S) : z_met false rJ mX12_ask 9 [.ref 253] μ (f_X12_ask N μ) := by
  refine z_met.of (by decide +kernel) (by show _ ≤ _; first | decide | exact Nat.le_of_ble_eq_true rfl) (lv := [(0, .ref 253)]) rfl ?_
  unfold f_X12_ask
  refine s_aload_n (pc := 0) 0 dX12_ask_0 rfl rfl ?_
  refine s_aload_n (pc := 1) 0 dX12_ask_1 rfl rfl ?_
  refine s_getI (pc := 2) (ci := 12) (k := 1) dX12_ask_2 fl_12_260 kd_253 rfl ?_
  refine s_putI (pc := 5) (ci := 12) (k := 3) dX12_ask_5 fl_12_272 kd_253 rfl rfl (fun μ_1 => ?_)
  refine s_aload_n (pc := 8) 0 dX12_ask_8 rfl rfl ?_
  refine s_iconst (pc := 9) (v := (0 : Int32)) dX12_ask_9 (by decide) ?_
  refine s_putI (pc := 10) (ci := 12) (k := 1) dX12_ask_10 fl_12_260 kd_253 rfl rfl (fun μ_2 => ?_)
  refine s_aload_n (pc := 13) 0 dX12_ask_13 rfl rfl ?_
  refine s_iconst (pc := 14) (v := (0 : Int32)) dX12_ask_14 (by decide) ?_
  refine s_putI (pc := 15) (ci := 12) (k := 2) dX12_ask_15 fl_12_269 kd_253 rfl rfl (fun μ_3 => ?_)
  refine s_aload_n (pc := 18) 0 dX12_ask_18 rfl rfl ?_
  refine s_iconst (pc := 19) (v := (-1 : Int32)) dX12_ask_19 (by decide) ?_
  refine s_putI (pc := 20) (ci := 12) (k := 4) dX12_ask_20 fl_12_283 kd_253 rfl rfl (fun μ_4 => ?_)
  refine s_aload_n (pc := 23) 0 dX12_ask_23 rfl rfl ?_
  refine s_iconst (pc := 24) (v := (0 : Int32)) dX12_ask_24 (by decide) ?_
  refine s_putI (pc := 25) (ci := 12) (k := 5) dX12_ask_25 fl_12_263 kd_253 rfl rfl (fun μ_5 => ?_)
  refine s_aload_n (pc := 28) 0 dX12_ask_28 rfl rfl ?_
  refine s_iconst (pc := 29) (v := (-1 : Int32)) dX12_ask_29 (by decide) ?_
  refine s_putI (pc := 30) (ci := 12) (k := 6) dX12_ask_30 fl_12_266 kd_253 rfl rfl (fun μ_6 => ?_)
  refine s_aload_n (pc := 33) 0 dX12_ask_33 rfl rfl ?_
  refine s_iconst (pc := 34) (v := (0 : Int32)) dX12_ask_34 (by decide) ?_
  refine s_putZ (pc := 35) (ci := 12) (k := 53) dX12_ask_35 fl_12_318 kd_253 rfl rfl rfl rfl (fun μ_7 => ?_)
  refine s_aload_n (pc := 38) 0 dX12_ask_38 rfl rfl ?_
  refine s_iconst (pc := 39) (v := (0 : Int32)) dX12_ask_39 (by decide) ?_
  refine s_putI (pc := 40) (ci := 12) (k := 95) dX12_ask_40 fl_12_352 kd_253 rfl rfl (fun μ_8 => ?_)
  refine s_aload_n (pc := 43) 0 dX12_ask_43 rfl rfl ?_
  refine s_iconst (pc := 44) (v := (0 : Int32)) dX12_ask_44 (by decide) ?_
  refine s_putI (pc := 45) (ci := 12) (k := 97) dX12_ask_45 fl_12_355 kd_253 rfl rfl (fun μ_9 => ?_)
  refine s_aload_n (pc := 48) 0 dX12_ask_48 rfl rfl ?_
  refine s_iconst (pc := 49) (v := (0 : Int32)) dX12_ask_49 (by decide) ?_
  refine s_putI (pc := 50) (ci := 12) (k := 98) dX12_ask_50 fl_12_358 kd_253 rfl rfl (fun μ_10 => ?_)
  refine s_aload_n (pc := 53) 0 dX12_ask_53 rfl rfl ?_
  refine s_iconst (pc := 54) (v := (0 : Int32)) dX12_ask_54 (by decide) ?_
  refine s_putI (pc := 55) (ci := 12) (k := 99) dX12_ask_55 fl_12_361 kd_253 rfl rfl (fun μ_11 => ?_)
  refine s_aload_n (pc := 58) 0 dX12_ask_58 rfl rfl ?_
  refine s_callVI (pc := 59) (as := []) (st := []) dX12_ask_59 lk_12_672 kd_253 (t_X12_qKind N μ_11) (by omega) rfl (by decide) rfl (fun x1 μ_12 => ?_)
  refine s_istore_n (pc := 62) (lv' := [(1, .int x1), (0, .ref 253)]) dX12_ask_62 rfl (by decide) rfl ?_
  refine s_aload_n (pc := 63) 1 dX12_ask_63 rfl rfl ?_
  refine s_getI (pc := 64) (ci := 12) (k := 5) dX12_ask_64 fl_12_263 kd_253 rfl ?_
  refine s_if_ne (pc := 67) (tgt := 82) dX12_ask_67 (by decide) ?_ ?_
  · refine s_iload_n (pc := 70) 0 dX12_ask_70 rfl rfl ?_
    refine s_iconst (pc := 71) (v := (3 : Int32)) dX12_ask_71 (by decide) ?_
    refine s_icmp_ge (pc := 72) (tgt := 82) dX12_ask_72 (by decide) ?_ ?_
    · refine s_aload_n (pc := 75) 1 dX12_ask_75 rfl rfl ?_
      refine s_callVV (pc := 76) (as := []) (st := []) dX12_ask_76 lk_12_675 kd_253 (t_X12_qTest N μ_12) (by omega) rfl (by decide) rfl (fun _ μ_13 => ?_)
      refine s_goto (pc := 79) (tgt := 93) dX12_ask_79 (by decide) ?_
      refine s_sub (lv' := [(0, .ref 253), (1, .int x1)]) [1, 0] rfl ?_
      exact t_X12_ask_B93 N x1 μ_13
    · refine s_sub (lv' := [(0, .ref 253), (1, .int x1)]) [1, 0] rfl ?_
      exact t_X12_ask_B82 N x1 μ_12
  · refine s_sub (lv' := [(0, .ref 253), (1, .int x1)]) [1, 0] rfl ?_
    exact t_X12_ask_B82 N x1 μ_12
def b_X12_checked_L5 (N : Nat) (o0 : Nat) (c1 : Int32) (kb : Int32 → Int32 → z_S → Option (Int32 × z_S)) (v2 : Int32) (v3 : Int32) (μ : z_S) : Option (Int32 × z_S) :=
  if v3 < c1 then (z_in v3 (z_kw false o0).2 <| z_nz (251 : Int32) <| z_bd ((((3 : Int32) * v2) + (μ.1 o0 v3.toNatClampNeg)) - (((3 : Int32) * v2) + (μ.1 o0 v3.toNatClampNeg)) / (251 : Int32) * (251 : Int32)) fun x1 => z_bd (v3 + 1) fun x2 => kb x1 x2 μ) else some (v2, μ)
theorem tb_X12_checked_L5 (N : Nat) (o0 : Nat) (c1 : Int32) (hk0 : z_kw false o0 = (20, (z_kw false o0).2)) (kb : Int32 → Int32 → z_S → Option (Int32 × z_S)) (hkb : ∀ (a2 : Int32) (a3 : Int32) (μ : z_S), z_sim false rI mX12_checked 0 (kb a2 a3 μ) 5 [(0, .ref o0), (1, .int c1), (2, .int a2), (3, .int a3)] [] μ) (v2 : Int32) (v3 : Int32) (μ : z_S) : z_sim false rI mX12_checked 0 (b_X12_checked_L5 N o0 c1 kb v2 v3 μ) 5 [(0, .ref o0), (1, .int c1), (2, .int v2), (3, .int v3)] [] μ := by
  unfold b_X12_checked_L5
  refine s_iload_n (pc := 5) 3 dX12_checked_5 rfl rfl ?_
  refine s_iload_n (pc := 6) 1 dX12_checked_6 rfl rfl ?_
  refine s_icmp_ge (pc := 7) (tgt := 28) dX12_checked_7 (by decide) ?_ ?_
  · refine s_iconst (pc := 10) (v := (3 : Int32)) dX12_checked_10 (by decide) ?_
    refine s_iload_n (pc := 11) 2 dX12_checked_11 rfl rfl ?_
    refine s_imul (pc := 12) dX12_checked_12 ?_
    refine s_aload_n (pc := 13) 0 dX12_checked_13 rfl rfl ?_
    refine s_iload_n (pc := 14) 3 dX12_checked_14 rfl rfl ?_
    refine s_iald (pc := 15) dX12_checked_15 hk0 ?_
    refine s_iadd (pc := 16) dX12_checked_16 ?_
    refine s_sipush (pc := 17) (v := (251 : Int32)) dX12_checked_17 (by decide) ?_
    refine s_irem (pc := 20) dX12_checked_20 ?_
    refine s_letI (fun x1 => ?_)
    refine s_istore_n (pc := 21) (lv' := [(2, .int x1), (0, .ref o0), (1, .int c1), (3, .int v3)]) dX12_checked_21 rfl (by decide) rfl ?_
    refine s_iincB (pc := 22) (lv' := fun x2 => [(3, .int x2), (2, .int x1), (0, .ref o0), (1, .int c1)]) (c := 1) 3 dX12_checked_22 rfl (by decide) (by decide) (fun _ => rfl) (fun x2 => ?_)
    refine s_goto (pc := 25) (tgt := 5) dX12_checked_25 (by decide) ?_
    refine s_sub (lv' := [(0, .ref o0), (1, .int c1), (2, .int x1), (3, .int x2)]) [2, 3, 1, 0] rfl ?_
    exact hkb x1 x2 μ
  · refine s_iload_n (pc := 28) 2 dX12_checked_28 rfl rfl ?_
    exact s_iret (pc := 29) rfl dX12_checked_29 rfl
def f_X12_checked_L5 (N : Nat) (o0 : Nat) (c1 : Int32) : Nat → Int32 → Int32 → z_S → Option (Int32 × z_S)
  | 0, _, _, _ => none
  | n + 1, v2, v3, μ => b_X12_checked_L5 N o0 c1 (f_X12_checked_L5 N o0 c1 n) v2 v3 μ
theorem t_X12_checked_L5 (N : Nat) (o0 : Nat) (c1 : Int32) (hk0 : z_kw false o0 = (20, (z_kw false o0).2)) : ∀ (n : Nat) (v2 : Int32) (v3 : Int32) (μ : z_S), z_sim false rI mX12_checked 0 (f_X12_checked_L5 N o0 c1 n v2 v3 μ) 5 [(0, .ref o0), (1, .int c1), (2, .int v2), (3, .int v3)] [] μ
  | 0, _, _, _ => s_none
  | n + 1, v2, v3, μ => tb_X12_checked_L5 N o0 c1 hk0 (f_X12_checked_L5 N o0 c1 n) (t_X12_checked_L5 N o0 c1 hk0 n) v2 v3 μ
def f_X12_checked (N : Nat) (o0 : Nat) (a1 : Int32) (μ : z_S) : Option (Int32 × z_S) :=
  z_kd false o0 20 <| f_X12_checked_L5 N o0 a1 N (89 : Int32) (0 : Int32) μ
theorem t_X12_checked (N : Nat) (o0 : Nat) (a1 : Int32) (μ : z_S) : z_met false rI mX12_checked 0 [.ref o0, .int a1] μ (f_X12_checked N o0 a1 μ) := by
  refine z_met.of (by decide +kernel) (by show _ ≤ _; first | decide | exact Nat.le_of_ble_eq_true rfl) (lv := [(0, .ref o0), (1, .int a1)]) rfl ?_
  unfold f_X12_checked
  refine s_kd (fun hk0 => ?_)
  refine s_bipush (pc := 0) (v := (89 : Int32)) dX12_checked_0 (by decide) ?_
  refine s_istore_n (pc := 2) (lv' := [(2, .int (89 : Int32)), (0, .ref o0), (1, .int a1)]) dX12_checked_2 rfl (by decide) rfl ?_
  refine s_iconst (pc := 3) (v := (0 : Int32)) dX12_checked_3 (by decide) ?_
  refine s_istore_n (pc := 4) (lv' := [(3, .int (0 : Int32)), (2, .int (89 : Int32)), (0, .ref o0), (1, .int a1)]) dX12_checked_4 rfl (by decide) rfl ?_
  refine s_sub (lv' := [(0, .ref o0), (1, .int a1), (2, .int (89 : Int32)), (3, .int (0 : Int32))]) [2, 3, 1, 0] rfl ?_
  refine t_X12_checked_L5 N o0 a1 hk0 N (89 : Int32) (0 : Int32) μ
def f_X12_writes (N : Nat) (a1 : Int32) (μ : z_S) : Option (Unit × z_S) :=
  z_in (μ.1 253 105) 34 <| z_bd (z_setI μ 333 (μ.1 253 105).toNatClampNeg a1) fun μ_1 => z_bd (z_setI μ_1 253 105 ((μ_1.1 253 105) + (1 : Int32))) fun μ_2 => some ((), μ_2)
theorem t_X12_writes (N : Nat) (a1 : Int32) (μ : z_S) : z_met false rV mX12_writes 0 [.ref 253, .int a1] μ (f_X12_writes N a1 μ) := by
  refine z_met.of (by decide +kernel) (by show _ ≤ _; first | decide | exact Nat.le_of_ble_eq_true rfl) (lv := [(0, .ref 253), (1, .int a1)]) rfl ?_
  unfold f_X12_writes
  refine s_aload_n (pc := 0) 0 dX12_writes_0 rfl rfl ?_
  refine s_getR (pc := 1) (ci := 12) (k := 104) (r := 333) dX12_writes_1 fl_12_257 kd_253 rfl rs_253_104 ?_
  refine s_aload_n (pc := 4) 0 dX12_writes_4 rfl rfl ?_
  refine s_getI (pc := 5) (ci := 12) (k := 105) dX12_writes_5 fl_12_686 kd_253 rfl ?_
  refine s_iload_n (pc := 8) 1 dX12_writes_8 rfl rfl ?_
  refine s_iast (pc := 9) dX12_writes_9 kd_333 (fun μ_1 => ?_)
  refine s_aload_n (pc := 10) 0 dX12_writes_10 rfl rfl ?_
  refine s_dup (pc := 11) dX12_writes_11 rfl ?_
  refine s_getI (pc := 12) (ci := 12) (k := 105) dX12_writes_12 fl_12_686 kd_253 rfl ?_
  refine s_iconst (pc := 15) (v := (1 : Int32)) dX12_writes_15 (by decide) ?_
  refine s_iadd (pc := 16) dX12_writes_16 ?_
  refine s_putI (pc := 17) (ci := 12) (k := 105) dX12_writes_17 fl_12_686 kd_253 rfl rfl (fun μ_2 => ?_)
  exact s_vret (pc := 20) dX12_writes_20 rfl
def b_X12_image_L35 (N : Nat) (kb : Int32 → z_S → Option (Int32 × z_S)) (e58 : z_S → Option (Int32 × z_S)) (v1 : Int32) (μ : z_S) : Option (Int32 × z_S) :=
  z_bn (f_X12_helperMany N μ) fun x1 μ_4 => if v1 < x1 then (z_bn (f_X12_leftOf N v1 μ_4) fun x2 μ_5 => z_bn (f_X12_writes N x2 μ_5) fun _ μ_6 => z_bd (v1 + 1) fun x3 => kb x3 μ_6) else e58 μ_4
theorem tb_X12_image_L35 (N : Nat) (kb : Int32 → z_S → Option (Int32 × z_S)) (e58 : z_S → Option (Int32 × z_S)) (hkb : ∀ (a1 : Int32) (μ : z_S), z_sim false rI mX12_image 1 (kb a1 μ) 35 [(0, .ref 253), (1, .int a1)] [] μ) (he58 : ∀ (μ : z_S), z_sim false rI mX12_image 1 (e58 μ) 58 [(0, .ref 253)] [] μ) (v1 : Int32) (μ : z_S) : z_sim false rI mX12_image 1 (b_X12_image_L35 N kb e58 v1 μ) 35 [(0, .ref 253), (1, .int v1)] [] μ := by
  unfold b_X12_image_L35
  refine s_iload_n (pc := 35) 1 dX12_image_35 rfl rfl ?_
  refine s_aload_n (pc := 36) 0 dX12_image_36 rfl rfl ?_
  refine s_callVI (pc := 37) (as := []) (st := [.int v1]) dX12_image_37 lk_12_422 kd_253 (t_X12_helperMany N μ) (by omega) rfl (Nat.le_of_ble_eq_true rfl) rfl (fun x1 μ_4 => ?_)
  refine s_icmp_ge (pc := 40) (tgt := 58) dX12_image_40 (by decide) ?_ ?_
  · refine s_aload_n (pc := 43) 0 dX12_image_43 rfl rfl ?_
    refine s_aload_n (pc := 44) 0 dX12_image_44 rfl rfl ?_
    refine s_iload_n (pc := 45) 1 dX12_image_45 rfl rfl ?_
    refine s_callVI (pc := 46) (as := [.int v1]) (st := [.ref 253]) dX12_image_46 lk_12_458 kd_253 (t_X12_leftOf N v1 μ_4) (by omega) rfl (Nat.le_of_ble_eq_true rfl) rfl (fun x2 μ_5 => ?_)
    refine s_callVV (pc := 49) (as := [.int x2]) (st := []) dX12_image_49 lk_12_689 kd_253 (t_X12_writes N x2 μ_5) (by omega) rfl (by decide) rfl (fun _ μ_6 => ?_)
    refine s_iincB (pc := 52) (lv' := fun x3 => [(1, .int x3), (0, .ref 253)]) (c := 1) 1 dX12_image_52 rfl (by decide) (by decide) (fun _ => rfl) (fun x3 => ?_)
    refine s_goto (pc := 55) (tgt := 35) dX12_image_55 (by decide) ?_
    refine s_sub (lv' := [(0, .ref 253), (1, .int x3)]) [1, 0] rfl ?_
    exact hkb x3 μ_6
  · refine s_sub (lv' := [(0, .ref 253)]) [0] rfl ?_
    exact he58 μ_4
def f_X12_image_L35 (N : Nat) (e58 : z_S → Option (Int32 × z_S)) : Nat → Int32 → z_S → Option (Int32 × z_S)
  | 0, _, _ => none
  | n + 1, v1, μ => b_X12_image_L35 N (f_X12_image_L35 N e58 n) e58 v1 μ
theorem t_X12_image_L35 (N : Nat) (e58 : z_S → Option (Int32 × z_S)) (he58 : ∀ (μ : z_S), z_sim false rI mX12_image 1 (e58 μ) 58 [(0, .ref 253)] [] μ) : ∀ (n : Nat) (v1 : Int32) (μ : z_S), z_sim false rI mX12_image 1 (f_X12_image_L35 N e58 n v1 μ) 35 [(0, .ref 253), (1, .int v1)] [] μ
  | 0, _, _ => s_none
  | n + 1, v1, μ => tb_X12_image_L35 N (f_X12_image_L35 N e58 n) e58 (t_X12_image_L35 N e58 he58 n) he58 v1 μ
def b_X12_image_L60 (N : Nat) (kb : Int32 → z_S → Option (Int32 × z_S)) (e86 : z_S → Option (Int32 × z_S)) (v1 : Int32) (μ : z_S) : Option (Int32 × z_S) :=
  z_bn (f_X12_giftMany N μ) fun x4 μ_7 => if v1 < x4 then (z_in ((4 : Int32) + v1) 32 <| z_bn (f_X12_writes N (μ_7.1 296 ((4 : Int32) + v1).toNatClampNeg) μ_7) fun _ μ_8 => z_bd (v1 + 1) fun x5 => kb x5 μ_8) else e86 μ_7
theorem tb_X12_image_L60 (N : Nat) (kb : Int32 → z_S → Option (Int32 × z_S)) (e86 : z_S → Option (Int32 × z_S)) (hkb : ∀ (a1 : Int32) (μ : z_S), z_sim false rI mX12_image 1 (kb a1 μ) 60 [(0, .ref 253), (1, .int a1)] [] μ) (he86 : ∀ (μ : z_S), z_sim false rI mX12_image 1 (e86 μ) 86 [(0, .ref 253)] [] μ) (v1 : Int32) (μ : z_S) : z_sim false rI mX12_image 1 (b_X12_image_L60 N kb e86 v1 μ) 60 [(0, .ref 253), (1, .int v1)] [] μ := by
  unfold b_X12_image_L60
  refine s_iload_n (pc := 60) 1 dX12_image_60 rfl rfl ?_
  refine s_aload_n (pc := 61) 0 dX12_image_61 rfl rfl ?_
  refine s_callVI (pc := 62) (as := []) (st := [.int v1]) dX12_image_62 lk_12_410 kd_253 (t_X12_giftMany N μ) (by omega) rfl (Nat.le_of_ble_eq_true rfl) rfl (fun x4 μ_7 => ?_)
  refine s_icmp_ge (pc := 65) (tgt := 86) dX12_image_65 (by decide) ?_ ?_
  · refine s_aload_n (pc := 68) 0 dX12_image_68 rfl rfl ?_
    refine s_aload_n (pc := 69) 0 dX12_image_69 rfl rfl ?_
    refine s_getR (pc := 70) (ci := 12) (k := 54) (r := 296) dX12_image_70 fl_12_142 kd_253 rfl rs_253_54 ?_
    refine s_iconst (pc := 73) (v := (4 : Int32)) dX12_image_73 (by decide) ?_
    refine s_iload_n (pc := 74) 1 dX12_image_74 rfl rfl ?_
    refine s_iadd (pc := 75) dX12_image_75 ?_
    refine s_iald (pc := 76) dX12_image_76 kd_296 ?_
    refine s_callVV (pc := 77) (as := [.int (μ_7.1 296 ((4 : Int32) + v1).toNatClampNeg)]) (st := []) dX12_image_77 lk_12_689 kd_253 (t_X12_writes N (μ_7.1 296 ((4 : Int32) + v1).toNatClampNeg) μ_7) (by omega) rfl (by decide) rfl (fun _ μ_8 => ?_)
    refine s_iincB (pc := 80) (lv' := fun x5 => [(1, .int x5), (0, .ref 253)]) (c := 1) 1 dX12_image_80 rfl (by decide) (by decide) (fun _ => rfl) (fun x5 => ?_)
    refine s_goto (pc := 83) (tgt := 60) dX12_image_83 (by decide) ?_
    refine s_sub (lv' := [(0, .ref 253), (1, .int x5)]) [1, 0] rfl ?_
    exact hkb x5 μ_8
  · refine s_sub (lv' := [(0, .ref 253)]) [0] rfl ?_
    exact he86 μ_7
def f_X12_image_L60 (N : Nat) (e86 : z_S → Option (Int32 × z_S)) : Nat → Int32 → z_S → Option (Int32 × z_S)
  | 0, _, _ => none
  | n + 1, v1, μ => b_X12_image_L60 N (f_X12_image_L60 N e86 n) e86 v1 μ
theorem t_X12_image_L60 (N : Nat) (e86 : z_S → Option (Int32 × z_S)) (he86 : ∀ (μ : z_S), z_sim false rI mX12_image 1 (e86 μ) 86 [(0, .ref 253)] [] μ) : ∀ (n : Nat) (v1 : Int32) (μ : z_S), z_sim false rI mX12_image 1 (f_X12_image_L60 N e86 n v1 μ) 60 [(0, .ref 253), (1, .int v1)] [] μ
  | 0, _, _ => s_none
  | n + 1, v1, μ => tb_X12_image_L60 N (f_X12_image_L60 N e86 n) e86 (t_X12_image_L60 N e86 he86 n) he86 v1 μ
def b_X12_image_L88 (N : Nat) (kb : Int32 → z_S → Option (Int32 × z_S)) (e117 : z_S → Option (Int32 × z_S)) (v1 : Int32) (μ : z_S) : Option (Int32 × z_S) :=
  z_bn (f_X12_letterMany N μ) fun x6 μ_9 => if v1 < ((3 : Int32) * x6) then (z_in ((8 : Int32) + v1) 32 <| z_bn (f_X12_writes N (μ_9.1 296 ((8 : Int32) + v1).toNatClampNeg) μ_9) fun _ μ_10 => z_bd (v1 + 1) fun x7 => kb x7 μ_10) else e117 μ_9
theorem tb_X12_image_L88 (N : Nat) (kb : Int32 → z_S → Option (Int32 × z_S)) (e117 : z_S → Option (Int32 × z_S)) (hkb : ∀ (a1 : Int32) (μ : z_S), z_sim false rI mX12_image 1 (kb a1 μ) 88 [(0, .ref 253), (1, .int a1)] [] μ) (he117 : ∀ (μ : z_S), z_sim false rI mX12_image 1 (e117 μ) 117 [(0, .ref 253)] [] μ) (v1 : Int32) (μ : z_S) : z_sim false rI mX12_image 1 (b_X12_image_L88 N kb e117 v1 μ) 88 [(0, .ref 253), (1, .int v1)] [] μ := by
  unfold b_X12_image_L88
  refine s_iload_n (pc := 88) 1 dX12_image_88 rfl rfl ?_
  refine s_iconst (pc := 89) (v := (3 : Int32)) dX12_image_89 (by decide) ?_
  refine s_aload_n (pc := 90) 0 dX12_image_90 rfl rfl ?_
  refine s_callVI (pc := 91) (as := []) (st := [.int (3 : Int32), .int v1]) dX12_image_91 lk_12_419 kd_253 (t_X12_letterMany N μ) (by omega) rfl (Nat.le_of_ble_eq_true rfl) rfl (fun x6 μ_9 => ?_)
  refine s_imul (pc := 94) dX12_image_94 ?_
  refine s_icmp_ge (pc := 95) (tgt := 117) dX12_image_95 (by decide) ?_ ?_
  · refine s_aload_n (pc := 98) 0 dX12_image_98 rfl rfl ?_
    refine s_aload_n (pc := 99) 0 dX12_image_99 rfl rfl ?_
    refine s_getR (pc := 100) (ci := 12) (k := 54) (r := 296) dX12_image_100 fl_12_142 kd_253 rfl rs_253_54 ?_
    refine s_bipush (pc := 103) (v := (8 : Int32)) dX12_image_103 (by decide) ?_
    refine s_iload_n (pc := 105) 1 dX12_image_105 rfl rfl ?_
    refine s_iadd (pc := 106) dX12_image_106 ?_
    refine s_iald (pc := 107) dX12_image_107 kd_296 ?_
    refine s_callVV (pc := 108) (as := [.int (μ_9.1 296 ((8 : Int32) + v1).toNatClampNeg)]) (st := []) dX12_image_108 lk_12_689 kd_253 (t_X12_writes N (μ_9.1 296 ((8 : Int32) + v1).toNatClampNeg) μ_9) (by omega) rfl (by decide) rfl (fun _ μ_10 => ?_)
    refine s_iincB (pc := 111) (lv' := fun x7 => [(1, .int x7), (0, .ref 253)]) (c := 1) 1 dX12_image_111 rfl (by decide) (by decide) (fun _ => rfl) (fun x7 => ?_)
    refine s_goto (pc := 114) (tgt := 88) dX12_image_114 (by decide) ?_
    refine s_sub (lv' := [(0, .ref 253), (1, .int x7)]) [1, 0] rfl ?_
    exact hkb x7 μ_10
  · refine s_sub (lv' := [(0, .ref 253)]) [0] rfl ?_
    exact he117 μ_9
def f_X12_image_L88 (N : Nat) (e117 : z_S → Option (Int32 × z_S)) : Nat → Int32 → z_S → Option (Int32 × z_S)
  | 0, _, _ => none
  | n + 1, v1, μ => b_X12_image_L88 N (f_X12_image_L88 N e117 n) e117 v1 μ
theorem t_X12_image_L88 (N : Nat) (e117 : z_S → Option (Int32 × z_S)) (he117 : ∀ (μ : z_S), z_sim false rI mX12_image 1 (e117 μ) 117 [(0, .ref 253)] [] μ) : ∀ (n : Nat) (v1 : Int32) (μ : z_S), z_sim false rI mX12_image 1 (f_X12_image_L88 N e117 n v1 μ) 88 [(0, .ref 253), (1, .int v1)] [] μ
  | 0, _, _ => s_none
  | n + 1, v1, μ => tb_X12_image_L88 N (f_X12_image_L88 N e117 n) e117 (t_X12_image_L88 N e117 he117 n) he117 v1 μ
def f_X12_image (N : Nat) (μ : z_S) : Option (Int32 × z_S) :=
  z_bd (z_setI μ 253 105 (0 : Int32)) fun μ_1 => z_nz (256 : Int32) <| z_bn (f_X12_writes N ((μ_1.1 296 0) / (256 : Int32)) μ_1) fun _ μ_2 => z_nz (256 : Int32) <| z_bn (f_X12_writes N ((μ_2.1 296 0) - (μ_2.1 296 0) / (256 : Int32) * (256 : Int32)) μ_2) fun _ μ_3 => f_X12_image_L35 N (fun μ58 => f_X12_image_L60 N (fun μ86 => f_X12_image_L88 N (fun μ117 => z_bn (f_X12_checked N 333 (μ117.1 253 105) μ117) fun x8 μ_11 => z_bn (f_X12_writes N x8 μ_11) fun _ μ_12 => some ((μ_12.1 253 105), μ_12)) N (0 : Int32) μ86) N (0 : Int32) μ58) N (0 : Int32) μ_3
theorem t_X12_image (N : Nat) (μ : z_S) : z_met false rI mX12_image 1 [.ref 253] μ (f_X12_image N μ) := by
  refine z_met.of (by decide +kernel) (by show _ ≤ _; first | decide | exact Nat.le_of_ble_eq_true rfl) (lv := [(0, .ref 253)]) rfl ?_
  unfold f_X12_image
  refine s_aload_n (pc := 0) 0 dX12_image_0 rfl rfl ?_
  refine s_iconst (pc := 1) (v := (0 : Int32)) dX12_image_1 (by decide) ?_
  refine s_putI (pc := 2) (ci := 12) (k := 105) dX12_image_2 fl_12_686 kd_253 rfl rfl (fun μ_1 => ?_)
  refine s_aload_n (pc := 5) 0 dX12_image_5 rfl rfl ?_
  refine s_aload_n (pc := 6) 0 dX12_image_6 rfl rfl ?_
  refine s_getR (pc := 7) (ci := 12) (k := 54) (r := 296) dX12_image_7 fl_12_142 kd_253 rfl rs_253_54 ?_
  refine s_iconst (pc := 10) (v := (0 : Int32)) dX12_image_10 (by decide) ?_
  refine s_ialdK (pc := 11) (k := 0) dX12_image_11 kd_296 (by decide) (by decide) (by decide) ?_
  refine s_sipush (pc := 12) (v := (256 : Int32)) dX12_image_12 (by decide) ?_
  refine s_idiv (pc := 15) dX12_image_15 ?_
  refine s_callVV (pc := 16) (as := [.int ((μ_1.1 296 0) / (256 : Int32))]) (st := []) dX12_image_16 lk_12_689 kd_253 (t_X12_writes N ((μ_1.1 296 0) / (256 : Int32)) μ_1) (by omega) rfl (by decide) rfl (fun _ μ_2 => ?_)
  refine s_aload_n (pc := 19) 0 dX12_image_19 rfl rfl ?_
  refine s_aload_n (pc := 20) 0 dX12_image_20 rfl rfl ?_
  refine s_getR (pc := 21) (ci := 12) (k := 54) (r := 296) dX12_image_21 fl_12_142 kd_253 rfl rs_253_54 ?_
  refine s_iconst (pc := 24) (v := (0 : Int32)) dX12_image_24 (by decide) ?_
  refine s_ialdK (pc := 25) (k := 0) dX12_image_25 kd_296 (by decide) (by decide) (by decide) ?_
  refine s_sipush (pc := 26) (v := (256 : Int32)) dX12_image_26 (by decide) ?_
  refine s_irem (pc := 29) dX12_image_29 ?_
  refine s_callVV (pc := 30) (as := [.int ((μ_2.1 296 0) - (μ_2.1 296 0) / (256 : Int32) * (256 : Int32))]) (st := []) dX12_image_30 lk_12_689 kd_253 (t_X12_writes N ((μ_2.1 296 0) - (μ_2.1 296 0) / (256 : Int32) * (256 : Int32)) μ_2) (by omega) rfl (by decide) rfl (fun _ μ_3 => ?_)
  refine s_iconst (pc := 33) (v := (0 : Int32)) dX12_image_33 (by decide) ?_
  refine s_istore_n (pc := 34) (lv' := [(1, .int (0 : Int32)), (0, .ref 253)]) dX12_image_34 rfl (by decide) rfl ?_
  refine s_sub (lv' := [(0, .ref 253), (1, .int (0 : Int32))]) [1, 0] rfl ?_
  refine t_X12_image_L35 N _ ?_ N (0 : Int32) μ_3
  · intro μ58
    refine s_iconst (pc := 58) (v := (0 : Int32)) dX12_image_58 (by decide) ?_
    refine s_istore_n (pc := 59) (lv' := [(1, .int (0 : Int32)), (0, .ref 253)]) dX12_image_59 rfl (by decide) rfl ?_
    refine s_sub (lv' := [(0, .ref 253), (1, .int (0 : Int32))]) [1, 0] rfl ?_
    refine t_X12_image_L60 N _ ?_ N (0 : Int32) μ58
    · intro μ86
      refine s_iconst (pc := 86) (v := (0 : Int32)) dX12_image_86 (by decide) ?_
      refine s_istore_n (pc := 87) (lv' := [(1, .int (0 : Int32)), (0, .ref 253)]) dX12_image_87 rfl (by decide) rfl ?_
      refine s_sub (lv' := [(0, .ref 253), (1, .int (0 : Int32))]) [1, 0] rfl ?_
      refine t_X12_image_L88 N _ ?_ N (0 : Int32) μ86
      · intro μ117
        refine s_aload_n (pc := 117) 0 dX12_image_117 rfl rfl ?_
        refine s_aload_n (pc := 118) 0 dX12_image_118 rfl rfl ?_
        refine s_getR (pc := 119) (ci := 12) (k := 104) (r := 333) dX12_image_119 fl_12_257 kd_253 rfl rs_253_104 ?_
        refine s_aload_n (pc := 122) 0 dX12_image_122 rfl rfl ?_
        refine s_getI (pc := 123) (ci := 12) (k := 105) dX12_image_123 fl_12_686 kd_253 rfl ?_
        refine s_callSI (pc := 126) (as := [.ref 333, .int (μ117.1 253 105)]) (st := [.ref 253]) dX12_image_126 lk_12_692 (t_X12_checked N 333 (μ117.1 253 105) μ117) (by omega) rfl (Nat.le_of_ble_eq_true rfl) rfl (fun x8 μ_11 => ?_)
        refine s_callVV (pc := 129) (as := [.int x8]) (st := []) dX12_image_129 lk_12_689 kd_253 (t_X12_writes N x8 μ_11) (by omega) rfl (by decide) rfl (fun _ μ_12 => ?_)
        refine s_aload_n (pc := 132) 0 dX12_image_132 rfl rfl ?_
        refine s_getI (pc := 133) (ci := 12) (k := 105) dX12_image_133 fl_12_686 kd_253 rfl ?_
        exact s_iret (pc := 136) rfl dX12_image_136 rfl
def f_X12_octet (N : Nat) (a1 : Int32) (μ : z_S) : Option (Int32 × z_S) :=
  if a1 < 0 then (some ((-1 : Int32), μ)) else if a1 < (μ.1 253 105) then (z_in a1 34 <| some ((μ.1 333 a1.toNatClampNeg), μ)) else some ((-1 : Int32), μ)
theorem t_X12_octet (N : Nat) (a1 : Int32) (μ : z_S) : z_met false rI mX12_octet 0 [.ref 253, .int a1] μ (f_X12_octet N a1 μ) := by
  refine z_met.of (by decide +kernel) (by show _ ≤ _; first | decide | exact Nat.le_of_ble_eq_true rfl) (lv := [(0, .ref 253), (1, .int a1)]) rfl ?_
  unfold f_X12_octet
  refine s_iload_n (pc := 0) 1 dX12_octet_0 rfl rfl ?_
  refine s_if_lt (pc := 1) (tgt := 21) dX12_octet_1 (by decide) ?_ ?_
  · refine s_iconst (pc := 21) (v := (-1 : Int32)) dX12_octet_21 (by decide) ?_
    exact s_iret (pc := 22) rfl dX12_octet_22 rfl
  · refine s_iload_n (pc := 4) 1 dX12_octet_4 rfl rfl ?_
    refine s_aload_n (pc := 5) 0 dX12_octet_5 rfl rfl ?_
    refine s_getI (pc := 6) (ci := 12) (k := 105) dX12_octet_6 fl_12_686 kd_253 rfl ?_
    refine s_icmp_ge (pc := 9) (tgt := 21) dX12_octet_9 (by decide) ?_ ?_
    · refine s_aload_n (pc := 12) 0 dX12_octet_12 rfl rfl ?_
      refine s_getR (pc := 13) (ci := 12) (k := 104) (r := 333) dX12_octet_13 fl_12_257 kd_253 rfl rs_253_104 ?_
      refine s_iload_n (pc := 16) 1 dX12_octet_16 rfl rfl ?_
      refine s_iald (pc := 17) dX12_octet_17 kd_333 ?_
      refine s_goto (pc := 18) (tgt := 22) dX12_octet_18 (by decide) ?_
      exact s_iret (pc := 22) rfl dX12_octet_22 rfl
    · refine s_iconst (pc := 21) (v := (-1 : Int32)) dX12_octet_21 (by decide) ?_
      exact s_iret (pc := 22) rfl dX12_octet_22 rfl
def f_X12_areLettersTold_B122 (N : Nat) (c1 : Int32) (c2 : Int32) (c3 : Int32) (kb : Int32 → z_S → Option (Int32 × z_S)) (e128 : z_S → Option (Int32 × z_S)) (v4 : Int32) (μ : z_S) : Option (Int32 × z_S) :=
  z_bd (v4 + 1) fun x5 => kb x5 μ
theorem t_X12_areLettersTold_B122 (N : Nat) (c1 : Int32) (c2 : Int32) (c3 : Int32)  (kb : Int32 → z_S → Option (Int32 × z_S)) (e128 : z_S → Option (Int32 × z_S)) (hkb : ∀ (a4 : Int32) (μ : z_S), z_sim false rI mX12_areLettersTold 1 (kb a4 μ) 61 [(0, .ref 253), (1, .int c1), (2, .int c2), (3, .int c3), (4, .int a4)] [] μ) (he128 : ∀  (μ : z_S), z_sim false rI mX12_areLettersTold 1 (e128 μ) 128 [(0, .ref 253), (1, .int c1), (2, .int c2)] [] μ) (v4 : Int32)  (μ : z_S) : z_sim false rI mX12_areLettersTold 1 (f_X12_areLettersTold_B122 N c1 c2 c3 kb e128 v4 μ) 122 [(0, .ref 253), (1, .int c1), (2, .int c2), (3, .int c3), (4, .int v4)] [] μ := by
  unfold f_X12_areLettersTold_B122
  refine s_iincB (pc := 122) (lv' := fun x5 => [(4, .int x5), (0, .ref 253), (1, .int c1), (2, .int c2), (3, .int c3)]) (c := 1) 4 dX12_areLettersTold_122 rfl (by decide) (by decide) (fun _ => rfl) (fun x5 => ?_)
  refine s_goto (pc := 125) (tgt := 61) dX12_areLettersTold_125 (by decide) ?_
  refine s_sub (lv' := [(0, .ref 253), (1, .int c1), (2, .int c2), (3, .int c3), (4, .int x5)]) [1, 2, 3, 4, 0] rfl ?_
  exact hkb x5 μ
def b_X12_areLettersTold_L61 (N : Nat) (c1 : Int32) (c2 : Int32) (c3 : Int32) (kb : Int32 → z_S → Option (Int32 × z_S)) (e128 : z_S → Option (Int32 × z_S)) (v4 : Int32) (μ : z_S) : Option (Int32 × z_S) :=
  if v4 < c2 then (z_in (c3 + (1 : Int32)) 1600 <| if 0 < (μ.1 254 (c3 + (1 : Int32)).toNatClampNeg) then (z_in (c3 + (1 : Int32)) 1600 <| z_in ((c1 + ((3 : Int32) * v4)) + (1 : Int32)) 1600 <| if (μ.1 254 (c3 + (1 : Int32)).toNatClampNeg) = (μ.1 254 ((c1 + ((3 : Int32) * v4)) + (1 : Int32)).toNatClampNeg) then (z_in ((8 : Int32) + c2) 16 <| if (((μ.1 289 ((8 : Int32) + c2).toNatClampNeg) >>> (v4 &&& 31)) &&& (1 : Int32)) = (1 : Int32) then (some ((0 : Int32), μ)) else f_X12_areLettersTold_B122 N c1 c2 c3 kb e128 v4 μ) else f_X12_areLettersTold_B122 N c1 c2 c3 kb e128 v4 μ) else f_X12_areLettersTold_B122 N c1 c2 c3 kb e128 v4 μ) else e128 μ
theorem tb_X12_areLettersTold_L61 (N : Nat) (c1 : Int32) (c2 : Int32) (c3 : Int32) (kb : Int32 → z_S → Option (Int32 × z_S)) (e128 : z_S → Option (Int32 × z_S)) (hkb : ∀ (a4 : Int32) (μ : z_S), z_sim false rI mX12_areLettersTold 1 (kb a4 μ) 61 [(0, .ref 253), (1, .int c1), (2, .int c2), (3, .int c3), (4, .int a4)] [] μ) (he128 : ∀ (μ : z_S), z_sim false rI mX12_areLettersTold 1 (e128 μ) 128 [(0, .ref 253), (1, .int c1), (2, .int c2)] [] μ) (v4 : Int32) (μ : z_S) : z_sim false rI mX12_areLettersTold 1 (b_X12_areLettersTold_L61 N c1 c2 c3 kb e128 v4 μ) 61 [(0, .ref 253), (1, .int c1), (2, .int c2), (3, .int c3), (4, .int v4)] [] μ := by
  unfold b_X12_areLettersTold_L61
  refine s_iload (pc := 61) 4 dX12_areLettersTold_61 rfl ?_
  refine s_iload_n (pc := 63) 2 dX12_areLettersTold_63 rfl rfl ?_
  refine s_icmp_ge (pc := 64) (tgt := 128) dX12_areLettersTold_64 (by decide) ?_ ?_
  · refine s_aload_n (pc := 67) 0 dX12_areLettersTold_67 rfl rfl ?_
    refine s_getR (pc := 68) (ci := 12) (k := 0) (r := 254) dX12_areLettersTold_68 fl_12_7 kd_253 rfl rs_253_0 ?_
    refine s_iload_n (pc := 71) 3 dX12_areLettersTold_71 rfl rfl ?_
    refine s_iconst (pc := 72) (v := (1 : Int32)) dX12_areLettersTold_72 (by decide) ?_
    refine s_iadd (pc := 73) dX12_areLettersTold_73 ?_
    refine s_iald (pc := 74) dX12_areLettersTold_74 kd_254 ?_
    refine s_if_le (pc := 75) (tgt := 122) dX12_areLettersTold_75 (by decide) ?_ ?_
    · refine s_aload_n (pc := 78) 0 dX12_areLettersTold_78 rfl rfl ?_
      refine s_getR (pc := 79) (ci := 12) (k := 0) (r := 254) dX12_areLettersTold_79 fl_12_7 kd_253 rfl rs_253_0 ?_
      refine s_iload_n (pc := 82) 3 dX12_areLettersTold_82 rfl rfl ?_
      refine s_iconst (pc := 83) (v := (1 : Int32)) dX12_areLettersTold_83 (by decide) ?_
      refine s_iadd (pc := 84) dX12_areLettersTold_84 ?_
      refine s_iald (pc := 85) dX12_areLettersTold_85 kd_254 ?_
      refine s_aload_n (pc := 86) 0 dX12_areLettersTold_86 rfl rfl ?_
      refine s_getR (pc := 87) (ci := 12) (k := 0) (r := 254) dX12_areLettersTold_87 fl_12_7 kd_253 rfl rs_253_0 ?_
      refine s_iload_n (pc := 90) 1 dX12_areLettersTold_90 rfl rfl ?_
      refine s_iconst (pc := 91) (v := (3 : Int32)) dX12_areLettersTold_91 (by decide) ?_
      refine s_iload (pc := 92) 4 dX12_areLettersTold_92 rfl ?_
      refine s_imul (pc := 94) dX12_areLettersTold_94 ?_
      refine s_iadd (pc := 95) dX12_areLettersTold_95 ?_
      refine s_iconst (pc := 96) (v := (1 : Int32)) dX12_areLettersTold_96 (by decide) ?_
      refine s_iadd (pc := 97) dX12_areLettersTold_97 ?_
      refine s_iald (pc := 98) dX12_areLettersTold_98 kd_254 ?_
      refine s_icmp_ne (pc := 99) (tgt := 122) dX12_areLettersTold_99 (by decide) ?_ ?_
      · refine s_aload_n (pc := 102) 0 dX12_areLettersTold_102 rfl rfl ?_
        refine s_getR (pc := 103) (ci := 12) (k := 44) (r := 289) dX12_areLettersTold_103 fl_12_121 kd_253 rfl rs_253_44 ?_
        refine s_bipush (pc := 106) (v := (8 : Int32)) dX12_areLettersTold_106 (by decide) ?_
        refine s_iload_n (pc := 108) 2 dX12_areLettersTold_108 rfl rfl ?_
        refine s_iadd (pc := 109) dX12_areLettersTold_109 ?_
        refine s_iald (pc := 110) dX12_areLettersTold_110 kd_289 ?_
        refine s_iload (pc := 111) 4 dX12_areLettersTold_111 rfl ?_
        refine s_ishr (pc := 113) dX12_areLettersTold_113 ?_
        refine s_iconst (pc := 114) (v := (1 : Int32)) dX12_areLettersTold_114 (by decide) ?_
        refine s_iand (pc := 115) dX12_areLettersTold_115 ?_
        refine s_iconst (pc := 116) (v := (1 : Int32)) dX12_areLettersTold_116 (by decide) ?_
        refine s_icmp_ne (pc := 117) (tgt := 122) dX12_areLettersTold_117 (by decide) ?_ ?_
        · refine s_iconst (pc := 120) (v := (0 : Int32)) dX12_areLettersTold_120 (by decide) ?_
          exact s_zret0 (pc := 121) dX12_areLettersTold_121 rfl rfl
        · exact t_X12_areLettersTold_B122 N c1 c2 c3 kb e128 hkb he128 v4 μ
      · exact t_X12_areLettersTold_B122 N c1 c2 c3 kb e128 hkb he128 v4 μ
    · exact t_X12_areLettersTold_B122 N c1 c2 c3 kb e128 hkb he128 v4 μ
  · refine s_sub (lv' := [(0, .ref 253), (1, .int c1), (2, .int c2)]) [0, 1, 2] rfl ?_
    exact he128 μ
def f_X12_areLettersTold_L61 (N : Nat) (c1 : Int32) (c2 : Int32) (c3 : Int32) (e128 : z_S → Option (Int32 × z_S)) : Nat → Int32 → z_S → Option (Int32 × z_S)
  | 0, _, _ => none
  | n + 1, v4, μ => b_X12_areLettersTold_L61 N c1 c2 c3 (f_X12_areLettersTold_L61 N c1 c2 c3 e128 n) e128 v4 μ
theorem t_X12_areLettersTold_L61 (N : Nat) (c1 : Int32) (c2 : Int32) (c3 : Int32) (e128 : z_S → Option (Int32 × z_S)) (he128 : ∀ (μ : z_S), z_sim false rI mX12_areLettersTold 1 (e128 μ) 128 [(0, .ref 253), (1, .int c1), (2, .int c2)] [] μ) : ∀ (n : Nat) (v4 : Int32) (μ : z_S), z_sim false rI mX12_areLettersTold 1 (f_X12_areLettersTold_L61 N c1 c2 c3 e128 n v4 μ) 61 [(0, .ref 253), (1, .int c1), (2, .int c2), (3, .int c3), (4, .int v4)] [] μ
  | 0, _, _ => s_none
  | n + 1, v4, μ => tb_X12_areLettersTold_L61 N c1 c2 c3 (f_X12_areLettersTold_L61 N c1 c2 c3 e128 n) e128 (t_X12_areLettersTold_L61 N c1 c2 c3 e128 he128 n) he128 v4 μ
def b_X12_areLettersTold_L2 (N : Nat) (c1 : Int32) (kb : Int32 → z_S → Option (Int32 × z_S)) (v2 : Int32) (μ : z_S) : Option (Int32 × z_S) :=
  z_bn (f_X12_letterMany N μ) fun x1 μ_1 => if v2 < x1 then (z_bd (c1 + ((3 : Int32) * v2)) fun x2 => z_in x2 1600 <| z_bn (f_X12_helperMany N μ_1) fun x3 μ_2 => if x3 < (μ_1.1 254 x2.toNatClampNeg) then (some ((0 : Int32), μ_2)) else z_in (x2 + (1 : Int32)) 1600 <| if (4 : Int32) < (μ_2.1 254 (x2 + (1 : Int32)).toNatClampNeg) then (some ((0 : Int32), μ_2)) else z_in (x2 + (2 : Int32)) 1600 <| z_bn (f_X12_giftMany N μ_2) fun x4 μ_3 => if x4 < (μ_2.1 254 (x2 + (2 : Int32)).toNatClampNeg) then (some ((0 : Int32), μ_3)) else f_X12_areLettersTold_L61 N c1 v2 x2 (fun μ128 => z_bd (v2 + 1) fun x6 => kb x6 μ128) N (0 : Int32) μ_3) else some ((1 : Int32), μ_1)
theorem tb_X12_areLettersTold_L2 (N : Nat) (c1 : Int32) (kb : Int32 → z_S → Option (Int32 × z_S)) (hkb : ∀ (a2 : Int32) (μ : z_S), z_sim false rI mX12_areLettersTold 1 (kb a2 μ) 2 [(0, .ref 253), (1, .int c1), (2, .int a2)] [] μ) (v2 : Int32) (μ : z_S) : z_sim false rI mX12_areLettersTold 1 (b_X12_areLettersTold_L2 N c1 kb v2 μ) 2 [(0, .ref 253), (1, .int c1), (2, .int v2)] [] μ := by
  unfold b_X12_areLettersTold_L2
  refine s_iload_n (pc := 2) 2 dX12_areLettersTold_2 rfl rfl ?_
  refine s_aload_n (pc := 3) 0 dX12_areLettersTold_3 rfl rfl ?_
  refine s_callVI (pc := 4) (as := []) (st := [.int v2]) dX12_areLettersTold_4 lk_12_419 kd_253 (t_X12_letterMany N μ) (by omega) rfl (Nat.le_of_ble_eq_true rfl) rfl (fun x1 μ_1 => ?_)
  refine s_icmp_ge (pc := 7) (tgt := 134) dX12_areLettersTold_7 (by decide) ?_ ?_
  · refine s_iload_n (pc := 10) 1 dX12_areLettersTold_10 rfl rfl ?_
    refine s_iconst (pc := 11) (v := (3 : Int32)) dX12_areLettersTold_11 (by decide) ?_
    refine s_iload_n (pc := 12) 2 dX12_areLettersTold_12 rfl rfl ?_
    refine s_imul (pc := 13) dX12_areLettersTold_13 ?_
    refine s_iadd (pc := 14) dX12_areLettersTold_14 ?_
    refine s_letI (fun x2 => ?_)
    refine s_istore_n (pc := 15) (lv' := [(3, .int x2), (0, .ref 253), (1, .int c1), (2, .int v2)]) dX12_areLettersTold_15 rfl (by decide) rfl ?_
    refine s_aload_n (pc := 16) 1 dX12_areLettersTold_16 rfl rfl ?_
    refine s_getR (pc := 17) (ci := 12) (k := 0) (r := 254) dX12_areLettersTold_17 fl_12_7 kd_253 rfl rs_253_0 ?_
    refine s_iload_n (pc := 20) 0 dX12_areLettersTold_20 rfl rfl ?_
    refine s_iald (pc := 21) dX12_areLettersTold_21 kd_254 ?_
    refine s_aload_n (pc := 22) 1 dX12_areLettersTold_22 rfl rfl ?_
    refine s_callVI (pc := 23) (as := []) (st := [.int (μ_1.1 254 x2.toNatClampNeg)]) dX12_areLettersTold_23 lk_12_422 kd_253 (t_X12_helperMany N μ_1) (by omega) rfl (Nat.le_of_ble_eq_true rfl) rfl (fun x3 μ_2 => ?_)
    refine s_icmp_gt (pc := 26) (tgt := 56) dX12_areLettersTold_26 (by decide) ?_ ?_
    · refine s_iconst (pc := 56) (v := (0 : Int32)) dX12_areLettersTold_56 (by decide) ?_
      exact s_zret0 (pc := 57) dX12_areLettersTold_57 rfl rfl
    · refine s_aload_n (pc := 29) 1 dX12_areLettersTold_29 rfl rfl ?_
      refine s_getR (pc := 30) (ci := 12) (k := 0) (r := 254) dX12_areLettersTold_30 fl_12_7 kd_253 rfl rs_253_0 ?_
      refine s_iload_n (pc := 33) 0 dX12_areLettersTold_33 rfl rfl ?_
      refine s_iconst (pc := 34) (v := (1 : Int32)) dX12_areLettersTold_34 (by decide) ?_
      refine s_iadd (pc := 35) dX12_areLettersTold_35 ?_
      refine s_iald (pc := 36) dX12_areLettersTold_36 kd_254 ?_
      refine s_iconst (pc := 37) (v := (4 : Int32)) dX12_areLettersTold_37 (by decide) ?_
      refine s_icmp_gt (pc := 38) (tgt := 56) dX12_areLettersTold_38 (by decide) ?_ ?_
      · refine s_iconst (pc := 56) (v := (0 : Int32)) dX12_areLettersTold_56 (by decide) ?_
        exact s_zret0 (pc := 57) dX12_areLettersTold_57 rfl rfl
      · refine s_aload_n (pc := 41) 1 dX12_areLettersTold_41 rfl rfl ?_
        refine s_getR (pc := 42) (ci := 12) (k := 0) (r := 254) dX12_areLettersTold_42 fl_12_7 kd_253 rfl rs_253_0 ?_
        refine s_iload_n (pc := 45) 0 dX12_areLettersTold_45 rfl rfl ?_
        refine s_iconst (pc := 46) (v := (2 : Int32)) dX12_areLettersTold_46 (by decide) ?_
        refine s_iadd (pc := 47) dX12_areLettersTold_47 ?_
        refine s_iald (pc := 48) dX12_areLettersTold_48 kd_254 ?_
        refine s_aload_n (pc := 49) 1 dX12_areLettersTold_49 rfl rfl ?_
        refine s_callVI (pc := 50) (as := []) (st := [.int (μ_2.1 254 (x2 + (2 : Int32)).toNatClampNeg)]) dX12_areLettersTold_50 lk_12_410 kd_253 (t_X12_giftMany N μ_2) (by omega) rfl (Nat.le_of_ble_eq_true rfl) rfl (fun x4 μ_3 => ?_)
        refine s_icmp_le (pc := 53) (tgt := 58) dX12_areLettersTold_53 (by decide) ?_ ?_
        · refine s_iconst (pc := 56) (v := (0 : Int32)) dX12_areLettersTold_56 (by decide) ?_
          exact s_zret0 (pc := 57) dX12_areLettersTold_57 rfl rfl
        · refine s_iconst (pc := 58) (v := (0 : Int32)) dX12_areLettersTold_58 (by decide) ?_
          refine s_istore (pc := 59) (lv' := [(4, .int (0 : Int32)), (3, .int x2), (0, .ref 253), (1, .int c1), (2, .int v2)]) dX12_areLettersTold_59 (by decide) rfl ?_
          refine s_sub (lv' := [(0, .ref 253), (1, .int c1), (2, .int v2), (3, .int x2), (4, .int (0 : Int32))]) [2, 3, 4, 1, 0] rfl ?_
          refine t_X12_areLettersTold_L61 N c1 v2 x2 _ ?_ N (0 : Int32) μ_3
          · intro μ128
            refine s_iincB (pc := 128) (lv' := fun x6 => [(2, .int x6), (0, .ref 253), (1, .int c1)]) (c := 1) 2 dX12_areLettersTold_128 rfl (by decide) (by decide) (fun _ => rfl) (fun x6 => ?_)
            refine s_goto (pc := 131) (tgt := 2) dX12_areLettersTold_131 (by decide) ?_
            refine s_sub (lv' := [(0, .ref 253), (1, .int c1), (2, .int x6)]) [1, 2, 0] rfl ?_
            exact hkb x6 μ128
  · refine s_iconst (pc := 134) (v := (1 : Int32)) dX12_areLettersTold_134 (by decide) ?_
    exact s_zret0 (pc := 135) dX12_areLettersTold_135 rfl rfl
def f_X12_areLettersTold_L2 (N : Nat) (c1 : Int32) : Nat → Int32 → z_S → Option (Int32 × z_S)
  | 0, _, _ => none
  | n + 1, v2, μ => b_X12_areLettersTold_L2 N c1 (f_X12_areLettersTold_L2 N c1 n) v2 μ
theorem t_X12_areLettersTold_L2 (N : Nat) (c1 : Int32) : ∀ (n : Nat) (v2 : Int32) (μ : z_S), z_sim false rI mX12_areLettersTold 1 (f_X12_areLettersTold_L2 N c1 n v2 μ) 2 [(0, .ref 253), (1, .int c1), (2, .int v2)] [] μ
  | 0, _, _ => s_none
  | n + 1, v2, μ => tb_X12_areLettersTold_L2 N c1 (f_X12_areLettersTold_L2 N c1 n) (t_X12_areLettersTold_L2 N c1 n) v2 μ
def f_X12_areLettersTold (N : Nat) (a1 : Int32) (μ : z_S) : Option (Int32 × z_S) :=
  f_X12_areLettersTold_L2 N a1 N (0 : Int32) μ
theorem t_X12_areLettersTold (N : Nat) (a1 : Int32) (μ : z_S) : z_met false rI mX12_areLettersTold 1 [.ref 253, .int a1] μ (f_X12_areLettersTold N a1 μ) := by
  refine z_met.of (by decide +kernel) (by show _ ≤ _; first | decide | exact Nat.le_of_ble_eq_true rfl) (lv := [(0, .ref 253), (1, .int a1)]) rfl ?_
  unfold f_X12_areLettersTold
  refine s_iconst (pc := 0) (v := (0 : Int32)) dX12_areLettersTold_0 (by decide) ?_
  refine s_istore_n (pc := 1) (lv' := [(2, .int (0 : Int32)), (0, .ref 253), (1, .int a1)]) dX12_areLettersTold_1 rfl (by decide) rfl ?_
  refine s_sub (lv' := [(0, .ref 253), (1, .int a1), (2, .int (0 : Int32))]) [1, 2, 0] rfl ?_
  refine t_X12_areLettersTold_L2 N a1 N (0 : Int32) μ
def b_X12_isImage_L77 (N : Nat) (c2 : Int32) (c3 : Int32) (kb : Int32 → z_S → Option (Int32 × z_S)) (e118 : z_S → Option (Int32 × z_S)) (v4 : Int32) (μ : z_S) : Option (Int32 × z_S) :=
  z_bn (f_X12_helperMany N μ) fun x7 μ_5 => if v4 < x7 then (z_in ((2 : Int32) + v4) 1600 <| z_in ((9 : Int32) + ((3 : Int32) * v4)) 18 <| if (μ_5.1 291 ((9 : Int32) + ((3 : Int32) * v4)).toNatClampNeg) < (μ_5.1 254 ((2 : Int32) + v4).toNatClampNeg) then (some ((0 : Int32), μ_5)) else z_bd (v4 + 1) fun x8 => kb x8 μ_5) else e118 μ_5
theorem tb_X12_isImage_L77 (N : Nat) (c2 : Int32) (c3 : Int32) (kb : Int32 → z_S → Option (Int32 × z_S)) (e118 : z_S → Option (Int32 × z_S)) (hkb : ∀ (a4 : Int32) (μ : z_S), z_sim false rI mX12_isImage 2 (kb a4 μ) 77 [(0, .ref 253), (2, .int c2), (3, .int c3), (4, .int a4)] [] μ) (he118 : ∀ (μ : z_S), z_sim false rI mX12_isImage 2 (e118 μ) 118 [(0, .ref 253), (2, .int c2), (3, .int c3)] [] μ) (v4 : Int32) (μ : z_S) : z_sim false rI mX12_isImage 2 (b_X12_isImage_L77 N c2 c3 kb e118 v4 μ) 77 [(0, .ref 253), (2, .int c2), (3, .int c3), (4, .int v4)] [] μ := by
  unfold b_X12_isImage_L77
  refine s_iload (pc := 77) 3 dX12_isImage_77 rfl ?_
  refine s_aload_n (pc := 79) 0 dX12_isImage_79 rfl rfl ?_
  refine s_callVI (pc := 80) (as := []) (st := [.int v4]) dX12_isImage_80 lk_12_422 kd_253 (t_X12_helperMany N μ) (by omega) rfl (Nat.le_of_ble_eq_true rfl) rfl (fun x7 μ_5 => ?_)
  refine s_icmp_ge (pc := 83) (tgt := 118) dX12_isImage_83 (by decide) ?_ ?_
  · refine s_aload_n (pc := 86) 0 dX12_isImage_86 rfl rfl ?_
    refine s_getR (pc := 87) (ci := 12) (k := 0) (r := 254) dX12_isImage_87 fl_12_7 kd_253 rfl rs_253_0 ?_
    refine s_iconst (pc := 90) (v := (2 : Int32)) dX12_isImage_90 (by decide) ?_
    refine s_iload (pc := 91) 3 dX12_isImage_91 rfl ?_
    refine s_iadd (pc := 93) dX12_isImage_93 ?_
    refine s_iald (pc := 94) dX12_isImage_94 kd_254 ?_
    refine s_aload_n (pc := 95) 0 dX12_isImage_95 rfl rfl ?_
    refine s_getR (pc := 96) (ci := 12) (k := 46) (r := 291) dX12_isImage_96 fl_12_127 kd_253 rfl rs_253_46 ?_
    refine s_bipush (pc := 99) (v := (9 : Int32)) dX12_isImage_99 (by decide) ?_
    refine s_iconst (pc := 101) (v := (3 : Int32)) dX12_isImage_101 (by decide) ?_
    refine s_iload (pc := 102) 3 dX12_isImage_102 rfl ?_
    refine s_imul (pc := 104) dX12_isImage_104 ?_
    refine s_iadd (pc := 105) dX12_isImage_105 ?_
    refine s_iald (pc := 106) dX12_isImage_106 kd_291 ?_
    refine s_icmp_le (pc := 107) (tgt := 112) dX12_isImage_107 (by decide) ?_ ?_
    · refine s_iconst (pc := 110) (v := (0 : Int32)) dX12_isImage_110 (by decide) ?_
      exact s_zret0 (pc := 111) dX12_isImage_111 rfl rfl
    · refine s_iincB (pc := 112) (lv' := fun x8 => [(4, .int x8), (0, .ref 253), (2, .int c2), (3, .int c3)]) (c := 1) 3 dX12_isImage_112 rfl (by decide) (by decide) (fun _ => rfl) (fun x8 => ?_)
      refine s_goto (pc := 115) (tgt := 77) dX12_isImage_115 (by decide) ?_
      refine s_sub (lv' := [(0, .ref 253), (2, .int c2), (3, .int c3), (4, .int x8)]) [1, 2, 3, 0] rfl ?_
      exact hkb x8 μ_5
  · refine s_sub (lv' := [(0, .ref 253), (2, .int c2), (3, .int c3)]) [0, 1, 2] rfl ?_
    exact he118 μ_5
def f_X12_isImage_L77 (N : Nat) (c2 : Int32) (c3 : Int32) (e118 : z_S → Option (Int32 × z_S)) : Nat → Int32 → z_S → Option (Int32 × z_S)
  | 0, _, _ => none
  | n + 1, v4, μ => b_X12_isImage_L77 N c2 c3 (f_X12_isImage_L77 N c2 c3 e118 n) e118 v4 μ
theorem t_X12_isImage_L77 (N : Nat) (c2 : Int32) (c3 : Int32) (e118 : z_S → Option (Int32 × z_S)) (he118 : ∀ (μ : z_S), z_sim false rI mX12_isImage 2 (e118 μ) 118 [(0, .ref 253), (2, .int c2), (3, .int c3)] [] μ) : ∀ (n : Nat) (v4 : Int32) (μ : z_S), z_sim false rI mX12_isImage 2 (f_X12_isImage_L77 N c2 c3 e118 n v4 μ) 77 [(0, .ref 253), (2, .int c2), (3, .int c3), (4, .int v4)] [] μ
  | 0, _, _ => s_none
  | n + 1, v4, μ => tb_X12_isImage_L77 N c2 c3 (f_X12_isImage_L77 N c2 c3 e118 n) e118 (t_X12_isImage_L77 N c2 c3 e118 he118 n) he118 v4 μ
def b_X12_isImage_L121 (N : Nat) (c2 : Int32) (c3 : Int32) (kb : Int32 → z_S → Option (Int32 × z_S)) (e159 : z_S → Option (Int32 × z_S)) (v4 : Int32) (μ : z_S) : Option (Int32 × z_S) :=
  z_bn (f_X12_giftMany N μ) fun x9 μ_6 => if v4 < x9 then (z_in (c2 + v4) 1600 <| z_in ((4 : Int32) + v4) 8 <| if (μ_6.1 287 ((4 : Int32) + v4).toNatClampNeg) < (μ_6.1 254 (c2 + v4).toNatClampNeg) then (some ((0 : Int32), μ_6)) else z_bd (v4 + 1) fun x10 => kb x10 μ_6) else e159 μ_6
theorem tb_X12_isImage_L121 (N : Nat) (c2 : Int32) (c3 : Int32) (kb : Int32 → z_S → Option (Int32 × z_S)) (e159 : z_S → Option (Int32 × z_S)) (hkb : ∀ (a4 : Int32) (μ : z_S), z_sim false rI mX12_isImage 2 (kb a4 μ) 121 [(0, .ref 253), (2, .int c2), (3, .int c3), (4, .int a4)] [] μ) (he159 : ∀ (μ : z_S), z_sim false rI mX12_isImage 2 (e159 μ) 159 [(0, .ref 253), (3, .int c3)] [] μ) (v4 : Int32) (μ : z_S) : z_sim false rI mX12_isImage 2 (b_X12_isImage_L121 N c2 c3 kb e159 v4 μ) 121 [(0, .ref 253), (2, .int c2), (3, .int c3), (4, .int v4)] [] μ := by
  unfold b_X12_isImage_L121
  refine s_iload (pc := 121) 3 dX12_isImage_121 rfl ?_
  refine s_aload_n (pc := 123) 0 dX12_isImage_123 rfl rfl ?_
  refine s_callVI (pc := 124) (as := []) (st := [.int v4]) dX12_isImage_124 lk_12_410 kd_253 (t_X12_giftMany N μ) (by omega) rfl (Nat.le_of_ble_eq_true rfl) rfl (fun x9 μ_6 => ?_)
  refine s_icmp_ge (pc := 127) (tgt := 159) dX12_isImage_127 (by decide) ?_ ?_
  · refine s_aload_n (pc := 130) 0 dX12_isImage_130 rfl rfl ?_
    refine s_getR (pc := 131) (ci := 12) (k := 0) (r := 254) dX12_isImage_131 fl_12_7 kd_253 rfl rs_253_0 ?_
    refine s_iload_n (pc := 134) 1 dX12_isImage_134 rfl rfl ?_
    refine s_iload (pc := 135) 3 dX12_isImage_135 rfl ?_
    refine s_iadd (pc := 137) dX12_isImage_137 ?_
    refine s_iald (pc := 138) dX12_isImage_138 kd_254 ?_
    refine s_aload_n (pc := 139) 0 dX12_isImage_139 rfl rfl ?_
    refine s_getR (pc := 140) (ci := 12) (k := 42) (r := 287) dX12_isImage_140 fl_12_115 kd_253 rfl rs_253_42 ?_
    refine s_iconst (pc := 143) (v := (4 : Int32)) dX12_isImage_143 (by decide) ?_
    refine s_iload (pc := 144) 3 dX12_isImage_144 rfl ?_
    refine s_iadd (pc := 146) dX12_isImage_146 ?_
    refine s_iald (pc := 147) dX12_isImage_147 kd_287 ?_
    refine s_icmp_le (pc := 148) (tgt := 153) dX12_isImage_148 (by decide) ?_ ?_
    · refine s_iconst (pc := 151) (v := (0 : Int32)) dX12_isImage_151 (by decide) ?_
      exact s_zret0 (pc := 152) dX12_isImage_152 rfl rfl
    · refine s_iincB (pc := 153) (lv' := fun x10 => [(4, .int x10), (0, .ref 253), (2, .int c2), (3, .int c3)]) (c := 1) 3 dX12_isImage_153 rfl (by decide) (by decide) (fun _ => rfl) (fun x10 => ?_)
      refine s_goto (pc := 156) (tgt := 121) dX12_isImage_156 (by decide) ?_
      refine s_sub (lv' := [(0, .ref 253), (2, .int c2), (3, .int c3), (4, .int x10)]) [1, 2, 3, 0] rfl ?_
      exact hkb x10 μ_6
  · refine s_sub (lv' := [(0, .ref 253), (3, .int c3)]) [0, 2] rfl ?_
    exact he159 μ_6
def f_X12_isImage_L121 (N : Nat) (c2 : Int32) (c3 : Int32) (e159 : z_S → Option (Int32 × z_S)) : Nat → Int32 → z_S → Option (Int32 × z_S)
  | 0, _, _ => none
  | n + 1, v4, μ => b_X12_isImage_L121 N c2 c3 (f_X12_isImage_L121 N c2 c3 e159 n) e159 v4 μ
theorem t_X12_isImage_L121 (N : Nat) (c2 : Int32) (c3 : Int32) (e159 : z_S → Option (Int32 × z_S)) (he159 : ∀ (μ : z_S), z_sim false rI mX12_isImage 2 (e159 μ) 159 [(0, .ref 253), (3, .int c3)] [] μ) : ∀ (n : Nat) (v4 : Int32) (μ : z_S), z_sim false rI mX12_isImage 2 (f_X12_isImage_L121 N c2 c3 e159 n v4 μ) 121 [(0, .ref 253), (2, .int c2), (3, .int c3), (4, .int v4)] [] μ
  | 0, _, _ => s_none
  | n + 1, v4, μ => tb_X12_isImage_L121 N c2 c3 (f_X12_isImage_L121 N c2 c3 e159 n) e159 (t_X12_isImage_L121 N c2 c3 e159 he159 n) he159 v4 μ
def f_X12_isImage (N : Nat) (a1 : Int32) (μ : z_S) : Option (Int32 × z_S) :=
  z_bn (f_X12_helperMany N μ) fun x1 μ_1 => z_bd ((2 : Int32) + x1) fun x2 => z_bn (f_X12_giftMany N μ_1) fun x3 μ_2 => z_bd (x2 + x3) fun x4 => z_bn (f_X12_letterMany N μ_2) fun x5 μ_3 => if a1 = ((x4 + ((3 : Int32) * x5)) + (1 : Int32)) then (z_in (a1 - (1 : Int32)) 1600 <| z_bn (f_X12_checked N 254 (a1 - (1 : Int32)) μ_3) fun x6 μ_4 => if (μ_3.1 254 (a1 - (1 : Int32)).toNatClampNeg) = x6 then (if (999 : Int32) < (((256 : Int32) * (μ_4.1 254 0)) + (μ_4.1 254 1)) then (some ((0 : Int32), μ_4)) else f_X12_isImage_L77 N x2 x4 (fun μ118 => f_X12_isImage_L121 N x2 x4 (fun μ159 => z_bn (f_X12_areLettersTold N x4 μ159) fun x11 μ_7 => z_zb x11 (some (x11, μ_7))) N (0 : Int32) μ118) N (0 : Int32) μ_4) else some ((0 : Int32), μ_4)) else some ((0 : Int32), μ_3)
theorem t_X12_isImage (N : Nat) (a1 : Int32) (μ : z_S) : z_met false rI mX12_isImage 2 [.ref 253, .int a1] μ (f_X12_isImage N a1 μ) := by
  refine z_met.of (by decide +kernel) (by show _ ≤ _; first | decide | exact Nat.le_of_ble_eq_true rfl) (lv := [(0, .ref 253), (1, .int a1)]) rfl ?_
  unfold f_X12_isImage
  refine s_iconst (pc := 0) (v := (2 : Int32)) dX12_isImage_0 (by decide) ?_
  refine s_aload_n (pc := 1) 0 dX12_isImage_1 rfl rfl ?_
  refine s_callVI (pc := 2) (as := []) (st := [.int (2 : Int32)]) dX12_isImage_2 lk_12_422 kd_253 (t_X12_helperMany N μ) (by omega) rfl (Nat.le_of_ble_eq_true rfl) rfl (fun x1 μ_1 => ?_)
  refine s_iadd (pc := 5) dX12_isImage_5 ?_
  refine s_letI (fun x2 => ?_)
  refine s_istore_n (pc := 6) (lv' := [(2, .int x2), (0, .ref 253), (1, .int a1)]) dX12_isImage_6 rfl (by decide) rfl ?_
  refine s_iload_n (pc := 7) 0 dX12_isImage_7 rfl rfl ?_
  refine s_aload_n (pc := 8) 1 dX12_isImage_8 rfl rfl ?_
  refine s_callVI (pc := 9) (as := []) (st := [.int x2]) dX12_isImage_9 lk_12_410 kd_253 (t_X12_giftMany N μ_1) (by omega) rfl (Nat.le_of_ble_eq_true rfl) rfl (fun x3 μ_2 => ?_)
  refine s_iadd (pc := 12) dX12_isImage_12 ?_
  refine s_letI (fun x4 => ?_)
  refine s_istore_n (pc := 13) (lv' := [(3, .int x4), (2, .int x2), (0, .ref 253), (1, .int a1)]) dX12_isImage_13 rfl (by decide) rfl ?_
  refine s_iload_n (pc := 14) 3 dX12_isImage_14 rfl rfl ?_
  refine s_iload_n (pc := 15) 0 dX12_isImage_15 rfl rfl ?_
  refine s_iconst (pc := 16) (v := (3 : Int32)) dX12_isImage_16 (by decide) ?_
  refine s_aload_n (pc := 17) 2 dX12_isImage_17 rfl rfl ?_
  refine s_callVI (pc := 18) (as := []) (st := [.int (3 : Int32), .int x4, .int a1]) dX12_isImage_18 lk_12_419 kd_253 (t_X12_letterMany N μ_2) (by omega) rfl (Nat.le_of_ble_eq_true rfl) rfl (fun x5 μ_3 => ?_)
  refine s_imul (pc := 21) dX12_isImage_21 ?_
  refine s_iadd (pc := 22) dX12_isImage_22 ?_
  refine s_iconst (pc := 23) (v := (1 : Int32)) dX12_isImage_23 (by decide) ?_
  refine s_iadd (pc := 24) dX12_isImage_24 ?_
  refine s_icmp_ne (pc := 25) (tgt := 72) dX12_isImage_25 (by decide) ?_ ?_
  · refine s_aload_n (pc := 28) 2 dX12_isImage_28 rfl rfl ?_
    refine s_getR (pc := 29) (ci := 12) (k := 0) (r := 254) dX12_isImage_29 fl_12_7 kd_253 rfl rs_253_0 ?_
    refine s_iload_n (pc := 32) 3 dX12_isImage_32 rfl rfl ?_
    refine s_iconst (pc := 33) (v := (1 : Int32)) dX12_isImage_33 (by decide) ?_
    refine s_isub (pc := 34) dX12_isImage_34 ?_
    refine s_iald (pc := 35) dX12_isImage_35 kd_254 ?_
    refine s_aload_n (pc := 36) 2 dX12_isImage_36 rfl rfl ?_
    refine s_getR (pc := 37) (ci := 12) (k := 0) (r := 254) dX12_isImage_37 fl_12_7 kd_253 rfl rs_253_0 ?_
    refine s_iload_n (pc := 40) 3 dX12_isImage_40 rfl rfl ?_
    refine s_iconst (pc := 41) (v := (1 : Int32)) dX12_isImage_41 (by decide) ?_
    refine s_isub (pc := 42) dX12_isImage_42 ?_
    refine s_callSI (pc := 43) (as := [.ref 254, .int (a1 - (1 : Int32))]) (st := [.int (μ_3.1 254 (a1 - (1 : Int32)).toNatClampNeg)]) dX12_isImage_43 lk_12_692 (t_X12_checked N 254 (a1 - (1 : Int32)) μ_3) (by omega) rfl (Nat.le_of_ble_eq_true rfl) rfl (fun x6 μ_4 => ?_)
    refine s_icmp_ne (pc := 46) (tgt := 72) dX12_isImage_46 (by decide) ?_ ?_
    · refine s_sipush (pc := 49) (v := (256 : Int32)) dX12_isImage_49 (by decide) ?_
      refine s_aload_n (pc := 52) 2 dX12_isImage_52 rfl rfl ?_
      refine s_getR (pc := 53) (ci := 12) (k := 0) (r := 254) dX12_isImage_53 fl_12_7 kd_253 rfl rs_253_0 ?_
      refine s_iconst (pc := 56) (v := (0 : Int32)) dX12_isImage_56 (by decide) ?_
      refine s_ialdK (pc := 57) (k := 0) dX12_isImage_57 kd_254 (by decide) (by decide) (by decide) ?_
      refine s_imul (pc := 58) dX12_isImage_58 ?_
      refine s_aload_n (pc := 59) 2 dX12_isImage_59 rfl rfl ?_
      refine s_getR (pc := 60) (ci := 12) (k := 0) (r := 254) dX12_isImage_60 fl_12_7 kd_253 rfl rs_253_0 ?_
      refine s_iconst (pc := 63) (v := (1 : Int32)) dX12_isImage_63 (by decide) ?_
      refine s_ialdK (pc := 64) (k := 1) dX12_isImage_64 kd_254 (by decide) (by decide) (by decide) ?_
      refine s_iadd (pc := 65) dX12_isImage_65 ?_
      refine s_sipush (pc := 66) (v := (999 : Int32)) dX12_isImage_66 (by decide) ?_
      refine s_icmp_le (pc := 69) (tgt := 74) dX12_isImage_69 (by decide) ?_ ?_
      · refine s_iconst (pc := 72) (v := (0 : Int32)) dX12_isImage_72 (by decide) ?_
        exact s_zret0 (pc := 73) dX12_isImage_73 rfl rfl
      · refine s_iconst (pc := 74) (v := (0 : Int32)) dX12_isImage_74 (by decide) ?_
        refine s_istore (pc := 75) (lv' := [(4, .int (0 : Int32)), (3, .int x4), (2, .int x2), (0, .ref 253), (1, .int a1)]) dX12_isImage_75 (by decide) rfl ?_
        refine s_sub (lv' := [(0, .ref 253), (2, .int x2), (3, .int x4), (4, .int (0 : Int32))]) [3, 2, 1, 0] rfl ?_
        refine t_X12_isImage_L77 N x2 x4 _ ?_ N (0 : Int32) μ_4
        · intro μ118
          refine s_iconst (pc := 118) (v := (0 : Int32)) dX12_isImage_118 (by decide) ?_
          refine s_istore (pc := 119) (lv' := [(4, .int (0 : Int32)), (0, .ref 253), (2, .int x2), (3, .int x4)]) dX12_isImage_119 (by decide) rfl ?_
          refine s_sub (lv' := [(0, .ref 253), (2, .int x2), (3, .int x4), (4, .int (0 : Int32))]) [1, 2, 3, 0] rfl ?_
          refine t_X12_isImage_L121 N x2 x4 _ ?_ N (0 : Int32) μ118
          · intro μ159
            refine s_aload_n (pc := 159) 0 dX12_isImage_159 rfl rfl ?_
            refine s_iload_n (pc := 160) 1 dX12_isImage_160 rfl rfl ?_
            refine s_callVI (pc := 161) (as := [.int x4]) (st := []) dX12_isImage_161 lk_12_696 kd_253 (t_X12_areLettersTold N x4 μ159) (by omega) rfl (by decide) rfl (fun x11 μ_7 => ?_)
            exact s_zret (pc := 164) dX12_isImage_164 rfl
    · refine s_iconst (pc := 72) (v := (0 : Int32)) dX12_isImage_72 (by decide) ?_
      exact s_zret0 (pc := 73) dX12_isImage_73 rfl rfl
  · refine s_iconst (pc := 72) (v := (0 : Int32)) dX12_isImage_72 (by decide) ?_
    exact s_zret0 (pc := 73) dX12_isImage_73 rfl rfl
def b_X12_on_L57 (N : Nat) (kb : Int32 → Int32 → z_S → Option (Int32 × z_S)) (e88 : Int32 → z_S → Option (Int32 × z_S)) (v2 : Int32) (v3 : Int32) (μ : z_S) : Option (Int32 × z_S) :=
  z_bn (f_X12_helperMany N μ) fun x3 μ_5 => if v3 < x3 then (z_in v2 1600 <| z_in ((1 : Int32) + v3) 32 <| z_bd (z_setI μ_5 296 ((1 : Int32) + v3).toNatClampNeg (μ_5.1 254 v2.toNatClampNeg)) fun μ_6 => z_bd (v2 + 1) fun x4 => z_bd (v3 + 1) fun x5 => kb x4 x5 μ_6) else e88 v2 μ_5
theorem tb_X12_on_L57 (N : Nat) (kb : Int32 → Int32 → z_S → Option (Int32 × z_S)) (e88 : Int32 → z_S → Option (Int32 × z_S)) (hkb : ∀ (a2 : Int32) (a3 : Int32) (μ : z_S), z_sim false rI mX12_on 3 (kb a2 a3 μ) 57 [(0, .ref 253), (2, .int a2), (3, .int a3)] [] μ) (he88 : ∀ (a2 : Int32) (μ : z_S), z_sim false rI mX12_on 3 (e88 a2 μ) 88 [(0, .ref 253), (2, .int a2)] [] μ) (v2 : Int32) (v3 : Int32) (μ : z_S) : z_sim false rI mX12_on 3 (b_X12_on_L57 N kb e88 v2 v3 μ) 57 [(0, .ref 253), (2, .int v2), (3, .int v3)] [] μ := by
  unfold b_X12_on_L57
  refine s_iload_n (pc := 57) 2 dX12_on_57 rfl rfl ?_
  refine s_aload_n (pc := 58) 0 dX12_on_58 rfl rfl ?_
  refine s_callVI (pc := 59) (as := []) (st := [.int v3]) dX12_on_59 lk_12_422 kd_253 (t_X12_helperMany N μ) (by omega) rfl (Nat.le_of_ble_eq_true rfl) rfl (fun x3 μ_5 => ?_)
  refine s_icmp_ge (pc := 62) (tgt := 88) dX12_on_62 (by decide) ?_ ?_
  · refine s_aload_n (pc := 65) 0 dX12_on_65 rfl rfl ?_
    refine s_getR (pc := 66) (ci := 12) (k := 54) (r := 296) dX12_on_66 fl_12_142 kd_253 rfl rs_253_54 ?_
    refine s_iconst (pc := 69) (v := (1 : Int32)) dX12_on_69 (by decide) ?_
    refine s_iload_n (pc := 70) 2 dX12_on_70 rfl rfl ?_
    refine s_iadd (pc := 71) dX12_on_71 ?_
    refine s_aload_n (pc := 72) 0 dX12_on_72 rfl rfl ?_
    refine s_getR (pc := 73) (ci := 12) (k := 0) (r := 254) dX12_on_73 fl_12_7 kd_253 rfl rs_253_0 ?_
    refine s_iload_n (pc := 76) 1 dX12_on_76 rfl rfl ?_
    refine s_iald (pc := 77) dX12_on_77 kd_254 ?_
    refine s_iast (pc := 78) dX12_on_78 kd_296 (fun μ_6 => ?_)
    refine s_iincB (pc := 79) (lv' := fun x4 => [(2, .int x4), (0, .ref 253), (3, .int v3)]) (c := 1) 1 dX12_on_79 rfl (by decide) (by decide) (fun _ => rfl) (fun x4 => ?_)
    refine s_iincB (pc := 82) (lv' := fun x5 => [(3, .int x5), (2, .int x4), (0, .ref 253)]) (c := 1) 2 dX12_on_82 rfl (by decide) (by decide) (fun _ => rfl) (fun x5 => ?_)
    refine s_goto (pc := 85) (tgt := 57) dX12_on_85 (by decide) ?_
    refine s_sub (lv' := [(0, .ref 253), (2, .int x4), (3, .int x5)]) [2, 1, 0] rfl ?_
    exact hkb x4 x5 μ_6
  · refine s_sub (lv' := [(0, .ref 253), (2, .int v2)]) [0, 1] rfl ?_
    exact he88 v2 μ_5
def f_X12_on_L57 (N : Nat) (e88 : Int32 → z_S → Option (Int32 × z_S)) : Nat → Int32 → Int32 → z_S → Option (Int32 × z_S)
  | 0, _, _, _ => none
  | n + 1, v2, v3, μ => b_X12_on_L57 N (f_X12_on_L57 N e88 n) e88 v2 v3 μ
theorem t_X12_on_L57 (N : Nat) (e88 : Int32 → z_S → Option (Int32 × z_S)) (he88 : ∀ (a2 : Int32) (μ : z_S), z_sim false rI mX12_on 3 (e88 a2 μ) 88 [(0, .ref 253), (2, .int a2)] [] μ) : ∀ (n : Nat) (v2 : Int32) (v3 : Int32) (μ : z_S), z_sim false rI mX12_on 3 (f_X12_on_L57 N e88 n v2 v3 μ) 57 [(0, .ref 253), (2, .int v2), (3, .int v3)] [] μ
  | 0, _, _, _ => s_none
  | n + 1, v2, v3, μ => tb_X12_on_L57 N (f_X12_on_L57 N e88 n) e88 (t_X12_on_L57 N e88 he88 n) he88 v2 v3 μ
def b_X12_on_L90 (N : Nat) (kb : Int32 → Int32 → z_S → Option (Int32 × z_S)) (e121 : Int32 → z_S → Option (Int32 × z_S)) (v2 : Int32) (v3 : Int32) (μ : z_S) : Option (Int32 × z_S) :=
  z_bn (f_X12_giftMany N μ) fun x6 μ_7 => if v3 < x6 then (z_in v2 1600 <| z_in ((4 : Int32) + v3) 32 <| z_bd (z_setI μ_7 296 ((4 : Int32) + v3).toNatClampNeg (μ_7.1 254 v2.toNatClampNeg)) fun μ_8 => z_bd (v2 + 1) fun x7 => z_bd (v3 + 1) fun x8 => kb x7 x8 μ_8) else e121 v2 μ_7
theorem tb_X12_on_L90 (N : Nat) (kb : Int32 → Int32 → z_S → Option (Int32 × z_S)) (e121 : Int32 → z_S → Option (Int32 × z_S)) (hkb : ∀ (a2 : Int32) (a3 : Int32) (μ : z_S), z_sim false rI mX12_on 3 (kb a2 a3 μ) 90 [(0, .ref 253), (2, .int a2), (3, .int a3)] [] μ) (he121 : ∀ (a2 : Int32) (μ : z_S), z_sim false rI mX12_on 3 (e121 a2 μ) 121 [(0, .ref 253), (2, .int a2)] [] μ) (v2 : Int32) (v3 : Int32) (μ : z_S) : z_sim false rI mX12_on 3 (b_X12_on_L90 N kb e121 v2 v3 μ) 90 [(0, .ref 253), (2, .int v2), (3, .int v3)] [] μ := by
  unfold b_X12_on_L90
  refine s_iload_n (pc := 90) 2 dX12_on_90 rfl rfl ?_
  refine s_aload_n (pc := 91) 0 dX12_on_91 rfl rfl ?_
  refine s_callVI (pc := 92) (as := []) (st := [.int v3]) dX12_on_92 lk_12_410 kd_253 (t_X12_giftMany N μ) (by omega) rfl (Nat.le_of_ble_eq_true rfl) rfl (fun x6 μ_7 => ?_)
  refine s_icmp_ge (pc := 95) (tgt := 121) dX12_on_95 (by decide) ?_ ?_
  · refine s_aload_n (pc := 98) 0 dX12_on_98 rfl rfl ?_
    refine s_getR (pc := 99) (ci := 12) (k := 54) (r := 296) dX12_on_99 fl_12_142 kd_253 rfl rs_253_54 ?_
    refine s_iconst (pc := 102) (v := (4 : Int32)) dX12_on_102 (by decide) ?_
    refine s_iload_n (pc := 103) 2 dX12_on_103 rfl rfl ?_
    refine s_iadd (pc := 104) dX12_on_104 ?_
    refine s_aload_n (pc := 105) 0 dX12_on_105 rfl rfl ?_
    refine s_getR (pc := 106) (ci := 12) (k := 0) (r := 254) dX12_on_106 fl_12_7 kd_253 rfl rs_253_0 ?_
    refine s_iload_n (pc := 109) 1 dX12_on_109 rfl rfl ?_
    refine s_iald (pc := 110) dX12_on_110 kd_254 ?_
    refine s_iast (pc := 111) dX12_on_111 kd_296 (fun μ_8 => ?_)
    refine s_iincB (pc := 112) (lv' := fun x7 => [(2, .int x7), (0, .ref 253), (3, .int v3)]) (c := 1) 1 dX12_on_112 rfl (by decide) (by decide) (fun _ => rfl) (fun x7 => ?_)
    refine s_iincB (pc := 115) (lv' := fun x8 => [(3, .int x8), (2, .int x7), (0, .ref 253)]) (c := 1) 2 dX12_on_115 rfl (by decide) (by decide) (fun _ => rfl) (fun x8 => ?_)
    refine s_goto (pc := 118) (tgt := 90) dX12_on_118 (by decide) ?_
    refine s_sub (lv' := [(0, .ref 253), (2, .int x7), (3, .int x8)]) [2, 1, 0] rfl ?_
    exact hkb x7 x8 μ_8
  · refine s_sub (lv' := [(0, .ref 253), (2, .int v2)]) [0, 1] rfl ?_
    exact he121 v2 μ_7
def f_X12_on_L90 (N : Nat) (e121 : Int32 → z_S → Option (Int32 × z_S)) : Nat → Int32 → Int32 → z_S → Option (Int32 × z_S)
  | 0, _, _, _ => none
  | n + 1, v2, v3, μ => b_X12_on_L90 N (f_X12_on_L90 N e121 n) e121 v2 v3 μ
theorem t_X12_on_L90 (N : Nat) (e121 : Int32 → z_S → Option (Int32 × z_S)) (he121 : ∀ (a2 : Int32) (μ : z_S), z_sim false rI mX12_on 3 (e121 a2 μ) 121 [(0, .ref 253), (2, .int a2)] [] μ) : ∀ (n : Nat) (v2 : Int32) (v3 : Int32) (μ : z_S), z_sim false rI mX12_on 3 (f_X12_on_L90 N e121 n v2 v3 μ) 90 [(0, .ref 253), (2, .int v2), (3, .int v3)] [] μ
  | 0, _, _, _ => s_none
  | n + 1, v2, v3, μ => tb_X12_on_L90 N (f_X12_on_L90 N e121 n) e121 (t_X12_on_L90 N e121 he121 n) he121 v2 v3 μ
def b_X12_on_L123 (N : Nat) (c2 : Int32) (kb : Int32 → z_S → Option (Int32 × z_S)) (e156 : z_S → Option (Int32 × z_S)) (v3 : Int32) (μ : z_S) : Option (Int32 × z_S) :=
  z_bn (f_X12_letterMany N μ) fun x9 μ_9 => if v3 < ((3 : Int32) * x9) then (z_in (c2 + v3) 1600 <| z_in ((8 : Int32) + v3) 32 <| z_bd (z_setI μ_9 296 ((8 : Int32) + v3).toNatClampNeg (μ_9.1 254 (c2 + v3).toNatClampNeg)) fun μ_10 => z_bd (v3 + 1) fun x10 => kb x10 μ_10) else e156 μ_9
theorem tb_X12_on_L123 (N : Nat) (c2 : Int32) (kb : Int32 → z_S → Option (Int32 × z_S)) (e156 : z_S → Option (Int32 × z_S)) (hkb : ∀ (a3 : Int32) (μ : z_S), z_sim false rI mX12_on 3 (kb a3 μ) 123 [(0, .ref 253), (2, .int c2), (3, .int a3)] [] μ) (he156 : ∀ (μ : z_S), z_sim false rI mX12_on 3 (e156 μ) 156 [(0, .ref 253)] [] μ) (v3 : Int32) (μ : z_S) : z_sim false rI mX12_on 3 (b_X12_on_L123 N c2 kb e156 v3 μ) 123 [(0, .ref 253), (2, .int c2), (3, .int v3)] [] μ := by
  unfold b_X12_on_L123
  refine s_iload_n (pc := 123) 2 dX12_on_123 rfl rfl ?_
  refine s_iconst (pc := 124) (v := (3 : Int32)) dX12_on_124 (by decide) ?_
  refine s_aload_n (pc := 125) 0 dX12_on_125 rfl rfl ?_
  refine s_callVI (pc := 126) (as := []) (st := [.int (3 : Int32), .int v3]) dX12_on_126 lk_12_419 kd_253 (t_X12_letterMany N μ) (by omega) rfl (Nat.le_of_ble_eq_true rfl) rfl (fun x9 μ_9 => ?_)
  refine s_imul (pc := 129) dX12_on_129 ?_
  refine s_icmp_ge (pc := 130) (tgt := 156) dX12_on_130 (by decide) ?_ ?_
  · refine s_aload_n (pc := 133) 0 dX12_on_133 rfl rfl ?_
    refine s_getR (pc := 134) (ci := 12) (k := 54) (r := 296) dX12_on_134 fl_12_142 kd_253 rfl rs_253_54 ?_
    refine s_bipush (pc := 137) (v := (8 : Int32)) dX12_on_137 (by decide) ?_
    refine s_iload_n (pc := 139) 2 dX12_on_139 rfl rfl ?_
    refine s_iadd (pc := 140) dX12_on_140 ?_
    refine s_aload_n (pc := 141) 0 dX12_on_141 rfl rfl ?_
    refine s_getR (pc := 142) (ci := 12) (k := 0) (r := 254) dX12_on_142 fl_12_7 kd_253 rfl rs_253_0 ?_
    refine s_iload_n (pc := 145) 1 dX12_on_145 rfl rfl ?_
    refine s_iload_n (pc := 146) 2 dX12_on_146 rfl rfl ?_
    refine s_iadd (pc := 147) dX12_on_147 ?_
    refine s_iald (pc := 148) dX12_on_148 kd_254 ?_
    refine s_iast (pc := 149) dX12_on_149 kd_296 (fun μ_10 => ?_)
    refine s_iincB (pc := 150) (lv' := fun x10 => [(3, .int x10), (0, .ref 253), (2, .int c2)]) (c := 1) 2 dX12_on_150 rfl (by decide) (by decide) (fun _ => rfl) (fun x10 => ?_)
    refine s_goto (pc := 153) (tgt := 123) dX12_on_153 (by decide) ?_
    refine s_sub (lv' := [(0, .ref 253), (2, .int c2), (3, .int x10)]) [1, 2, 0] rfl ?_
    exact hkb x10 μ_10
  · refine s_sub (lv' := [(0, .ref 253)]) [0] rfl ?_
    exact he156 μ_9
def f_X12_on_L123 (N : Nat) (c2 : Int32) (e156 : z_S → Option (Int32 × z_S)) : Nat → Int32 → z_S → Option (Int32 × z_S)
  | 0, _, _ => none
  | n + 1, v3, μ => b_X12_on_L123 N c2 (f_X12_on_L123 N c2 e156 n) e156 v3 μ
theorem t_X12_on_L123 (N : Nat) (c2 : Int32) (e156 : z_S → Option (Int32 × z_S)) (he156 : ∀ (μ : z_S), z_sim false rI mX12_on 3 (e156 μ) 156 [(0, .ref 253)] [] μ) : ∀ (n : Nat) (v3 : Int32) (μ : z_S), z_sim false rI mX12_on 3 (f_X12_on_L123 N c2 e156 n v3 μ) 123 [(0, .ref 253), (2, .int c2), (3, .int v3)] [] μ
  | 0, _, _ => s_none
  | n + 1, v3, μ => tb_X12_on_L123 N c2 (f_X12_on_L123 N c2 e156 n) e156 (t_X12_on_L123 N c2 e156 he156 n) he156 v3 μ
def f_X12_on (N : Nat) (μ : z_S) : Option (Int32 × z_S) :=
  z_bd (μ.1 253 1) fun x1 => z_bd (z_setI μ 253 1 (0 : Int32)) fun μ_1 => z_bn (f_X12_isImage N x1 μ_1) fun x2 μ_2 => if x2 = 0 then (z_bd (z_setI μ_2 255 5 ((μ_2.1 255 5) + (1 : Int32))) fun μ_3 => some ((0 : Int32), μ_3)) else z_bd (z_setI μ_2 296 0 (((256 : Int32) * (μ_2.1 254 0)) + (μ_2.1 254 1))) fun μ_4 => f_X12_on_L57 N (fun y88_2 μ88 => f_X12_on_L90 N (fun y121_2 μ121 => f_X12_on_L123 N y121_2 (fun μ156 => z_bd (z_setI μ156 253 68 (0 : Int32)) fun μ_11 => some ((1 : Int32), μ_11)) N (0 : Int32) μ121) N y88_2 (0 : Int32) μ88) N (2 : Int32) (0 : Int32) μ_4
theorem t_X12_on (N : Nat) (μ : z_S) : z_met false rI mX12_on 3 [.ref 253] μ (f_X12_on N μ) := by
  refine z_met.of (by decide +kernel) (by show _ ≤ _; first | decide | exact Nat.le_of_ble_eq_true rfl) (lv := [(0, .ref 253)]) rfl ?_
  unfold f_X12_on
  refine s_aload_n (pc := 0) 0 dX12_on_0 rfl rfl ?_
  refine s_getI (pc := 1) (ci := 12) (k := 1) dX12_on_1 fl_12_260 kd_253 rfl ?_
  refine s_letI (fun x1 => ?_)
  refine s_istore_n (pc := 4) (lv' := [(1, .int x1), (0, .ref 253)]) dX12_on_4 rfl (by decide) rfl ?_
  refine s_aload_n (pc := 5) 1 dX12_on_5 rfl rfl ?_
  refine s_iconst (pc := 6) (v := (0 : Int32)) dX12_on_6 (by decide) ?_
  refine s_putI (pc := 7) (ci := 12) (k := 1) dX12_on_7 fl_12_260 kd_253 rfl rfl (fun μ_1 => ?_)
  refine s_aload_n (pc := 10) 1 dX12_on_10 rfl rfl ?_
  refine s_iload_n (pc := 11) 0 dX12_on_11 rfl rfl ?_
  refine s_callVI (pc := 12) (as := [.int x1]) (st := []) dX12_on_12 lk_12_699 kd_253 (t_X12_isImage N x1 μ_1) (by omega) rfl (by decide) rfl (fun x2 μ_2 => ?_)
  refine s_if_ne (pc := 15) (tgt := 30) dX12_on_15 (by decide) ?_ ?_
  · refine s_aload_n (pc := 18) 1 dX12_on_18 rfl rfl ?_
    refine s_getR (pc := 19) (ci := 12) (k := 9) (r := 255) dX12_on_19 fl_12_17 kd_253 rfl rs_253_9 ?_
    refine s_iconst (pc := 22) (v := (5 : Int32)) dX12_on_22 (by decide) ?_
    refine s_dup2 (pc := 23) dX12_on_23 rfl rfl ?_
    refine s_ialdK (pc := 24) (k := 5) dX12_on_24 kd_255 (by decide) (by decide) (by decide) ?_
    refine s_iconst (pc := 25) (v := (1 : Int32)) dX12_on_25 (by decide) ?_
    refine s_iadd (pc := 26) dX12_on_26 ?_
    refine s_iastK (pc := 27) (k := 5) dX12_on_27 kd_255 (by decide) (by decide) (by decide) (fun μ_3 => ?_)
    refine s_iconst (pc := 28) (v := (0 : Int32)) dX12_on_28 (by decide) ?_
    exact s_zret0 (pc := 29) dX12_on_29 rfl rfl
  · refine s_aload_n (pc := 30) 1 dX12_on_30 rfl rfl ?_
    refine s_getR (pc := 31) (ci := 12) (k := 54) (r := 296) dX12_on_31 fl_12_142 kd_253 rfl rs_253_54 ?_
    refine s_iconst (pc := 34) (v := (0 : Int32)) dX12_on_34 (by decide) ?_
    refine s_sipush (pc := 35) (v := (256 : Int32)) dX12_on_35 (by decide) ?_
    refine s_aload_n (pc := 38) 1 dX12_on_38 rfl rfl ?_
    refine s_getR (pc := 39) (ci := 12) (k := 0) (r := 254) dX12_on_39 fl_12_7 kd_253 rfl rs_253_0 ?_
    refine s_iconst (pc := 42) (v := (0 : Int32)) dX12_on_42 (by decide) ?_
    refine s_ialdK (pc := 43) (k := 0) dX12_on_43 kd_254 (by decide) (by decide) (by decide) ?_
    refine s_imul (pc := 44) dX12_on_44 ?_
    refine s_aload_n (pc := 45) 1 dX12_on_45 rfl rfl ?_
    refine s_getR (pc := 46) (ci := 12) (k := 0) (r := 254) dX12_on_46 fl_12_7 kd_253 rfl rs_253_0 ?_
    refine s_iconst (pc := 49) (v := (1 : Int32)) dX12_on_49 (by decide) ?_
    refine s_ialdK (pc := 50) (k := 1) dX12_on_50 kd_254 (by decide) (by decide) (by decide) ?_
    refine s_iadd (pc := 51) dX12_on_51 ?_
    refine s_iastK (pc := 52) (k := 0) dX12_on_52 kd_296 (by decide) (by decide) (by decide) (fun μ_4 => ?_)
    refine s_iconst (pc := 53) (v := (2 : Int32)) dX12_on_53 (by decide) ?_
    refine s_istore_n (pc := 54) (lv' := [(2, .int (2 : Int32)), (1, .int x1), (0, .ref 253)]) dX12_on_54 rfl (by decide) rfl ?_
    refine s_iconst (pc := 55) (v := (0 : Int32)) dX12_on_55 (by decide) ?_
    refine s_istore_n (pc := 56) (lv' := [(3, .int (0 : Int32)), (2, .int (2 : Int32)), (1, .int x1), (0, .ref 253)]) dX12_on_56 rfl (by decide) rfl ?_
    refine s_sub (lv' := [(0, .ref 253), (2, .int (2 : Int32)), (3, .int (0 : Int32))]) [3, 1, 0] rfl ?_
    refine t_X12_on_L57 N _ ?_ N (2 : Int32) (0 : Int32) μ_4
    · intro y88_2 μ88
      refine s_iconst (pc := 88) (v := (0 : Int32)) dX12_on_88 (by decide) ?_
      refine s_istore_n (pc := 89) (lv' := [(3, .int (0 : Int32)), (0, .ref 253), (2, .int y88_2)]) dX12_on_89 rfl (by decide) rfl ?_
      refine s_sub (lv' := [(0, .ref 253), (2, .int y88_2), (3, .int (0 : Int32))]) [1, 2, 0] rfl ?_
      refine t_X12_on_L90 N _ ?_ N y88_2 (0 : Int32) μ88
      · intro y121_2 μ121
        refine s_iconst (pc := 121) (v := (0 : Int32)) dX12_on_121 (by decide) ?_
        refine s_istore_n (pc := 122) (lv' := [(3, .int (0 : Int32)), (0, .ref 253), (2, .int y121_2)]) dX12_on_122 rfl (by decide) rfl ?_
        refine s_sub (lv' := [(0, .ref 253), (2, .int y121_2), (3, .int (0 : Int32))]) [1, 2, 0] rfl ?_
        refine t_X12_on_L123 N y121_2 _ ?_ N (0 : Int32) μ121
        · intro μ156
          refine s_aload_n (pc := 156) 0 dX12_on_156 rfl rfl ?_
          refine s_iconst (pc := 157) (v := (0 : Int32)) dX12_on_157 (by decide) ?_
          refine s_putI (pc := 158) (ci := 12) (k := 68) dX12_on_158 fl_12_413 kd_253 rfl rfl (fun μ_11 => ?_)
          refine s_iconst (pc := 161) (v := (1 : Int32)) dX12_on_161 (by decide) ?_
          exact s_zret0 (pc := 162) dX12_on_162 rfl rfl
def f_X12_status (N : Nat) (a1 : Int32) (μ : z_S) : Option (Int32 × z_S) :=
  z_bn (f_X12_isIn N a1.toInt64 (0 : Int64) (5 : Int64) μ) fun x1 μ_1 => if x1 = 0 then (some ((-1 : Int32), μ_1)) else z_in a1 6 <| some ((μ_1.1 255 a1.toNatClampNeg), μ_1)
theorem t_X12_status (N : Nat) (a1 : Int32) (μ : z_S) : z_met false rI mX12_status 1 [.ref 253, .int a1] μ (f_X12_status N a1 μ) := by
  refine z_met.of (by decide +kernel) (by show _ ≤ _; first | decide | exact Nat.le_of_ble_eq_true rfl) (lv := [(0, .ref 253), (1, .int a1)]) rfl ?_
  unfold f_X12_status
  refine s_iload_n (pc := 0) 1 dX12_status_0 rfl rfl ?_
  refine s_i2l (pc := 1) dX12_status_1 ?_
  refine s_lconst (pc := 2) (v := (0 : Int64)) dX12_status_2 (by decide) ?_
  refine s_ldc2 (pc := 3) (v := (5 : Int64)) dX12_status_3 w_1859 ?_
  refine s_callSI (pc := 6) (as := [.long a1.toInt64, .long (0 : Int64), .long (5 : Int64)]) (st := []) dX12_status_6 lk_12_303 (t_X12_isIn N a1.toInt64 (0 : Int64) (5 : Int64) μ) (by omega) rfl (by decide) rfl (fun x1 μ_1 => ?_)
  refine s_if_eq (pc := 9) (tgt := 21) dX12_status_9 (by decide) ?_ ?_
  · refine s_iconst (pc := 21) (v := (-1 : Int32)) dX12_status_21 (by decide) ?_
    exact s_iret (pc := 22) rfl dX12_status_22 rfl
  · refine s_aload_n (pc := 12) 0 dX12_status_12 rfl rfl ?_
    refine s_getR (pc := 13) (ci := 12) (k := 9) (r := 255) dX12_status_13 fl_12_17 kd_253 rfl rs_253_9 ?_
    refine s_iload_n (pc := 16) 1 dX12_status_16 rfl rfl ?_
    refine s_iald (pc := 17) dX12_status_17 kd_255 ?_
    refine s_goto (pc := 18) (tgt := 22) dX12_status_18 (by decide) ?_
    exact s_iret (pc := 22) rfl dX12_status_22 rfl
