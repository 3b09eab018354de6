def f_J9_floorDiv_7cf53 (N : Nat) (a0 : Int32) (a1 : Int32) (μ : z_S) : Option (Int32 × z_S) :=
  z_nz a1 <| z_bd (a0 / a1) fun x1 => if (a0 ^^^ a1) < 0 then (if (x1 * a1) = a0 then (some (x1, μ)) else some ((x1 - (1 : Int32)), μ)) else some (x1, μ)
theorem t_J9_floorDiv_7cf53 (N : Nat) (a0 : Int32) (a1 : Int32) (μ : z_S) : z_met true rI mJ9_floorDiv_7cf53 0 [.int a0, .int a1] μ (f_J9_floorDiv_7cf53 N a0 a1 μ) := by
  refine z_met.of (by decide +kernel) (by show _ ≤ _; first | decide | exact Nat.le_of_ble_eq_true rfl) (lv := [(0, .int a0), (1, .int a1)]) rfl ?_
  unfold f_J9_floorDiv_7cf53
  refine s_iload_n (pc := 0) 0 dJ9_floorDiv_7cf53_0 rfl rfl ?_
  refine s_iload_n (pc := 1) 1 dJ9_floorDiv_7cf53_1 rfl rfl ?_
  refine s_idiv (pc := 2) dJ9_floorDiv_7cf53_2 ?_
  refine s_letI (fun x1 => ?_)
  refine s_istore_n (pc := 3) (lv' := [(2, .int x1), (0, .int a0), (1, .int a1)]) dJ9_floorDiv_7cf53_3 rfl (by decide) rfl ?_
  refine s_iload_n (pc := 4) 1 dJ9_floorDiv_7cf53_4 rfl rfl ?_
  refine s_iload_n (pc := 5) 2 dJ9_floorDiv_7cf53_5 rfl rfl ?_
  refine s_ixor (pc := 6) dJ9_floorDiv_7cf53_6 ?_
  refine s_if_ge (pc := 7) (tgt := 21) dJ9_floorDiv_7cf53_7 (by decide) ?_ ?_
  · refine s_iload_n (pc := 10) 0 dJ9_floorDiv_7cf53_10 rfl rfl ?_
    refine s_iload_n (pc := 11) 2 dJ9_floorDiv_7cf53_11 rfl rfl ?_
    refine s_imul (pc := 12) dJ9_floorDiv_7cf53_12 ?_
    refine s_iload_n (pc := 13) 1 dJ9_floorDiv_7cf53_13 rfl rfl ?_
    refine s_icmp_eq (pc := 14) (tgt := 21) dJ9_floorDiv_7cf53_14 (by decide) ?_ ?_
    · refine s_iload_n (pc := 21) 0 dJ9_floorDiv_7cf53_21 rfl rfl ?_
      exact s_iret (pc := 22) rfl dJ9_floorDiv_7cf53_22 rfl
    · refine s_iload_n (pc := 17) 0 dJ9_floorDiv_7cf53_17 rfl rfl ?_
      refine s_iconst (pc := 18) (v := (1 : Int32)) dJ9_floorDiv_7cf53_18 (by decide) ?_
      refine s_isub (pc := 19) dJ9_floorDiv_7cf53_19 ?_
      exact s_iret (pc := 20) rfl dJ9_floorDiv_7cf53_20 rfl
  · refine s_iload_n (pc := 21) 0 dJ9_floorDiv_7cf53_21 rfl rfl ?_
    exact s_iret (pc := 22) rfl dJ9_floorDiv_7cf53_22 rfl
def f_J9_max_7cf53 (N : Nat) (a0 : Int32) (a1 : Int32) (μ : z_S) : Option (Int32 × z_S) :=
  if a0 < a1 then (some (a1, μ)) else some (a0, μ)
theorem t_J9_max_7cf53 (N : Nat) (a0 : Int32) (a1 : Int32) (μ : z_S) : z_met true rI mJ9_max_7cf53 0 [.int a0, .int a1] μ (f_J9_max_7cf53 N a0 a1 μ) := by
  refine z_met.of (by decide +kernel) (by show _ ≤ _; first | decide | exact Nat.le_of_ble_eq_true rfl) (lv := [(0, .int a0), (1, .int a1)]) rfl ?_
  unfold f_J9_max_7cf53
  refine s_iload_n (pc := 0) 0 dJ9_max_7cf53_0 rfl rfl ?_
  refine s_iload_n (pc := 1) 1 dJ9_max_7cf53_1 rfl rfl ?_
  refine s_icmp_lt (pc := 2) (tgt := 9) dJ9_max_7cf53_2 (by decide) ?_ ?_
  · refine s_iload_n (pc := 9) 1 dJ9_max_7cf53_9 rfl rfl ?_
    exact s_iret (pc := 10) rfl dJ9_max_7cf53_10 rfl
  · refine s_iload_n (pc := 5) 0 dJ9_max_7cf53_5 rfl rfl ?_
    refine s_goto (pc := 6) (tgt := 10) dJ9_max_7cf53_6 (by decide) ?_
    exact s_iret (pc := 10) rfl dJ9_max_7cf53_10 rfl
def f_J9_max_f86c9 (N : Nat) (a0 : Int64) (a2 : Int64) (μ : z_S) : Option (Int64 × z_S) :=
  if a0 < a2 then (some (a2, μ)) else some (a0, μ)
theorem t_J9_max_f86c9 (N : Nat) (a0 : Int64) (a2 : Int64) (μ : z_S) : z_met true rJ mJ9_max_f86c9 0 [.long a0, .long a2] μ (f_J9_max_f86c9 N a0 a2 μ) := by
  refine z_met.of (by decide +kernel) (by show _ ≤ _; first | decide | exact Nat.le_of_ble_eq_true rfl) (lv := [(0, .long a0), (2, .long a2)]) rfl ?_
  unfold f_J9_max_f86c9
  refine s_lload_n (pc := 0) 0 dJ9_max_f86c9_0 rfl rfl ?_
  refine s_lload_n (pc := 1) 1 dJ9_max_f86c9_1 rfl rfl ?_
  refine s_lcmp_lt (pc := 2) (tgt := 10) dJ9_max_f86c9_2 dJ9_max_f86c9_3 (by decide) ?_ ?_
  · refine s_lload_n (pc := 10) 1 dJ9_max_f86c9_10 rfl rfl ?_
    exact s_lret (pc := 11) dJ9_max_f86c9_11 rfl
  · refine s_lload_n (pc := 6) 0 dJ9_max_f86c9_6 rfl rfl ?_
    refine s_goto (pc := 7) (tgt := 11) dJ9_max_f86c9_7 (by decide) ?_
    exact s_lret (pc := 11) dJ9_max_f86c9_11 rfl
def f_J9_min_7cf53 (N : Nat) (a0 : Int32) (a1 : Int32) (μ : z_S) : Option (Int32 × z_S) :=
  if a1 < a0 then (some (a1, μ)) else some (a0, μ)
theorem t_J9_min_7cf53 (N : Nat) (a0 : Int32) (a1 : Int32) (μ : z_S) : z_met true rI mJ9_min_7cf53 0 [.int a0, .int a1] μ (f_J9_min_7cf53 N a0 a1 μ) := by
  refine z_met.of (by decide +kernel) (by show _ ≤ _; first | decide | exact Nat.le_of_ble_eq_true rfl) (lv := [(0, .int a0), (1, .int a1)]) rfl ?_
  unfold f_J9_min_7cf53
  refine s_iload_n (pc := 0) 0 dJ9_min_7cf53_0 rfl rfl ?_
  refine s_iload_n (pc := 1) 1 dJ9_min_7cf53_1 rfl rfl ?_
  refine s_icmp_gt (pc := 2) (tgt := 9) dJ9_min_7cf53_2 (by decide) ?_ ?_
  · refine s_iload_n (pc := 9) 1 dJ9_min_7cf53_9 rfl rfl ?_
    exact s_iret (pc := 10) rfl dJ9_min_7cf53_10 rfl
  · refine s_iload_n (pc := 5) 0 dJ9_min_7cf53_5 rfl rfl ?_
    refine s_goto (pc := 6) (tgt := 10) dJ9_min_7cf53_6 (by decide) ?_
    exact s_iret (pc := 10) rfl dJ9_min_7cf53_10 rfl
def f_J9_min_f86c9 (N : Nat) (a0 : Int64) (a2 : Int64) (μ : z_S) : Option (Int64 × z_S) :=
  if a2 < a0 then (some (a2, μ)) else some (a0, μ)
theorem t_J9_min_f86c9 (N : Nat) (a0 : Int64) (a2 : Int64) (μ : z_S) : z_met true rJ mJ9_min_f86c9 0 [.long a0, .long a2] μ (f_J9_min_f86c9 N a0 a2 μ) := by
  refine z_met.of (by decide +kernel) (by show _ ≤ _; first | decide | exact Nat.le_of_ble_eq_true rfl) (lv := [(0, .long a0), (2, .long a2)]) rfl ?_
  unfold f_J9_min_f86c9
  refine s_lload_n (pc := 0) 0 dJ9_min_f86c9_0 rfl rfl ?_
  refine s_lload_n (pc := 1) 1 dJ9_min_f86c9_1 rfl rfl ?_
  refine s_lcmp_gt (pc := 2) (tgt := 10) dJ9_min_f86c9_2 dJ9_min_f86c9_3 (by decide) ?_ ?_
  · refine s_lload_n (pc := 10) 1 dJ9_min_f86c9_10 rfl rfl ?_
    exact s_lret (pc := 11) dJ9_min_f86c9_11 rfl
  · refine s_lload_n (pc := 6) 0 dJ9_min_f86c9_6 rfl rfl ?_
    refine s_goto (pc := 7) (tgt := 11) dJ9_min_f86c9_7 (by decide) ?_
    exact s_lret (pc := 11) dJ9_min_f86c9_11 rfl
