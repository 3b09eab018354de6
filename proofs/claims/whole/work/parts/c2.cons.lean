theorem kX4_init_4 (I : List (Nat × Nat × Int32)) (J : List (Nat × Nat × Int64)) (R : List (Nat × Nat × Nat)) : z_K mX4_init 0 3 78 [.ref 4] (aM 5 I J R) none (aM 8 I J ((4, 2, 7) :: ((4, 1, 6) :: ((4, 0, 5) :: R)))) := by
  refine z_K.of (by decide +kernel) (by show _ ≤ _; first | decide | exact Nat.le_of_ble_eq_true rfl) (lv := [(0, .ref 4)]) rfl ?_
  refine z_aload_n (Y := mX4_init) (pc := 0) 0 dX4_init_0 rfl rfl ?_
  refine z_obj (Y := mX4_init) (pc := 1) dX4_init_1 w_293 w_180 w_181 (by decide) ?_
  refine z_aload_n (Y := mX4_init) (pc := 4) 0 dX4_init_4 rfl rfl ?_
  refine z_bipush (Y := mX4_init) (pc := 5) (v := (10 : Int32)) dX4_init_5 (by decide) ?_
  refine y_newA (Y := mX4_init) (pc := 7) (t := 20) (N := 10) (n' := 6) (cs' := 1) (sl' := 10) dX4_init_7 rfl (by decide) (by decide) w_286 zk_5 (by decide) (by decide) (by decide) rfl rfl rfl (by decide) (by decide) ?_
  refine y_putF (Y := mX4_init) (pc := 9) dX4_init_9 ff_4_9 zk_4 rfl (by decide) rfl ?_
  refine z_aload_n (Y := mX4_init) (pc := 12) 0 dX4_init_12 rfl rfl ?_
  refine z_iconst (Y := mX4_init) (pc := 13) (v := (4 : Int32)) dX4_init_13 (by decide) ?_
  refine y_newA (Y := mX4_init) (pc := 14) (t := 20) (N := 4) (n' := 7) (cs' := 2) (sl' := 14) dX4_init_14 rfl (by decide) (by decide) w_286 zk_6 (by decide) (by decide) (by decide) rfl rfl rfl (by decide) (by decide) ?_
  refine y_putF (Y := mX4_init) (pc := 16) dX4_init_16 ff_4_15 zk_4 rfl (by decide) rfl ?_
  refine z_aload_n (Y := mX4_init) (pc := 19) 0 dX4_init_19 rfl rfl ?_
  refine z_bipush (Y := mX4_init) (pc := 20) (v := (64 : Int32)) dX4_init_20 (by decide) ?_
  refine y_newA (Y := mX4_init) (pc := 22) (t := 20) (N := 64) (n' := 8) (cs' := 3) (sl' := 78) dX4_init_22 rfl (by decide) (by decide) w_286 zk_7 (by decide) (by decide) (by decide) rfl rfl rfl (by decide) (by decide) ?_
  refine y_putF (Y := mX4_init) (pc := 24) dX4_init_24 ff_4_18 zk_4 rfl (by decide) rfl ?_
  exact z_vret (Y := mX4_init) (pc := 27) dX4_init_27 rfl (by decide) (by decide)
theorem kX1_init_8 (I : List (Nat × Nat × Int32)) (J : List (Nat × Nat × Int64)) (R : List (Nat × Nat × Nat)) : z_K mX1_init 0 12 830 [.ref 8, .ref 4] (aM 9 I J R) none (aM 21 I J ((8, 0, 4) :: ((8, 8, 20) :: ((8, 7, 19) :: ((8, 6, 18) :: ((8, 5, 14) :: (rowsL 14 3 ((8, 4, 10) :: (rowsL 10 3 ((8, 1, 9) :: R)))))))))) := by
  refine z_K.of (by decide +kernel) (by show _ ≤ _; first | decide | exact Nat.le_of_ble_eq_true rfl) (lv := [(0, .ref 8), (1, .ref 4)]) rfl ?_
  refine z_aload_n (Y := mX1_init) (pc := 0) 0 dX1_init_0 rfl rfl ?_
  refine z_obj (Y := mX1_init) (pc := 1) dX1_init_1 w_312 w_180 w_181 (by decide) ?_
  refine z_aload_n (Y := mX1_init) (pc := 4) 0 dX1_init_4 rfl rfl ?_
  refine z_bipush (Y := mX1_init) (pc := 5) (v := (8 : Int32)) dX1_init_5 (by decide) ?_
  refine y_newA (Y := mX1_init) (pc := 7) (t := 20) (N := 8) (n' := 10) (cs' := 1) (sl' := 8) dX1_init_7 rfl (by decide) (by decide) w_286 zk_9 (by decide) (by decide) (by decide) rfl rfl rfl (by decide) (by decide) ?_
  refine y_putF (Y := mX1_init) (pc := 9) dX1_init_9 ff_1_9 zk_8 rfl (by decide) rfl ?_
  refine z_aload_n (Y := mX1_init) (pc := 12) 0 dX1_init_12 rfl rfl ?_
  refine z_iconst (Y := mX1_init) (pc := 13) (v := (3 : Int32)) dX1_init_13 (by decide) ?_
  refine z_bipush (Y := mX1_init) (pc := 14) (v := (8 : Int32)) dX1_init_14 (by decide) ?_
  refine y_mul (Y := mX1_init) (pc := 16) (t := 23) (u := 20) (N := 3) (K := 8) (ty := .int) (n' := 14) (cs' := 5) (sl' := 35) dX1_init_16 (Or.inl ⟨rfl, rfl, rfl⟩) w_313 w_286 zk_10 zr_10 (by decide) (by decide) (by decide) (by decide) (by decide) (by decide) rfl rfl rfl (by decide) (by decide) ?_
  refine y_putF (Y := mX1_init) (pc := 20) dX1_init_20 ff_1_17 zk_8 rfl (by decide) rfl ?_
  refine z_aload_n (Y := mX1_init) (pc := 23) 0 dX1_init_23 rfl rfl ?_
  refine z_iconst (Y := mX1_init) (pc := 24) (v := (3 : Int32)) dX1_init_24 (by decide) ?_
  refine z_bipush (Y := mX1_init) (pc := 25) (v := (8 : Int32)) dX1_init_25 (by decide) ?_
  refine y_mul (Y := mX1_init) (pc := 27) (t := 24) (u := 21) (N := 3) (K := 8) (ty := .long) (n' := 18) (cs' := 9) (sl' := 62) dX1_init_27 (Or.inr ⟨rfl, rfl, rfl⟩) w_315 w_348 zk_14 zr_14 (by decide) (by decide) (by decide) (by decide) (by decide) (by decide) rfl rfl rfl (by decide) (by decide) ?_
  refine y_putF (Y := mX1_init) (pc := 31) dX1_init_31 ff_1_22 zk_8 rfl (by decide) rfl ?_
  refine z_aload_n (Y := mX1_init) (pc := 34) 0 dX1_init_34 rfl rfl ?_
  refine z_sipush (Y := mX1_init) (pc := 35) (v := (256 : Int32)) dX1_init_35 (by decide) ?_
  refine y_newA (Y := mX1_init) (pc := 38) (t := 20) (N := 256) (n' := 19) (cs' := 10) (sl' := 318) dX1_init_38 rfl (by decide) (by decide) w_286 zk_18 (by decide) (by decide) (by decide) rfl rfl rfl (by decide) (by decide) ?_
  refine y_putF (Y := mX1_init) (pc := 40) dX1_init_40 ff_1_25 zk_8 rfl (by decide) rfl ?_
  refine z_aload_n (Y := mX1_init) (pc := 43) 0 dX1_init_43 rfl rfl ?_
  refine z_sipush (Y := mX1_init) (pc := 44) (v := (256 : Int32)) dX1_init_44 (by decide) ?_
  refine y_newA (Y := mX1_init) (pc := 47) (t := 21) (N := 256) (n' := 20) (cs' := 11) (sl' := 574) dX1_init_47 rfl (by decide) (by decide) w_348 zk_19 (by decide) (by decide) (by decide) rfl rfl rfl (by decide) (by decide) ?_
  refine y_putF (Y := mX1_init) (pc := 49) dX1_init_49 ff_1_28 zk_8 rfl (by decide) rfl ?_
  refine z_aload_n (Y := mX1_init) (pc := 52) 0 dX1_init_52 rfl rfl ?_
  refine z_sipush (Y := mX1_init) (pc := 53) (v := (256 : Int32)) dX1_init_53 (by decide) ?_
  refine y_newA (Y := mX1_init) (pc := 56) (t := 21) (N := 256) (n' := 21) (cs' := 12) (sl' := 830) dX1_init_56 rfl (by decide) (by decide) w_348 zk_20 (by decide) (by decide) (by decide) rfl rfl rfl (by decide) (by decide) ?_
  refine y_putF (Y := mX1_init) (pc := 58) dX1_init_58 ff_1_32 zk_8 rfl (by decide) rfl ?_
  refine z_aload_n (Y := mX1_init) (pc := 61) 0 dX1_init_61 rfl rfl ?_
  refine z_aload_n (Y := mX1_init) (pc := 62) 1 dX1_init_62 rfl rfl ?_
  refine y_putF (Y := mX1_init) (pc := 63) dX1_init_63 ff_1_35 zk_8 rfl (by decide) rfl ?_
  exact z_vret (Y := mX1_init) (pc := 66) dX1_init_66 rfl (by decide) (by decide)
theorem kX6_init_21 (I : List (Nat × Nat × Int32)) (J : List (Nat × Nat × Int64)) (R : List (Nat × Nat × Nat)) : z_K mX6_init 0 12 2329 [.ref 21] (aM 22 I J R) none (aM 34 I J ((21, 3, 24) :: (rowsL 24 9 ((21, 2, 23) :: ((21, 0, 22) :: R))))) := by
  refine z_K.of (by decide +kernel) (by show _ ≤ _; first | decide | exact Nat.le_of_ble_eq_true rfl) (lv := [(0, .ref 21)]) rfl ?_
  refine z_aload_n (Y := mX6_init) (pc := 0) 0 dX6_init_0 rfl rfl ?_
  refine z_obj (Y := mX6_init) (pc := 1) dX6_init_1 w_354 w_180 w_181 (by decide) ?_
  refine z_aload_n (Y := mX6_init) (pc := 4) 0 dX6_init_4 rfl rfl ?_
  refine z_bipush (Y := mX6_init) (pc := 5) (v := (8 : Int32)) dX6_init_5 (by decide) ?_
  refine y_newA (Y := mX6_init) (pc := 7) (t := 20) (N := 8) (n' := 23) (cs' := 1) (sl' := 8) dX6_init_7 rfl (by decide) (by decide) w_286 zk_22 (by decide) (by decide) (by decide) rfl rfl rfl (by decide) (by decide) ?_
  refine y_putF (Y := mX6_init) (pc := 9) dX6_init_9 ff_6_9 zk_21 rfl (by decide) rfl ?_
  refine z_aload_n (Y := mX6_init) (pc := 12) 0 dX6_init_12 rfl rfl ?_
  refine z_bipush (Y := mX6_init) (pc := 13) (v := (8 : Int32)) dX6_init_13 (by decide) ?_
  refine y_newA (Y := mX6_init) (pc := 15) (t := 20) (N := 8) (n' := 24) (cs' := 2) (sl' := 16) dX6_init_15 rfl (by decide) (by decide) w_286 zk_23 (by decide) (by decide) (by decide) rfl rfl rfl (by decide) (by decide) ?_
  refine y_putF (Y := mX6_init) (pc := 17) dX6_init_17 ff_6_15 zk_21 rfl (by decide) rfl ?_
  refine z_aload_n (Y := mX6_init) (pc := 20) 0 dX6_init_20 rfl rfl ?_
  refine z_bipush (Y := mX6_init) (pc := 21) (v := (9 : Int32)) dX6_init_21 (by decide) ?_
  refine z_sipush (Y := mX6_init) (pc := 23) (v := (256 : Int32)) dX6_init_23 (by decide) ?_
  refine y_mul (Y := mX6_init) (pc := 26) (t := 23) (u := 20) (N := 9) (K := 256) (ty := .int) (n' := 34) (cs' := 12) (sl' := 2329) dX6_init_26 (Or.inl ⟨rfl, rfl, rfl⟩) w_355 w_286 zk_24 zr_24 (by decide) (by decide) (by decide) (by decide) (by decide) (by decide) rfl rfl rfl (by decide) (by decide) ?_
  refine y_putF (Y := mX6_init) (pc := 30) dX6_init_30 ff_6_20 zk_21 rfl (by decide) rfl ?_
  exact z_vret (Y := mX6_init) (pc := 33) dX6_init_33 rfl (by decide) (by decide)
theorem kX7_init_34 (I : List (Nat × Nat × Int32)) (J : List (Nat × Nat × Int64)) (R : List (Nat × Nat × Nat)) : z_K mX7_init 0 4 33 [.ref 34] (aM 35 I J R) none (aM 39 I J ((34, 5, 38) :: ((34, 4, 37) :: ((34, 1, 36) :: ((34, 0, 35) :: R))))) := by
  refine z_K.of (by decide +kernel) (by show _ ≤ _; first | decide | exact Nat.le_of_ble_eq_true rfl) (lv := [(0, .ref 34)]) rfl ?_
  refine z_aload_n (Y := mX7_init) (pc := 0) 0 dX7_init_0 rfl rfl ?_
  refine z_obj (Y := mX7_init) (pc := 1) dX7_init_1 w_376 w_180 w_181 (by decide) ?_
  refine z_aload_n (Y := mX7_init) (pc := 4) 0 dX7_init_4 rfl rfl ?_
  refine z_bipush (Y := mX7_init) (pc := 5) (v := (8 : Int32)) dX7_init_5 (by decide) ?_
  refine y_newA (Y := mX7_init) (pc := 7) (t := 20) (N := 8) (n' := 36) (cs' := 1) (sl' := 8) dX7_init_7 rfl (by decide) (by decide) w_286 zk_35 (by decide) (by decide) (by decide) rfl rfl rfl (by decide) (by decide) ?_
  refine y_putF (Y := mX7_init) (pc := 9) dX7_init_9 ff_7_9 zk_34 rfl (by decide) rfl ?_
  refine z_aload_n (Y := mX7_init) (pc := 12) 0 dX7_init_12 rfl rfl ?_
  refine z_bipush (Y := mX7_init) (pc := 13) (v := (8 : Int32)) dX7_init_13 (by decide) ?_
  refine y_newA (Y := mX7_init) (pc := 15) (t := 20) (N := 8) (n' := 37) (cs' := 2) (sl' := 16) dX7_init_15 rfl (by decide) (by decide) w_286 zk_36 (by decide) (by decide) (by decide) rfl rfl rfl (by decide) (by decide) ?_
  refine y_putF (Y := mX7_init) (pc := 17) dX7_init_17 ff_7_15 zk_34 rfl (by decide) rfl ?_
  refine z_aload_n (Y := mX7_init) (pc := 20) 0 dX7_init_20 rfl rfl ?_
  refine z_bipush (Y := mX7_init) (pc := 21) (v := (8 : Int32)) dX7_init_21 (by decide) ?_
  refine y_newA (Y := mX7_init) (pc := 23) (t := 20) (N := 8) (n' := 38) (cs' := 3) (sl' := 24) dX7_init_23 rfl (by decide) (by decide) w_286 zk_37 (by decide) (by decide) (by decide) rfl rfl rfl (by decide) (by decide) ?_
  refine y_putF (Y := mX7_init) (pc := 25) dX7_init_25 ff_7_18 zk_34 rfl (by decide) rfl ?_
  refine z_aload_n (Y := mX7_init) (pc := 28) 0 dX7_init_28 rfl rfl ?_
  refine z_bipush (Y := mX7_init) (pc := 29) (v := (9 : Int32)) dX7_init_29 (by decide) ?_
  refine y_newA (Y := mX7_init) (pc := 31) (t := 21) (N := 9) (n' := 39) (cs' := 4) (sl' := 33) dX7_init_31 rfl (by decide) (by decide) w_348 zk_38 (by decide) (by decide) (by decide) rfl rfl rfl (by decide) (by decide) ?_
  refine y_putF (Y := mX7_init) (pc := 33) dX7_init_33 ff_7_21 zk_34 rfl (by decide) rfl ?_
  exact z_vret (Y := mX7_init) (pc := 36) dX7_init_36 rfl (by decide) (by decide)
theorem kX8_init_39 (I : List (Nat × Nat × Int32)) (J : List (Nat × Nat × Int64)) (R : List (Nat × Nat × Nat)) : z_K mX8_init 1 5 31 [.ref 39] (aM 40 I J R) none (aM 45 (fillL 44 (-1 : Int32) 8 (fillL 42 (-1 : Int32) 8 I)) J ((39, 5, 44) :: ((39, 4, 43) :: ((39, 3, 42) :: ((39, 2, 41) :: ((39, 1, 40) :: R)))))) := by
  refine z_K.of (by decide +kernel) (by show _ ≤ _; first | decide | exact Nat.le_of_ble_eq_true rfl) (lv := [(0, .ref 39)]) rfl ?_
  refine z_aload_n (Y := mX8_init) (pc := 0) 0 dX8_init_0 rfl rfl ?_
  refine z_obj (Y := mX8_init) (pc := 1) dX8_init_1 w_408 w_180 w_181 (by decide) ?_
  refine z_aload_n (Y := mX8_init) (pc := 4) 0 dX8_init_4 rfl rfl ?_
  refine z_iconst (Y := mX8_init) (pc := 5) (v := (3 : Int32)) dX8_init_5 (by decide) ?_
  refine y_newA (Y := mX8_init) (pc := 6) (t := 20) (N := 3) (n' := 41) (cs' := 1) (sl' := 3) dX8_init_6 rfl (by decide) (by decide) w_286 zk_40 (by decide) (by decide) (by decide) rfl rfl rfl (by decide) (by decide) ?_
  refine y_putF (Y := mX8_init) (pc := 8) dX8_init_8 ff_8_9 zk_39 rfl (by decide) rfl ?_
  refine z_aload_n (Y := mX8_init) (pc := 11) 0 dX8_init_11 rfl rfl ?_
  refine z_iconst (Y := mX8_init) (pc := 12) (v := (4 : Int32)) dX8_init_12 (by decide) ?_
  refine y_newA (Y := mX8_init) (pc := 13) (t := 20) (N := 4) (n' := 42) (cs' := 2) (sl' := 7) dX8_init_13 rfl (by decide) (by decide) w_286 zk_41 (by decide) (by decide) (by decide) rfl rfl rfl (by decide) (by decide) ?_
  refine y_putF (Y := mX8_init) (pc := 15) dX8_init_15 ff_8_15 zk_39 rfl (by decide) rfl ?_
  refine z_aload_n (Y := mX8_init) (pc := 18) 0 dX8_init_18 rfl rfl ?_
  refine z_bipush (Y := mX8_init) (pc := 19) (v := (8 : Int32)) dX8_init_19 (by decide) ?_
  refine y_newA (Y := mX8_init) (pc := 21) (t := 20) (N := 8) (n' := 43) (cs' := 3) (sl' := 15) dX8_init_21 rfl (by decide) (by decide) w_286 zk_42 (by decide) (by decide) (by decide) rfl rfl rfl (by decide) (by decide) ?_
  refine y_putF (Y := mX8_init) (pc := 23) dX8_init_23 ff_8_18 zk_39 rfl (by decide) rfl ?_
  refine z_aload_n (Y := mX8_init) (pc := 26) 0 dX8_init_26 rfl rfl ?_
  refine z_bipush (Y := mX8_init) (pc := 27) (v := (8 : Int32)) dX8_init_27 (by decide) ?_
  refine y_newA (Y := mX8_init) (pc := 29) (t := 20) (N := 8) (n' := 44) (cs' := 4) (sl' := 23) dX8_init_29 rfl (by decide) (by decide) w_286 zk_43 (by decide) (by decide) (by decide) rfl rfl rfl (by decide) (by decide) ?_
  refine y_putF (Y := mX8_init) (pc := 31) dX8_init_31 ff_8_21 zk_39 rfl (by decide) rfl ?_
  refine z_aload_n (Y := mX8_init) (pc := 34) 0 dX8_init_34 rfl rfl ?_
  refine z_bipush (Y := mX8_init) (pc := 35) (v := (8 : Int32)) dX8_init_35 (by decide) ?_
  refine y_newA (Y := mX8_init) (pc := 37) (t := 20) (N := 8) (n' := 45) (cs' := 5) (sl' := 31) dX8_init_37 rfl (by decide) (by decide) w_286 zk_44 (by decide) (by decide) (by decide) rfl rfl rfl (by decide) (by decide) ?_
  refine y_putF (Y := mX8_init) (pc := 39) dX8_init_39 ff_8_24 zk_39 rfl (by decide) rfl ?_
  refine z_aload_n (Y := mX8_init) (pc := 42) 0 dX8_init_42 rfl rfl ?_
  refine y_getR (Y := mX8_init) (pc := 43) (r := 42) dX8_init_43 fl_8_18 zk_39 rfl (by decide) rfl rfl ?_
  refine z_iconst (Y := mX8_init) (pc := 46) (v := (-1 : Int32)) dX8_init_46 (by decide) ?_
  refine y_callS (Y := mX8_init) (pc := 47) (as := [.ref 42, .int (-1 : Int32)]) (st := []) dX8_init_47 lk_8_27 (kF (-1 : Int32) I J ((39, 5, 44) :: ((39, 4, 43) :: ((39, 3, 42) :: ((39, 2, 41) :: ((39, 1, 40) :: R))))) zk_42 (by decide) (by decide)) (by decide) (by decide) (by decide) rfl (by decide) rfl ?_
  refine z_aload_n (Y := mX8_init) (pc := 50) 0 dX8_init_50 rfl rfl ?_
  refine y_getR (Y := mX8_init) (pc := 51) (r := 44) dX8_init_51 fl_8_24 zk_39 rfl (by decide) rfl rfl ?_
  refine z_iconst (Y := mX8_init) (pc := 54) (v := (-1 : Int32)) dX8_init_54 (by decide) ?_
  refine y_callS (Y := mX8_init) (pc := 55) (as := [.ref 44, .int (-1 : Int32)]) (st := []) dX8_init_55 lk_8_27 (kF (-1 : Int32) (fillL 42 (-1 : Int32) 8 I) J ((39, 5, 44) :: ((39, 4, 43) :: ((39, 3, 42) :: ((39, 2, 41) :: ((39, 1, 40) :: R))))) zk_44 (by decide) (by decide)) (by decide) (by decide) (by decide) rfl (by decide) rfl ?_
  exact z_vret (Y := mX8_init) (pc := 58) dX8_init_58 rfl (by decide) (by decide)
theorem kX8_init_45 (I : List (Nat × Nat × Int32)) (J : List (Nat × Nat × Int64)) (R : List (Nat × Nat × Nat)) : z_K mX8_init 1 5 31 [.ref 45] (aM 46 I J R) none (aM 51 (fillL 50 (-1 : Int32) 8 (fillL 48 (-1 : Int32) 8 I)) J ((45, 5, 50) :: ((45, 4, 49) :: ((45, 3, 48) :: ((45, 2, 47) :: ((45, 1, 46) :: R)))))) := by
  refine z_K.of (by decide +kernel) (by show _ ≤ _; first | decide | exact Nat.le_of_ble_eq_true rfl) (lv := [(0, .ref 45)]) rfl ?_
  refine z_aload_n (Y := mX8_init) (pc := 0) 0 dX8_init_0 rfl rfl ?_
  refine z_obj (Y := mX8_init) (pc := 1) dX8_init_1 w_408 w_180 w_181 (by decide) ?_
  refine z_aload_n (Y := mX8_init) (pc := 4) 0 dX8_init_4 rfl rfl ?_
  refine z_iconst (Y := mX8_init) (pc := 5) (v := (3 : Int32)) dX8_init_5 (by decide) ?_
  refine y_newA (Y := mX8_init) (pc := 6) (t := 20) (N := 3) (n' := 47) (cs' := 1) (sl' := 3) dX8_init_6 rfl (by decide) (by decide) w_286 zk_46 (by decide) (by decide) (by decide) rfl rfl rfl (by decide) (by decide) ?_
  refine y_putF (Y := mX8_init) (pc := 8) dX8_init_8 ff_8_9 zk_45 rfl (by decide) rfl ?_
  refine z_aload_n (Y := mX8_init) (pc := 11) 0 dX8_init_11 rfl rfl ?_
  refine z_iconst (Y := mX8_init) (pc := 12) (v := (4 : Int32)) dX8_init_12 (by decide) ?_
  refine y_newA (Y := mX8_init) (pc := 13) (t := 20) (N := 4) (n' := 48) (cs' := 2) (sl' := 7) dX8_init_13 rfl (by decide) (by decide) w_286 zk_47 (by decide) (by decide) (by decide) rfl rfl rfl (by decide) (by decide) ?_
  refine y_putF (Y := mX8_init) (pc := 15) dX8_init_15 ff_8_15 zk_45 rfl (by decide) rfl ?_
  refine z_aload_n (Y := mX8_init) (pc := 18) 0 dX8_init_18 rfl rfl ?_
  refine z_bipush (Y := mX8_init) (pc := 19) (v := (8 : Int32)) dX8_init_19 (by decide) ?_
  refine y_newA (Y := mX8_init) (pc := 21) (t := 20) (N := 8) (n' := 49) (cs' := 3) (sl' := 15) dX8_init_21 rfl (by decide) (by decide) w_286 zk_48 (by decide) (by decide) (by decide) rfl rfl rfl (by decide) (by decide) ?_
  refine y_putF (Y := mX8_init) (pc := 23) dX8_init_23 ff_8_18 zk_45 rfl (by decide) rfl ?_
  refine z_aload_n (Y := mX8_init) (pc := 26) 0 dX8_init_26 rfl rfl ?_
  refine z_bipush (Y := mX8_init) (pc := 27) (v := (8 : Int32)) dX8_init_27 (by decide) ?_
  refine y_newA (Y := mX8_init) (pc := 29) (t := 20) (N := 8) (n' := 50) (cs' := 4) (sl' := 23) dX8_init_29 rfl (by decide) (by decide) w_286 zk_49 (by decide) (by decide) (by decide) rfl rfl rfl (by decide) (by decide) ?_
  refine y_putF (Y := mX8_init) (pc := 31) dX8_init_31 ff_8_21 zk_45 rfl (by decide) rfl ?_
  refine z_aload_n (Y := mX8_init) (pc := 34) 0 dX8_init_34 rfl rfl ?_
  refine z_bipush (Y := mX8_init) (pc := 35) (v := (8 : Int32)) dX8_init_35 (by decide) ?_
  refine y_newA (Y := mX8_init) (pc := 37) (t := 20) (N := 8) (n' := 51) (cs' := 5) (sl' := 31) dX8_init_37 rfl (by decide) (by decide) w_286 zk_50 (by decide) (by decide) (by decide) rfl rfl rfl (by decide) (by decide) ?_
  refine y_putF (Y := mX8_init) (pc := 39) dX8_init_39 ff_8_24 zk_45 rfl (by decide) rfl ?_
  refine z_aload_n (Y := mX8_init) (pc := 42) 0 dX8_init_42 rfl rfl ?_
  refine y_getR (Y := mX8_init) (pc := 43) (r := 48) dX8_init_43 fl_8_18 zk_45 rfl (by decide) rfl rfl ?_
  refine z_iconst (Y := mX8_init) (pc := 46) (v := (-1 : Int32)) dX8_init_46 (by decide) ?_
  refine y_callS (Y := mX8_init) (pc := 47) (as := [.ref 48, .int (-1 : Int32)]) (st := []) dX8_init_47 lk_8_27 (kF (-1 : Int32) I J ((45, 5, 50) :: ((45, 4, 49) :: ((45, 3, 48) :: ((45, 2, 47) :: ((45, 1, 46) :: R))))) zk_48 (by decide) (by decide)) (by decide) (by decide) (by decide) rfl (by decide) rfl ?_
  refine z_aload_n (Y := mX8_init) (pc := 50) 0 dX8_init_50 rfl rfl ?_
  refine y_getR (Y := mX8_init) (pc := 51) (r := 50) dX8_init_51 fl_8_24 zk_45 rfl (by decide) rfl rfl ?_
  refine z_iconst (Y := mX8_init) (pc := 54) (v := (-1 : Int32)) dX8_init_54 (by decide) ?_
  refine y_callS (Y := mX8_init) (pc := 55) (as := [.ref 50, .int (-1 : Int32)]) (st := []) dX8_init_55 lk_8_27 (kF (-1 : Int32) (fillL 48 (-1 : Int32) 8 I) J ((45, 5, 50) :: ((45, 4, 49) :: ((45, 3, 48) :: ((45, 2, 47) :: ((45, 1, 46) :: R))))) zk_50 (by decide) (by decide)) (by decide) (by decide) (by decide) rfl (by decide) rfl ?_
  exact z_vret (Y := mX8_init) (pc := 58) dX8_init_58 rfl (by decide) (by decide)
theorem kX0_init_88 (I : List (Nat × Nat × Int32)) (J : List (Nat × Nat × Int64)) (R : List (Nat × Nat × Nat)) : z_K mX0_init 0 1 1600 [.ref 88] (aM 89 I J R) none (aM 90 I J ((88, 0, 89) :: R)) := by
  refine z_K.of (by decide +kernel) (by show _ ≤ _; first | decide | exact Nat.le_of_ble_eq_true rfl) (lv := [(0, .ref 88)]) rfl ?_
  refine z_aload_n (Y := mX0_init) (pc := 0) 0 dX0_init_0 rfl rfl ?_
  refine z_obj (Y := mX0_init) (pc := 1) dX0_init_1 w_462 w_180 w_181 (by decide) ?_
  refine z_aload_n (Y := mX0_init) (pc := 4) 0 dX0_init_4 rfl rfl ?_
  refine z_sipush (Y := mX0_init) (pc := 5) (v := (1600 : Int32)) dX0_init_5 (by decide) ?_
  refine y_newA (Y := mX0_init) (pc := 8) (t := 20) (N := 1600) (n' := 90) (cs' := 1) (sl' := 1600) dX0_init_8 rfl (by decide) (by decide) w_286 zk_89 (by decide) (by decide) (by decide) rfl rfl rfl (by decide) (by decide) ?_
  refine y_putF (Y := mX0_init) (pc := 10) dX0_init_10 ff_0_9 zk_88 rfl (by decide) rfl ?_
  exact z_vret (Y := mX0_init) (pc := 13) dX0_init_13 rfl (by decide) (by decide)
theorem kX0_add_88_0 (I : List (Nat × Nat × Int32)) (J : List (Nat × Nat × Int64)) (R : List (Nat × Nat × Nat)) : z_K mX0_add 0 0 0 [.ref 88, .int (20 : Int32)] (aM 92 ((88, 1, (0 : Int32)) :: ((56, 16, (0 : Int32)) :: ((56, 15, (3 : Int32)) :: (fillL 83 (-1 : Int32) 8 (fillL 74 (0 : Int32) 4 (fillL 82 (-1 : Int32) 8 (fillL 73 (0 : Int32) 4 (fillL 81 (-1 : Int32) 8 (fillL 72 (0 : Int32) 4 (fillL 80 (-1 : Int32) 8 (fillL 71 (0 : Int32) 4 (fillL 79 (-1 : Int32) 8 (fillL 70 (0 : Int32) 4 (fillL 78 (-1 : Int32) 8 (fillL 69 (0 : Int32) 4 (fillL 77 (-1 : Int32) 8 (fillL 68 (0 : Int32) 4 (fillL 76 (-1 : Int32) 8 (fillL 67 (0 : Int32) 4 (fillL 65 (0 : Int32) 8 (fillL 57 (0 : Int32) 10 I))))))))))))))))))))) J ((56, 14, 91) :: ((56, 13, 90) :: ((56, 12, 88) :: ((88, 0, 89) :: ((56, 11, 87) :: ((56, 10, 86) :: ((56, 9, 85) :: ((56, 8, 84) :: ((56, 7, 75) :: (rowsL 75 8 ((56, 6, 66) :: (rowsL 66 8 ((56, 5, 65) :: ((56, 4, 64) :: ((56, 3, 63) :: ((56, 2, 62) :: ((56, 1, 58) :: (rowsL 58 3 ((56, 0, 57) :: R)))))))))))))))))))) none (aM 92 ((89, 0, (20 : Int32)) :: ((88, 1, (1 : Int32)) :: ((88, 1, (0 : Int32)) :: ((56, 16, (0 : Int32)) :: ((56, 15, (3 : Int32)) :: (fillL 83 (-1 : Int32) 8 (fillL 74 (0 : Int32) 4 (fillL 82 (-1 : Int32) 8 (fillL 73 (0 : Int32) 4 (fillL 81 (-1 : Int32) 8 (fillL 72 (0 : Int32) 4 (fillL 80 (-1 : Int32) 8 (fillL 71 (0 : Int32) 4 (fillL 79 (-1 : Int32) 8 (fillL 70 (0 : Int32) 4 (fillL 78 (-1 : Int32) 8 (fillL 69 (0 : Int32) 4 (fillL 77 (-1 : Int32) 8 (fillL 68 (0 : Int32) 4 (fillL 76 (-1 : Int32) 8 (fillL 67 (0 : Int32) 4 (fillL 65 (0 : Int32) 8 (fillL 57 (0 : Int32) 10 I))))))))))))))))))))))) J ((56, 14, 91) :: ((56, 13, 90) :: ((56, 12, 88) :: ((88, 0, 89) :: ((56, 11, 87) :: ((56, 10, 86) :: ((56, 9, 85) :: ((56, 8, 84) :: ((56, 7, 75) :: (rowsL 75 8 ((56, 6, 66) :: (rowsL 66 8 ((56, 5, 65) :: ((56, 4, 64) :: ((56, 3, 63) :: ((56, 2, 62) :: ((56, 1, 58) :: (rowsL 58 3 ((56, 0, 57) :: R)))))))))))))))))))) := by
  refine z_K.of (by decide +kernel) (by show _ ≤ _; first | decide | exact Nat.le_of_ble_eq_true rfl) (lv := [(0, .ref 88), (1, .int (20 : Int32))]) rfl ?_
  refine z_aload_n (Y := mX0_add) (pc := 0) 0 dX0_add_0 rfl rfl ?_
  refine y_getI (Y := mX0_add) (pc := 1) (x := (0 : Int32)) dX0_add_1 fl_0_15 zk_88 rfl (by decide) rfl rfl ?_
  refine z_aload_n (Y := mX0_add) (pc := 4) 0 dX0_add_4 rfl rfl ?_
  refine y_getR (Y := mX0_add) (pc := 5) (r := 89) dX0_add_5 fl_0_9 zk_88 rfl (by decide) rfl rfl ?_
  refine y_alen (Y := mX0_add) (pc := 8) (x := (1600 : Int32)) dX0_add_8 zk_89 (by decide) (by decide) (by decide) rfl ?_
  refine z_icmp_ge (Y := mX0_add) (pc := 9) (tgt := 29) dX0_add_9 (by decide) (fun h => absurd h (by decide)) (fun _ => ?_)
  refine z_aload_n (Y := mX0_add) (pc := 12) 0 dX0_add_12 rfl rfl ?_
  refine y_getR (Y := mX0_add) (pc := 13) (r := 89) dX0_add_13 fl_0_9 zk_88 rfl (by decide) rfl rfl ?_
  refine z_aload_n (Y := mX0_add) (pc := 16) 0 dX0_add_16 rfl rfl ?_
  refine z_dup (Y := mX0_add) (pc := 17) dX0_add_17 rfl ?_
  refine y_getI (Y := mX0_add) (pc := 18) (x := (0 : Int32)) dX0_add_18 fl_0_15 zk_88 rfl (by decide) rfl rfl ?_
  refine z_dup_x1 (Y := mX0_add) (pc := 21) dX0_add_21 rfl rfl ?_
  refine z_iconst (Y := mX0_add) (pc := 22) (v := (1 : Int32)) dX0_add_22 (by decide) ?_
  refine z_iadd (Y := mX0_add) (pc := 23) dX0_add_23 ?_
  show z_G mX0_add 0 0 0 none _ 24 [(0, .ref 88), (1, .int (20 : Int32))] [.int (1 : Int32), .ref 88, .int (0 : Int32), .ref 89] 0 0 (aM 92 ((88, 1, (0 : Int32)) :: ((56, 16, (0 : Int32)) :: ((56, 15, (3 : Int32)) :: (fillL 83 (-1 : Int32) 8 (fillL 74 (0 : Int32) 4 (fillL 82 (-1 : Int32) 8 (fillL 73 (0 : Int32) 4 (fillL 81 (-1 : Int32) 8 (fillL 72 (0 : Int32) 4 (fillL 80 (-1 : Int32) 8 (fillL 71 (0 : Int32) 4 (fillL 79 (-1 : Int32) 8 (fillL 70 (0 : Int32) 4 (fillL 78 (-1 : Int32) 8 (fillL 69 (0 : Int32) 4 (fillL 77 (-1 : Int32) 8 (fillL 68 (0 : Int32) 4 (fillL 76 (-1 : Int32) 8 (fillL 67 (0 : Int32) 4 (fillL 65 (0 : Int32) 8 (fillL 57 (0 : Int32) 10 I))))))))))))))))))))) J ((56, 14, 91) :: ((56, 13, 90) :: ((56, 12, 88) :: ((88, 0, 89) :: ((56, 11, 87) :: ((56, 10, 86) :: ((56, 9, 85) :: ((56, 8, 84) :: ((56, 7, 75) :: (rowsL 75 8 ((56, 6, 66) :: (rowsL 66 8 ((56, 5, 65) :: ((56, 4, 64) :: ((56, 3, 63) :: ((56, 2, 62) :: ((56, 1, 58) :: (rowsL 58 3 ((56, 0, 57) :: R))))))))))))))))))))
  refine y_putI (Y := mX0_add) (pc := 24) dX0_add_24 fl_0_15 zk_88 rfl (by decide) rfl rfl ?_
  refine z_iload_n (Y := mX0_add) (pc := 27) 1 dX0_add_27 rfl rfl ?_
  refine y_iast (Y := mX0_add) (pc := 28) (k := 0) dX0_add_28 zk_89 (by decide) (by unfold vp_in; decide) (by decide) ?_
  exact z_vret (Y := mX0_add) (pc := 29) dX0_add_29 rfl (by decide) (by decide)
theorem kX0_add_88_1 (I : List (Nat × Nat × Int32)) (J : List (Nat × Nat × Int64)) (R : List (Nat × Nat × Nat)) : z_K mX0_add 0 0 0 [.ref 88, .int (-4 : Int32)] (aM 92 ((89, 0, (20 : Int32)) :: ((88, 1, (1 : Int32)) :: ((88, 1, (0 : Int32)) :: ((56, 16, (0 : Int32)) :: ((56, 15, (3 : Int32)) :: (fillL 83 (-1 : Int32) 8 (fillL 74 (0 : Int32) 4 (fillL 82 (-1 : Int32) 8 (fillL 73 (0 : Int32) 4 (fillL 81 (-1 : Int32) 8 (fillL 72 (0 : Int32) 4 (fillL 80 (-1 : Int32) 8 (fillL 71 (0 : Int32) 4 (fillL 79 (-1 : Int32) 8 (fillL 70 (0 : Int32) 4 (fillL 78 (-1 : Int32) 8 (fillL 69 (0 : Int32) 4 (fillL 77 (-1 : Int32) 8 (fillL 68 (0 : Int32) 4 (fillL 76 (-1 : Int32) 8 (fillL 67 (0 : Int32) 4 (fillL 65 (0 : Int32) 8 (fillL 57 (0 : Int32) 10 I))))))))))))))))))))))) J ((56, 14, 91) :: ((56, 13, 90) :: ((56, 12, 88) :: ((88, 0, 89) :: ((56, 11, 87) :: ((56, 10, 86) :: ((56, 9, 85) :: ((56, 8, 84) :: ((56, 7, 75) :: (rowsL 75 8 ((56, 6, 66) :: (rowsL 66 8 ((56, 5, 65) :: ((56, 4, 64) :: ((56, 3, 63) :: ((56, 2, 62) :: ((56, 1, 58) :: (rowsL 58 3 ((56, 0, 57) :: R)))))))))))))))))))) none (aM 92 ((89, 1, (-4 : Int32)) :: ((88, 1, (2 : Int32)) :: ((89, 0, (20 : Int32)) :: ((88, 1, (1 : Int32)) :: ((88, 1, (0 : Int32)) :: ((56, 16, (0 : Int32)) :: ((56, 15, (3 : Int32)) :: (fillL 83 (-1 : Int32) 8 (fillL 74 (0 : Int32) 4 (fillL 82 (-1 : Int32) 8 (fillL 73 (0 : Int32) 4 (fillL 81 (-1 : Int32) 8 (fillL 72 (0 : Int32) 4 (fillL 80 (-1 : Int32) 8 (fillL 71 (0 : Int32) 4 (fillL 79 (-1 : Int32) 8 (fillL 70 (0 : Int32) 4 (fillL 78 (-1 : Int32) 8 (fillL 69 (0 : Int32) 4 (fillL 77 (-1 : Int32) 8 (fillL 68 (0 : Int32) 4 (fillL 76 (-1 : Int32) 8 (fillL 67 (0 : Int32) 4 (fillL 65 (0 : Int32) 8 (fillL 57 (0 : Int32) 10 I))))))))))))))))))))))))) J ((56, 14, 91) :: ((56, 13, 90) :: ((56, 12, 88) :: ((88, 0, 89) :: ((56, 11, 87) :: ((56, 10, 86) :: ((56, 9, 85) :: ((56, 8, 84) :: ((56, 7, 75) :: (rowsL 75 8 ((56, 6, 66) :: (rowsL 66 8 ((56, 5, 65) :: ((56, 4, 64) :: ((56, 3, 63) :: ((56, 2, 62) :: ((56, 1, 58) :: (rowsL 58 3 ((56, 0, 57) :: R)))))))))))))))))))) := by
  refine z_K.of (by decide +kernel) (by show _ ≤ _; first | decide | exact Nat.le_of_ble_eq_true rfl) (lv := [(0, .ref 88), (1, .int (-4 : Int32))]) rfl ?_
  refine z_aload_n (Y := mX0_add) (pc := 0) 0 dX0_add_0 rfl rfl ?_
  refine y_getI (Y := mX0_add) (pc := 1) (x := (1 : Int32)) dX0_add_1 fl_0_15 zk_88 rfl (by decide) rfl rfl ?_
  refine z_aload_n (Y := mX0_add) (pc := 4) 0 dX0_add_4 rfl rfl ?_
  refine y_getR (Y := mX0_add) (pc := 5) (r := 89) dX0_add_5 fl_0_9 zk_88 rfl (by decide) rfl rfl ?_
  refine y_alen (Y := mX0_add) (pc := 8) (x := (1600 : Int32)) dX0_add_8 zk_89 (by decide) (by decide) (by decide) rfl ?_
  refine z_icmp_ge (Y := mX0_add) (pc := 9) (tgt := 29) dX0_add_9 (by decide) (fun h => absurd h (by decide)) (fun _ => ?_)
  refine z_aload_n (Y := mX0_add) (pc := 12) 0 dX0_add_12 rfl rfl ?_
  refine y_getR (Y := mX0_add) (pc := 13) (r := 89) dX0_add_13 fl_0_9 zk_88 rfl (by decide) rfl rfl ?_
  refine z_aload_n (Y := mX0_add) (pc := 16) 0 dX0_add_16 rfl rfl ?_
  refine z_dup (Y := mX0_add) (pc := 17) dX0_add_17 rfl ?_
  refine y_getI (Y := mX0_add) (pc := 18) (x := (1 : Int32)) dX0_add_18 fl_0_15 zk_88 rfl (by decide) rfl rfl ?_
  refine z_dup_x1 (Y := mX0_add) (pc := 21) dX0_add_21 rfl rfl ?_
  refine z_iconst (Y := mX0_add) (pc := 22) (v := (1 : Int32)) dX0_add_22 (by decide) ?_
  refine z_iadd (Y := mX0_add) (pc := 23) dX0_add_23 ?_
  show z_G mX0_add 0 0 0 none _ 24 [(0, .ref 88), (1, .int (-4 : Int32))] [.int (2 : Int32), .ref 88, .int (1 : Int32), .ref 89] 0 0 (aM 92 ((89, 0, (20 : Int32)) :: ((88, 1, (1 : Int32)) :: ((88, 1, (0 : Int32)) :: ((56, 16, (0 : Int32)) :: ((56, 15, (3 : Int32)) :: (fillL 83 (-1 : Int32) 8 (fillL 74 (0 : Int32) 4 (fillL 82 (-1 : Int32) 8 (fillL 73 (0 : Int32) 4 (fillL 81 (-1 : Int32) 8 (fillL 72 (0 : Int32) 4 (fillL 80 (-1 : Int32) 8 (fillL 71 (0 : Int32) 4 (fillL 79 (-1 : Int32) 8 (fillL 70 (0 : Int32) 4 (fillL 78 (-1 : Int32) 8 (fillL 69 (0 : Int32) 4 (fillL 77 (-1 : Int32) 8 (fillL 68 (0 : Int32) 4 (fillL 76 (-1 : Int32) 8 (fillL 67 (0 : Int32) 4 (fillL 65 (0 : Int32) 8 (fillL 57 (0 : Int32) 10 I))))))))))))))))))))))) J ((56, 14, 91) :: ((56, 13, 90) :: ((56, 12, 88) :: ((88, 0, 89) :: ((56, 11, 87) :: ((56, 10, 86) :: ((56, 9, 85) :: ((56, 8, 84) :: ((56, 7, 75) :: (rowsL 75 8 ((56, 6, 66) :: (rowsL 66 8 ((56, 5, 65) :: ((56, 4, 64) :: ((56, 3, 63) :: ((56, 2, 62) :: ((56, 1, 58) :: (rowsL 58 3 ((56, 0, 57) :: R))))))))))))))))))))
  refine y_putI (Y := mX0_add) (pc := 24) dX0_add_24 fl_0_15 zk_88 rfl (by decide) rfl rfl ?_
  refine z_iload_n (Y := mX0_add) (pc := 27) 1 dX0_add_27 rfl rfl ?_
  refine y_iast (Y := mX0_add) (pc := 28) (k := 1) dX0_add_28 zk_89 (by decide) (by unfold vp_in; decide) (by decide) ?_
  exact z_vret (Y := mX0_add) (pc := 29) dX0_add_29 rfl (by decide) (by decide)
set_option maxRecDepth 100000 in
set_option maxHeartbeats 4000000 in
theorem kX2_clear_56_0_0 {M' : z_M} (I : List (Nat × Nat × Int32)) (J : List (Nat × Nat × Int64)) (R : List (Nat × Nat × Nat)) (k : z_G mX2_clear 1 0 0 none M' 39 [(1, .int (4 : Int32)), (0, .ref 56)] [.int (4 : Int32), .ref 75] 0 0 (aM 92 (fillL 71 (0 : Int32) 4 (fillL 79 (-1 : Int32) 8 (fillL 70 (0 : Int32) 4 (fillL 78 (-1 : Int32) 8 (fillL 69 (0 : Int32) 4 (fillL 77 (-1 : Int32) 8 (fillL 68 (0 : Int32) 4 (fillL 76 (-1 : Int32) 8 (fillL 67 (0 : Int32) 4 (fillL 65 (0 : Int32) 8 (fillL 57 (0 : Int32) 10 I))))))))))) J ((56, 14, 91) :: ((56, 13, 90) :: ((56, 12, 88) :: ((88, 0, 89) :: ((56, 11, 87) :: ((56, 10, 86) :: ((56, 9, 85) :: ((56, 8, 84) :: ((56, 7, 75) :: (rowsL 75 8 ((56, 6, 66) :: (rowsL 66 8 ((56, 5, 65) :: ((56, 4, 64) :: ((56, 3, 63) :: ((56, 2, 62) :: ((56, 1, 58) :: (rowsL 58 3 ((56, 0, 57) :: R))))))))))))))))))))) : z_G mX2_clear 1 0 0 none M' 0 [(0, .ref 56)] [] 0 0 (aM 92 I J ((56, 14, 91) :: ((56, 13, 90) :: ((56, 12, 88) :: ((88, 0, 89) :: ((56, 11, 87) :: ((56, 10, 86) :: ((56, 9, 85) :: ((56, 8, 84) :: ((56, 7, 75) :: (rowsL 75 8 ((56, 6, 66) :: (rowsL 66 8 ((56, 5, 65) :: ((56, 4, 64) :: ((56, 3, 63) :: ((56, 2, 62) :: ((56, 1, 58) :: (rowsL 58 3 ((56, 0, 57) :: R)))))))))))))))))))) := by
  refine z_aload_n (Y := mX2_clear) (pc := 0) 0 dX2_clear_0 rfl rfl ?_
  refine y_getR (Y := mX2_clear) (pc := 1) (r := 57) dX2_clear_1 fl_2_13 zk_56 rfl (by decide) rfl rfl ?_
  refine z_iconst (Y := mX2_clear) (pc := 4) (v := (0 : Int32)) dX2_clear_4 (by decide) ?_
  refine y_callS (Y := mX2_clear) (pc := 5) (as := [.ref 57, .int (0 : Int32)]) (st := []) dX2_clear_5 lk_2_69 (kF (0 : Int32) I J ((56, 14, 91) :: ((56, 13, 90) :: ((56, 12, 88) :: ((88, 0, 89) :: ((56, 11, 87) :: ((56, 10, 86) :: ((56, 9, 85) :: ((56, 8, 84) :: ((56, 7, 75) :: (rowsL 75 8 ((56, 6, 66) :: (rowsL 66 8 ((56, 5, 65) :: ((56, 4, 64) :: ((56, 3, 63) :: ((56, 2, 62) :: ((56, 1, 58) :: (rowsL 58 3 ((56, 0, 57) :: R))))))))))))))))))) zk_57 (by decide) (by decide)) (by decide) (by decide) (by decide) rfl (by decide) rfl ?_
  refine z_aload_n (Y := mX2_clear) (pc := 8) 0 dX2_clear_8 rfl rfl ?_
  refine y_getR (Y := mX2_clear) (pc := 9) (r := 65) dX2_clear_9 fl_2_32 zk_56 rfl (by decide) rfl rfl ?_
  refine z_iconst (Y := mX2_clear) (pc := 12) (v := (0 : Int32)) dX2_clear_12 (by decide) ?_
  refine y_callS (Y := mX2_clear) (pc := 13) (as := [.ref 65, .int (0 : Int32)]) (st := []) dX2_clear_13 lk_2_69 (kF (0 : Int32) (fillL 57 (0 : Int32) 10 I) J ((56, 14, 91) :: ((56, 13, 90) :: ((56, 12, 88) :: ((88, 0, 89) :: ((56, 11, 87) :: ((56, 10, 86) :: ((56, 9, 85) :: ((56, 8, 84) :: ((56, 7, 75) :: (rowsL 75 8 ((56, 6, 66) :: (rowsL 66 8 ((56, 5, 65) :: ((56, 4, 64) :: ((56, 3, 63) :: ((56, 2, 62) :: ((56, 1, 58) :: (rowsL 58 3 ((56, 0, 57) :: R))))))))))))))))))) zk_65 (by decide) (by decide)) (by decide) (by decide) (by decide) rfl (by decide) rfl ?_
  refine z_iconst (Y := mX2_clear) (pc := 16) (v := (0 : Int32)) dX2_clear_16 (by decide) ?_
  refine z_istore_n (Y := mX2_clear) (pc := 17) (lv' := [(1, .int (0 : Int32)), (0, .ref 56)]) dX2_clear_17 rfl (by decide) rfl ?_
  refine z_iload_n (Y := mX2_clear) (pc := 18) 0 dX2_clear_18 rfl rfl ?_
  refine z_bipush (Y := mX2_clear) (pc := 19) (v := (8 : Int32)) dX2_clear_19 (by decide) ?_
  refine z_icmp_ge (Y := mX2_clear) (pc := 21) (tgt := 50) dX2_clear_21 (by decide) (fun h => absurd h (by decide)) (fun _ => ?_)
  refine z_aload_n (Y := mX2_clear) (pc := 24) 1 dX2_clear_24 rfl rfl ?_
  refine y_getR (Y := mX2_clear) (pc := 25) (r := 66) dX2_clear_25 fl_2_35 zk_56 rfl (by decide) rfl rfl ?_
  refine z_iload_n (Y := mX2_clear) (pc := 28) 0 dX2_clear_28 rfl rfl ?_
  refine y_aald (Y := mX2_clear) (pc := 29) (k := 0) (r := 67) dX2_clear_29 zk_66 (by decide) (by decide) (by decide) (by unfold vp_in; decide) (by decide) rfl ?_
  refine z_iconst (Y := mX2_clear) (pc := 30) (v := (0 : Int32)) dX2_clear_30 (by decide) ?_
  refine y_callS (Y := mX2_clear) (pc := 31) (as := [.ref 67, .int (0 : Int32)]) (st := []) dX2_clear_31 lk_2_69 (kF (0 : Int32) (fillL 65 (0 : Int32) 8 (fillL 57 (0 : Int32) 10 I)) J ((56, 14, 91) :: ((56, 13, 90) :: ((56, 12, 88) :: ((88, 0, 89) :: ((56, 11, 87) :: ((56, 10, 86) :: ((56, 9, 85) :: ((56, 8, 84) :: ((56, 7, 75) :: (rowsL 75 8 ((56, 6, 66) :: (rowsL 66 8 ((56, 5, 65) :: ((56, 4, 64) :: ((56, 3, 63) :: ((56, 2, 62) :: ((56, 1, 58) :: (rowsL 58 3 ((56, 0, 57) :: R))))))))))))))))))) zk_67 (by decide) (by decide)) (by decide) (by decide) (by decide) rfl (by decide) rfl ?_
  refine z_aload_n (Y := mX2_clear) (pc := 34) 1 dX2_clear_34 rfl rfl ?_
  refine y_getR (Y := mX2_clear) (pc := 35) (r := 75) dX2_clear_35 fl_2_38 zk_56 rfl (by decide) rfl rfl ?_
  refine z_iload_n (Y := mX2_clear) (pc := 38) 0 dX2_clear_38 rfl rfl ?_
  refine y_aald (Y := mX2_clear) (pc := 39) (k := 0) (r := 76) dX2_clear_39 zk_75 (by decide) (by decide) (by decide) (by unfold vp_in; decide) (by decide) rfl ?_
  refine z_iconst (Y := mX2_clear) (pc := 40) (v := (-1 : Int32)) dX2_clear_40 (by decide) ?_
  refine y_callS (Y := mX2_clear) (pc := 41) (as := [.ref 76, .int (-1 : Int32)]) (st := []) dX2_clear_41 lk_2_69 (kF (-1 : Int32) (fillL 67 (0 : Int32) 4 (fillL 65 (0 : Int32) 8 (fillL 57 (0 : Int32) 10 I))) J ((56, 14, 91) :: ((56, 13, 90) :: ((56, 12, 88) :: ((88, 0, 89) :: ((56, 11, 87) :: ((56, 10, 86) :: ((56, 9, 85) :: ((56, 8, 84) :: ((56, 7, 75) :: (rowsL 75 8 ((56, 6, 66) :: (rowsL 66 8 ((56, 5, 65) :: ((56, 4, 64) :: ((56, 3, 63) :: ((56, 2, 62) :: ((56, 1, 58) :: (rowsL 58 3 ((56, 0, 57) :: R))))))))))))))))))) zk_76 (by decide) (by decide)) (by decide) (by decide) (by decide) rfl (by decide) rfl ?_
  refine z_iinc (Y := mX2_clear) (pc := 44) (v := (1 : Int32)) (lv' := [(1, .int (1 : Int32)), (0, .ref 56)]) 0 dX2_clear_44 rfl (by decide) (by decide) rfl ?_
  refine z_goto (Y := mX2_clear) (pc := 47) (tgt := 18) dX2_clear_47 (by decide) ?_
  refine z_iload_n (Y := mX2_clear) (pc := 18) 0 dX2_clear_18 rfl rfl ?_
  refine z_bipush (Y := mX2_clear) (pc := 19) (v := (8 : Int32)) dX2_clear_19 (by decide) ?_
  refine z_icmp_ge (Y := mX2_clear) (pc := 21) (tgt := 50) dX2_clear_21 (by decide) (fun h => absurd h (by decide)) (fun _ => ?_)
  refine z_aload_n (Y := mX2_clear) (pc := 24) 1 dX2_clear_24 rfl rfl ?_
  refine y_getR (Y := mX2_clear) (pc := 25) (r := 66) dX2_clear_25 fl_2_35 zk_56 rfl (by decide) rfl rfl ?_
  refine z_iload_n (Y := mX2_clear) (pc := 28) 0 dX2_clear_28 rfl rfl ?_
  refine y_aald (Y := mX2_clear) (pc := 29) (k := 1) (r := 68) dX2_clear_29 zk_66 (by decide) (by decide) (by decide) (by unfold vp_in; decide) (by decide) rfl ?_
  refine z_iconst (Y := mX2_clear) (pc := 30) (v := (0 : Int32)) dX2_clear_30 (by decide) ?_
  refine y_callS (Y := mX2_clear) (pc := 31) (as := [.ref 68, .int (0 : Int32)]) (st := []) dX2_clear_31 lk_2_69 (kF (0 : Int32) (fillL 76 (-1 : Int32) 8 (fillL 67 (0 : Int32) 4 (fillL 65 (0 : Int32) 8 (fillL 57 (0 : Int32) 10 I)))) J ((56, 14, 91) :: ((56, 13, 90) :: ((56, 12, 88) :: ((88, 0, 89) :: ((56, 11, 87) :: ((56, 10, 86) :: ((56, 9, 85) :: ((56, 8, 84) :: ((56, 7, 75) :: (rowsL 75 8 ((56, 6, 66) :: (rowsL 66 8 ((56, 5, 65) :: ((56, 4, 64) :: ((56, 3, 63) :: ((56, 2, 62) :: ((56, 1, 58) :: (rowsL 58 3 ((56, 0, 57) :: R))))))))))))))))))) zk_68 (by decide) (by decide)) (by decide) (by decide) (by decide) rfl (by decide) rfl ?_
  refine z_aload_n (Y := mX2_clear) (pc := 34) 1 dX2_clear_34 rfl rfl ?_
  refine y_getR (Y := mX2_clear) (pc := 35) (r := 75) dX2_clear_35 fl_2_38 zk_56 rfl (by decide) rfl rfl ?_
  refine z_iload_n (Y := mX2_clear) (pc := 38) 0 dX2_clear_38 rfl rfl ?_
  refine y_aald (Y := mX2_clear) (pc := 39) (k := 1) (r := 77) dX2_clear_39 zk_75 (by decide) (by decide) (by decide) (by unfold vp_in; decide) (by decide) rfl ?_
  refine z_iconst (Y := mX2_clear) (pc := 40) (v := (-1 : Int32)) dX2_clear_40 (by decide) ?_
  refine y_callS (Y := mX2_clear) (pc := 41) (as := [.ref 77, .int (-1 : Int32)]) (st := []) dX2_clear_41 lk_2_69 (kF (-1 : Int32) (fillL 68 (0 : Int32) 4 (fillL 76 (-1 : Int32) 8 (fillL 67 (0 : Int32) 4 (fillL 65 (0 : Int32) 8 (fillL 57 (0 : Int32) 10 I))))) J ((56, 14, 91) :: ((56, 13, 90) :: ((56, 12, 88) :: ((88, 0, 89) :: ((56, 11, 87) :: ((56, 10, 86) :: ((56, 9, 85) :: ((56, 8, 84) :: ((56, 7, 75) :: (rowsL 75 8 ((56, 6, 66) :: (rowsL 66 8 ((56, 5, 65) :: ((56, 4, 64) :: ((56, 3, 63) :: ((56, 2, 62) :: ((56, 1, 58) :: (rowsL 58 3 ((56, 0, 57) :: R))))))))))))))))))) zk_77 (by decide) (by decide)) (by decide) (by decide) (by decide) rfl (by decide) rfl ?_
  refine z_iinc (Y := mX2_clear) (pc := 44) (v := (2 : Int32)) (lv' := [(1, .int (2 : Int32)), (0, .ref 56)]) 0 dX2_clear_44 rfl (by decide) (by decide) rfl ?_
  refine z_goto (Y := mX2_clear) (pc := 47) (tgt := 18) dX2_clear_47 (by decide) ?_
  refine z_iload_n (Y := mX2_clear) (pc := 18) 0 dX2_clear_18 rfl rfl ?_
  refine z_bipush (Y := mX2_clear) (pc := 19) (v := (8 : Int32)) dX2_clear_19 (by decide) ?_
  refine z_icmp_ge (Y := mX2_clear) (pc := 21) (tgt := 50) dX2_clear_21 (by decide) (fun h => absurd h (by decide)) (fun _ => ?_)
  refine z_aload_n (Y := mX2_clear) (pc := 24) 1 dX2_clear_24 rfl rfl ?_
  refine y_getR (Y := mX2_clear) (pc := 25) (r := 66) dX2_clear_25 fl_2_35 zk_56 rfl (by decide) rfl rfl ?_
  refine z_iload_n (Y := mX2_clear) (pc := 28) 0 dX2_clear_28 rfl rfl ?_
  refine y_aald (Y := mX2_clear) (pc := 29) (k := 2) (r := 69) dX2_clear_29 zk_66 (by decide) (by decide) (by decide) (by unfold vp_in; decide) (by decide) rfl ?_
  refine z_iconst (Y := mX2_clear) (pc := 30) (v := (0 : Int32)) dX2_clear_30 (by decide) ?_
  refine y_callS (Y := mX2_clear) (pc := 31) (as := [.ref 69, .int (0 : Int32)]) (st := []) dX2_clear_31 lk_2_69 (kF (0 : Int32) (fillL 77 (-1 : Int32) 8 (fillL 68 (0 : Int32) 4 (fillL 76 (-1 : Int32) 8 (fillL 67 (0 : Int32) 4 (fillL 65 (0 : Int32) 8 (fillL 57 (0 : Int32) 10 I)))))) J ((56, 14, 91) :: ((56, 13, 90) :: ((56, 12, 88) :: ((88, 0, 89) :: ((56, 11, 87) :: ((56, 10, 86) :: ((56, 9, 85) :: ((56, 8, 84) :: ((56, 7, 75) :: (rowsL 75 8 ((56, 6, 66) :: (rowsL 66 8 ((56, 5, 65) :: ((56, 4, 64) :: ((56, 3, 63) :: ((56, 2, 62) :: ((56, 1, 58) :: (rowsL 58 3 ((56, 0, 57) :: R))))))))))))))))))) zk_69 (by decide) (by decide)) (by decide) (by decide) (by decide) rfl (by decide) rfl ?_
  refine z_aload_n (Y := mX2_clear) (pc := 34) 1 dX2_clear_34 rfl rfl ?_
  refine y_getR (Y := mX2_clear) (pc := 35) (r := 75) dX2_clear_35 fl_2_38 zk_56 rfl (by decide) rfl rfl ?_
  refine z_iload_n (Y := mX2_clear) (pc := 38) 0 dX2_clear_38 rfl rfl ?_
  refine y_aald (Y := mX2_clear) (pc := 39) (k := 2) (r := 78) dX2_clear_39 zk_75 (by decide) (by decide) (by decide) (by unfold vp_in; decide) (by decide) rfl ?_
  refine z_iconst (Y := mX2_clear) (pc := 40) (v := (-1 : Int32)) dX2_clear_40 (by decide) ?_
  refine y_callS (Y := mX2_clear) (pc := 41) (as := [.ref 78, .int (-1 : Int32)]) (st := []) dX2_clear_41 lk_2_69 (kF (-1 : Int32) (fillL 69 (0 : Int32) 4 (fillL 77 (-1 : Int32) 8 (fillL 68 (0 : Int32) 4 (fillL 76 (-1 : Int32) 8 (fillL 67 (0 : Int32) 4 (fillL 65 (0 : Int32) 8 (fillL 57 (0 : Int32) 10 I))))))) J ((56, 14, 91) :: ((56, 13, 90) :: ((56, 12, 88) :: ((88, 0, 89) :: ((56, 11, 87) :: ((56, 10, 86) :: ((56, 9, 85) :: ((56, 8, 84) :: ((56, 7, 75) :: (rowsL 75 8 ((56, 6, 66) :: (rowsL 66 8 ((56, 5, 65) :: ((56, 4, 64) :: ((56, 3, 63) :: ((56, 2, 62) :: ((56, 1, 58) :: (rowsL 58 3 ((56, 0, 57) :: R))))))))))))))))))) zk_78 (by decide) (by decide)) (by decide) (by decide) (by decide) rfl (by decide) rfl ?_
  refine z_iinc (Y := mX2_clear) (pc := 44) (v := (3 : Int32)) (lv' := [(1, .int (3 : Int32)), (0, .ref 56)]) 0 dX2_clear_44 rfl (by decide) (by decide) rfl ?_
  refine z_goto (Y := mX2_clear) (pc := 47) (tgt := 18) dX2_clear_47 (by decide) ?_
  refine z_iload_n (Y := mX2_clear) (pc := 18) 0 dX2_clear_18 rfl rfl ?_
  refine z_bipush (Y := mX2_clear) (pc := 19) (v := (8 : Int32)) dX2_clear_19 (by decide) ?_
  refine z_icmp_ge (Y := mX2_clear) (pc := 21) (tgt := 50) dX2_clear_21 (by decide) (fun h => absurd h (by decide)) (fun _ => ?_)
  refine z_aload_n (Y := mX2_clear) (pc := 24) 1 dX2_clear_24 rfl rfl ?_
  refine y_getR (Y := mX2_clear) (pc := 25) (r := 66) dX2_clear_25 fl_2_35 zk_56 rfl (by decide) rfl rfl ?_
  refine z_iload_n (Y := mX2_clear) (pc := 28) 0 dX2_clear_28 rfl rfl ?_
  refine y_aald (Y := mX2_clear) (pc := 29) (k := 3) (r := 70) dX2_clear_29 zk_66 (by decide) (by decide) (by decide) (by unfold vp_in; decide) (by decide) rfl ?_
  refine z_iconst (Y := mX2_clear) (pc := 30) (v := (0 : Int32)) dX2_clear_30 (by decide) ?_
  refine y_callS (Y := mX2_clear) (pc := 31) (as := [.ref 70, .int (0 : Int32)]) (st := []) dX2_clear_31 lk_2_69 (kF (0 : Int32) (fillL 78 (-1 : Int32) 8 (fillL 69 (0 : Int32) 4 (fillL 77 (-1 : Int32) 8 (fillL 68 (0 : Int32) 4 (fillL 76 (-1 : Int32) 8 (fillL 67 (0 : Int32) 4 (fillL 65 (0 : Int32) 8 (fillL 57 (0 : Int32) 10 I)))))))) J ((56, 14, 91) :: ((56, 13, 90) :: ((56, 12, 88) :: ((88, 0, 89) :: ((56, 11, 87) :: ((56, 10, 86) :: ((56, 9, 85) :: ((56, 8, 84) :: ((56, 7, 75) :: (rowsL 75 8 ((56, 6, 66) :: (rowsL 66 8 ((56, 5, 65) :: ((56, 4, 64) :: ((56, 3, 63) :: ((56, 2, 62) :: ((56, 1, 58) :: (rowsL 58 3 ((56, 0, 57) :: R))))))))))))))))))) zk_70 (by decide) (by decide)) (by decide) (by decide) (by decide) rfl (by decide) rfl ?_
  refine z_aload_n (Y := mX2_clear) (pc := 34) 1 dX2_clear_34 rfl rfl ?_
  refine y_getR (Y := mX2_clear) (pc := 35) (r := 75) dX2_clear_35 fl_2_38 zk_56 rfl (by decide) rfl rfl ?_
  refine z_iload_n (Y := mX2_clear) (pc := 38) 0 dX2_clear_38 rfl rfl ?_
  refine y_aald (Y := mX2_clear) (pc := 39) (k := 3) (r := 79) dX2_clear_39 zk_75 (by decide) (by decide) (by decide) (by unfold vp_in; decide) (by decide) rfl ?_
  refine z_iconst (Y := mX2_clear) (pc := 40) (v := (-1 : Int32)) dX2_clear_40 (by decide) ?_
  refine y_callS (Y := mX2_clear) (pc := 41) (as := [.ref 79, .int (-1 : Int32)]) (st := []) dX2_clear_41 lk_2_69 (kF (-1 : Int32) (fillL 70 (0 : Int32) 4 (fillL 78 (-1 : Int32) 8 (fillL 69 (0 : Int32) 4 (fillL 77 (-1 : Int32) 8 (fillL 68 (0 : Int32) 4 (fillL 76 (-1 : Int32) 8 (fillL 67 (0 : Int32) 4 (fillL 65 (0 : Int32) 8 (fillL 57 (0 : Int32) 10 I))))))))) J ((56, 14, 91) :: ((56, 13, 90) :: ((56, 12, 88) :: ((88, 0, 89) :: ((56, 11, 87) :: ((56, 10, 86) :: ((56, 9, 85) :: ((56, 8, 84) :: ((56, 7, 75) :: (rowsL 75 8 ((56, 6, 66) :: (rowsL 66 8 ((56, 5, 65) :: ((56, 4, 64) :: ((56, 3, 63) :: ((56, 2, 62) :: ((56, 1, 58) :: (rowsL 58 3 ((56, 0, 57) :: R))))))))))))))))))) zk_79 (by decide) (by decide)) (by decide) (by decide) (by decide) rfl (by decide) rfl ?_
  refine z_iinc (Y := mX2_clear) (pc := 44) (v := (4 : Int32)) (lv' := [(1, .int (4 : Int32)), (0, .ref 56)]) 0 dX2_clear_44 rfl (by decide) (by decide) rfl ?_
  refine z_goto (Y := mX2_clear) (pc := 47) (tgt := 18) dX2_clear_47 (by decide) ?_
  refine z_iload_n (Y := mX2_clear) (pc := 18) 0 dX2_clear_18 rfl rfl ?_
  refine z_bipush (Y := mX2_clear) (pc := 19) (v := (8 : Int32)) dX2_clear_19 (by decide) ?_
  refine z_icmp_ge (Y := mX2_clear) (pc := 21) (tgt := 50) dX2_clear_21 (by decide) (fun h => absurd h (by decide)) (fun _ => ?_)
  refine z_aload_n (Y := mX2_clear) (pc := 24) 1 dX2_clear_24 rfl rfl ?_
  refine y_getR (Y := mX2_clear) (pc := 25) (r := 66) dX2_clear_25 fl_2_35 zk_56 rfl (by decide) rfl rfl ?_
  refine z_iload_n (Y := mX2_clear) (pc := 28) 0 dX2_clear_28 rfl rfl ?_
  refine y_aald (Y := mX2_clear) (pc := 29) (k := 4) (r := 71) dX2_clear_29 zk_66 (by decide) (by decide) (by decide) (by unfold vp_in; decide) (by decide) rfl ?_
  refine z_iconst (Y := mX2_clear) (pc := 30) (v := (0 : Int32)) dX2_clear_30 (by decide) ?_
  refine y_callS (Y := mX2_clear) (pc := 31) (as := [.ref 71, .int (0 : Int32)]) (st := []) dX2_clear_31 lk_2_69 (kF (0 : Int32) (fillL 79 (-1 : Int32) 8 (fillL 70 (0 : Int32) 4 (fillL 78 (-1 : Int32) 8 (fillL 69 (0 : Int32) 4 (fillL 77 (-1 : Int32) 8 (fillL 68 (0 : Int32) 4 (fillL 76 (-1 : Int32) 8 (fillL 67 (0 : Int32) 4 (fillL 65 (0 : Int32) 8 (fillL 57 (0 : Int32) 10 I)))))))))) J ((56, 14, 91) :: ((56, 13, 90) :: ((56, 12, 88) :: ((88, 0, 89) :: ((56, 11, 87) :: ((56, 10, 86) :: ((56, 9, 85) :: ((56, 8, 84) :: ((56, 7, 75) :: (rowsL 75 8 ((56, 6, 66) :: (rowsL 66 8 ((56, 5, 65) :: ((56, 4, 64) :: ((56, 3, 63) :: ((56, 2, 62) :: ((56, 1, 58) :: (rowsL 58 3 ((56, 0, 57) :: R))))))))))))))))))) zk_71 (by decide) (by decide)) (by decide) (by decide) (by decide) rfl (by decide) rfl ?_
  refine z_aload_n (Y := mX2_clear) (pc := 34) 1 dX2_clear_34 rfl rfl ?_
  refine y_getR (Y := mX2_clear) (pc := 35) (r := 75) dX2_clear_35 fl_2_38 zk_56 rfl (by decide) rfl rfl ?_
  refine z_iload_n (Y := mX2_clear) (pc := 38) 0 dX2_clear_38 rfl rfl ?_
  exact k
set_option maxRecDepth 100000 in
set_option maxHeartbeats 4000000 in
theorem kX2_clear_56_0_1 {M' : z_M} (I : List (Nat × Nat × Int32)) (J : List (Nat × Nat × Int64)) (R : List (Nat × Nat × Nat)) (k : z_G mX2_clear 1 0 0 none M' 105 [(1, .int (8 : Int32)), (0, .ref 56)] [.int (1 : Int32), .ref 90] 0 0 (aM 92 ((91, 0, (1 : Int32)) :: ((90, 0, (0 : Int32)) :: ((89, 1, (-4 : Int32)) :: ((88, 1, (2 : Int32)) :: ((89, 0, (20 : Int32)) :: ((88, 1, (1 : Int32)) :: ((88, 1, (0 : Int32)) :: ((56, 16, (0 : Int32)) :: ((56, 15, (3 : Int32)) :: (fillL 83 (-1 : Int32) 8 (fillL 74 (0 : Int32) 4 (fillL 82 (-1 : Int32) 8 (fillL 73 (0 : Int32) 4 (fillL 81 (-1 : Int32) 8 (fillL 72 (0 : Int32) 4 (fillL 80 (-1 : Int32) 8 (fillL 71 (0 : Int32) 4 (fillL 79 (-1 : Int32) 8 (fillL 70 (0 : Int32) 4 (fillL 78 (-1 : Int32) 8 (fillL 69 (0 : Int32) 4 (fillL 77 (-1 : Int32) 8 (fillL 68 (0 : Int32) 4 (fillL 76 (-1 : Int32) 8 (fillL 67 (0 : Int32) 4 (fillL 65 (0 : Int32) 8 (fillL 57 (0 : Int32) 10 I))))))))))))))))))))))))))) J ((56, 14, 91) :: ((56, 13, 90) :: ((56, 12, 88) :: ((88, 0, 89) :: ((56, 11, 87) :: ((56, 10, 86) :: ((56, 9, 85) :: ((56, 8, 84) :: ((56, 7, 75) :: (rowsL 75 8 ((56, 6, 66) :: (rowsL 66 8 ((56, 5, 65) :: ((56, 4, 64) :: ((56, 3, 63) :: ((56, 2, 62) :: ((56, 1, 58) :: (rowsL 58 3 ((56, 0, 57) :: R))))))))))))))))))))) : z_G mX2_clear 1 0 0 none M' 39 [(1, .int (4 : Int32)), (0, .ref 56)] [.int (4 : Int32), .ref 75] 0 0 (aM 92 (fillL 71 (0 : Int32) 4 (fillL 79 (-1 : Int32) 8 (fillL 70 (0 : Int32) 4 (fillL 78 (-1 : Int32) 8 (fillL 69 (0 : Int32) 4 (fillL 77 (-1 : Int32) 8 (fillL 68 (0 : Int32) 4 (fillL 76 (-1 : Int32) 8 (fillL 67 (0 : Int32) 4 (fillL 65 (0 : Int32) 8 (fillL 57 (0 : Int32) 10 I))))))))))) J ((56, 14, 91) :: ((56, 13, 90) :: ((56, 12, 88) :: ((88, 0, 89) :: ((56, 11, 87) :: ((56, 10, 86) :: ((56, 9, 85) :: ((56, 8, 84) :: ((56, 7, 75) :: (rowsL 75 8 ((56, 6, 66) :: (rowsL 66 8 ((56, 5, 65) :: ((56, 4, 64) :: ((56, 3, 63) :: ((56, 2, 62) :: ((56, 1, 58) :: (rowsL 58 3 ((56, 0, 57) :: R)))))))))))))))))))) := by
  refine y_aald (Y := mX2_clear) (pc := 39) (k := 4) (r := 80) dX2_clear_39 zk_75 (by decide) (by decide) (by decide) (by unfold vp_in; decide) (by decide) rfl ?_
  refine z_iconst (Y := mX2_clear) (pc := 40) (v := (-1 : Int32)) dX2_clear_40 (by decide) ?_
  refine y_callS (Y := mX2_clear) (pc := 41) (as := [.ref 80, .int (-1 : Int32)]) (st := []) dX2_clear_41 lk_2_69 (kF (-1 : Int32) (fillL 71 (0 : Int32) 4 (fillL 79 (-1 : Int32) 8 (fillL 70 (0 : Int32) 4 (fillL 78 (-1 : Int32) 8 (fillL 69 (0 : Int32) 4 (fillL 77 (-1 : Int32) 8 (fillL 68 (0 : Int32) 4 (fillL 76 (-1 : Int32) 8 (fillL 67 (0 : Int32) 4 (fillL 65 (0 : Int32) 8 (fillL 57 (0 : Int32) 10 I))))))))))) J ((56, 14, 91) :: ((56, 13, 90) :: ((56, 12, 88) :: ((88, 0, 89) :: ((56, 11, 87) :: ((56, 10, 86) :: ((56, 9, 85) :: ((56, 8, 84) :: ((56, 7, 75) :: (rowsL 75 8 ((56, 6, 66) :: (rowsL 66 8 ((56, 5, 65) :: ((56, 4, 64) :: ((56, 3, 63) :: ((56, 2, 62) :: ((56, 1, 58) :: (rowsL 58 3 ((56, 0, 57) :: R))))))))))))))))))) zk_80 (by decide) (by decide)) (by decide) (by decide) (by decide) rfl (by decide) rfl ?_
  refine z_iinc (Y := mX2_clear) (pc := 44) (v := (5 : Int32)) (lv' := [(1, .int (5 : Int32)), (0, .ref 56)]) 0 dX2_clear_44 rfl (by decide) (by decide) rfl ?_
  refine z_goto (Y := mX2_clear) (pc := 47) (tgt := 18) dX2_clear_47 (by decide) ?_
  refine z_iload_n (Y := mX2_clear) (pc := 18) 0 dX2_clear_18 rfl rfl ?_
  refine z_bipush (Y := mX2_clear) (pc := 19) (v := (8 : Int32)) dX2_clear_19 (by decide) ?_
  refine z_icmp_ge (Y := mX2_clear) (pc := 21) (tgt := 50) dX2_clear_21 (by decide) (fun h => absurd h (by decide)) (fun _ => ?_)
  refine z_aload_n (Y := mX2_clear) (pc := 24) 1 dX2_clear_24 rfl rfl ?_
  refine y_getR (Y := mX2_clear) (pc := 25) (r := 66) dX2_clear_25 fl_2_35 zk_56 rfl (by decide) rfl rfl ?_
  refine z_iload_n (Y := mX2_clear) (pc := 28) 0 dX2_clear_28 rfl rfl ?_
  refine y_aald (Y := mX2_clear) (pc := 29) (k := 5) (r := 72) dX2_clear_29 zk_66 (by decide) (by decide) (by decide) (by unfold vp_in; decide) (by decide) rfl ?_
  refine z_iconst (Y := mX2_clear) (pc := 30) (v := (0 : Int32)) dX2_clear_30 (by decide) ?_
  refine y_callS (Y := mX2_clear) (pc := 31) (as := [.ref 72, .int (0 : Int32)]) (st := []) dX2_clear_31 lk_2_69 (kF (0 : Int32) (fillL 80 (-1 : Int32) 8 (fillL 71 (0 : Int32) 4 (fillL 79 (-1 : Int32) 8 (fillL 70 (0 : Int32) 4 (fillL 78 (-1 : Int32) 8 (fillL 69 (0 : Int32) 4 (fillL 77 (-1 : Int32) 8 (fillL 68 (0 : Int32) 4 (fillL 76 (-1 : Int32) 8 (fillL 67 (0 : Int32) 4 (fillL 65 (0 : Int32) 8 (fillL 57 (0 : Int32) 10 I)))))))))))) J ((56, 14, 91) :: ((56, 13, 90) :: ((56, 12, 88) :: ((88, 0, 89) :: ((56, 11, 87) :: ((56, 10, 86) :: ((56, 9, 85) :: ((56, 8, 84) :: ((56, 7, 75) :: (rowsL 75 8 ((56, 6, 66) :: (rowsL 66 8 ((56, 5, 65) :: ((56, 4, 64) :: ((56, 3, 63) :: ((56, 2, 62) :: ((56, 1, 58) :: (rowsL 58 3 ((56, 0, 57) :: R))))))))))))))))))) zk_72 (by decide) (by decide)) (by decide) (by decide) (by decide) rfl (by decide) rfl ?_
  refine z_aload_n (Y := mX2_clear) (pc := 34) 1 dX2_clear_34 rfl rfl ?_
  refine y_getR (Y := mX2_clear) (pc := 35) (r := 75) dX2_clear_35 fl_2_38 zk_56 rfl (by decide) rfl rfl ?_
  refine z_iload_n (Y := mX2_clear) (pc := 38) 0 dX2_clear_38 rfl rfl ?_
  refine y_aald (Y := mX2_clear) (pc := 39) (k := 5) (r := 81) dX2_clear_39 zk_75 (by decide) (by decide) (by decide) (by unfold vp_in; decide) (by decide) rfl ?_
  refine z_iconst (Y := mX2_clear) (pc := 40) (v := (-1 : Int32)) dX2_clear_40 (by decide) ?_
  refine y_callS (Y := mX2_clear) (pc := 41) (as := [.ref 81, .int (-1 : Int32)]) (st := []) dX2_clear_41 lk_2_69 (kF (-1 : Int32) (fillL 72 (0 : Int32) 4 (fillL 80 (-1 : Int32) 8 (fillL 71 (0 : Int32) 4 (fillL 79 (-1 : Int32) 8 (fillL 70 (0 : Int32) 4 (fillL 78 (-1 : Int32) 8 (fillL 69 (0 : Int32) 4 (fillL 77 (-1 : Int32) 8 (fillL 68 (0 : Int32) 4 (fillL 76 (-1 : Int32) 8 (fillL 67 (0 : Int32) 4 (fillL 65 (0 : Int32) 8 (fillL 57 (0 : Int32) 10 I))))))))))))) J ((56, 14, 91) :: ((56, 13, 90) :: ((56, 12, 88) :: ((88, 0, 89) :: ((56, 11, 87) :: ((56, 10, 86) :: ((56, 9, 85) :: ((56, 8, 84) :: ((56, 7, 75) :: (rowsL 75 8 ((56, 6, 66) :: (rowsL 66 8 ((56, 5, 65) :: ((56, 4, 64) :: ((56, 3, 63) :: ((56, 2, 62) :: ((56, 1, 58) :: (rowsL 58 3 ((56, 0, 57) :: R))))))))))))))))))) zk_81 (by decide) (by decide)) (by decide) (by decide) (by decide) rfl (by decide) rfl ?_
  refine z_iinc (Y := mX2_clear) (pc := 44) (v := (6 : Int32)) (lv' := [(1, .int (6 : Int32)), (0, .ref 56)]) 0 dX2_clear_44 rfl (by decide) (by decide) rfl ?_
  refine z_goto (Y := mX2_clear) (pc := 47) (tgt := 18) dX2_clear_47 (by decide) ?_
  refine z_iload_n (Y := mX2_clear) (pc := 18) 0 dX2_clear_18 rfl rfl ?_
  refine z_bipush (Y := mX2_clear) (pc := 19) (v := (8 : Int32)) dX2_clear_19 (by decide) ?_
  refine z_icmp_ge (Y := mX2_clear) (pc := 21) (tgt := 50) dX2_clear_21 (by decide) (fun h => absurd h (by decide)) (fun _ => ?_)
  refine z_aload_n (Y := mX2_clear) (pc := 24) 1 dX2_clear_24 rfl rfl ?_
  refine y_getR (Y := mX2_clear) (pc := 25) (r := 66) dX2_clear_25 fl_2_35 zk_56 rfl (by decide) rfl rfl ?_
  refine z_iload_n (Y := mX2_clear) (pc := 28) 0 dX2_clear_28 rfl rfl ?_
  refine y_aald (Y := mX2_clear) (pc := 29) (k := 6) (r := 73) dX2_clear_29 zk_66 (by decide) (by decide) (by decide) (by unfold vp_in; decide) (by decide) rfl ?_
  refine z_iconst (Y := mX2_clear) (pc := 30) (v := (0 : Int32)) dX2_clear_30 (by decide) ?_
  refine y_callS (Y := mX2_clear) (pc := 31) (as := [.ref 73, .int (0 : Int32)]) (st := []) dX2_clear_31 lk_2_69 (kF (0 : Int32) (fillL 81 (-1 : Int32) 8 (fillL 72 (0 : Int32) 4 (fillL 80 (-1 : Int32) 8 (fillL 71 (0 : Int32) 4 (fillL 79 (-1 : Int32) 8 (fillL 70 (0 : Int32) 4 (fillL 78 (-1 : Int32) 8 (fillL 69 (0 : Int32) 4 (fillL 77 (-1 : Int32) 8 (fillL 68 (0 : Int32) 4 (fillL 76 (-1 : Int32) 8 (fillL 67 (0 : Int32) 4 (fillL 65 (0 : Int32) 8 (fillL 57 (0 : Int32) 10 I)))))))))))))) J ((56, 14, 91) :: ((56, 13, 90) :: ((56, 12, 88) :: ((88, 0, 89) :: ((56, 11, 87) :: ((56, 10, 86) :: ((56, 9, 85) :: ((56, 8, 84) :: ((56, 7, 75) :: (rowsL 75 8 ((56, 6, 66) :: (rowsL 66 8 ((56, 5, 65) :: ((56, 4, 64) :: ((56, 3, 63) :: ((56, 2, 62) :: ((56, 1, 58) :: (rowsL 58 3 ((56, 0, 57) :: R))))))))))))))))))) zk_73 (by decide) (by decide)) (by decide) (by decide) (by decide) rfl (by decide) rfl ?_
  refine z_aload_n (Y := mX2_clear) (pc := 34) 1 dX2_clear_34 rfl rfl ?_
  refine y_getR (Y := mX2_clear) (pc := 35) (r := 75) dX2_clear_35 fl_2_38 zk_56 rfl (by decide) rfl rfl ?_
  refine z_iload_n (Y := mX2_clear) (pc := 38) 0 dX2_clear_38 rfl rfl ?_
  refine y_aald (Y := mX2_clear) (pc := 39) (k := 6) (r := 82) dX2_clear_39 zk_75 (by decide) (by decide) (by decide) (by unfold vp_in; decide) (by decide) rfl ?_
  refine z_iconst (Y := mX2_clear) (pc := 40) (v := (-1 : Int32)) dX2_clear_40 (by decide) ?_
  refine y_callS (Y := mX2_clear) (pc := 41) (as := [.ref 82, .int (-1 : Int32)]) (st := []) dX2_clear_41 lk_2_69 (kF (-1 : Int32) (fillL 73 (0 : Int32) 4 (fillL 81 (-1 : Int32) 8 (fillL 72 (0 : Int32) 4 (fillL 80 (-1 : Int32) 8 (fillL 71 (0 : Int32) 4 (fillL 79 (-1 : Int32) 8 (fillL 70 (0 : Int32) 4 (fillL 78 (-1 : Int32) 8 (fillL 69 (0 : Int32) 4 (fillL 77 (-1 : Int32) 8 (fillL 68 (0 : Int32) 4 (fillL 76 (-1 : Int32) 8 (fillL 67 (0 : Int32) 4 (fillL 65 (0 : Int32) 8 (fillL 57 (0 : Int32) 10 I))))))))))))))) J ((56, 14, 91) :: ((56, 13, 90) :: ((56, 12, 88) :: ((88, 0, 89) :: ((56, 11, 87) :: ((56, 10, 86) :: ((56, 9, 85) :: ((56, 8, 84) :: ((56, 7, 75) :: (rowsL 75 8 ((56, 6, 66) :: (rowsL 66 8 ((56, 5, 65) :: ((56, 4, 64) :: ((56, 3, 63) :: ((56, 2, 62) :: ((56, 1, 58) :: (rowsL 58 3 ((56, 0, 57) :: R))))))))))))))))))) zk_82 (by decide) (by decide)) (by decide) (by decide) (by decide) rfl (by decide) rfl ?_
  refine z_iinc (Y := mX2_clear) (pc := 44) (v := (7 : Int32)) (lv' := [(1, .int (7 : Int32)), (0, .ref 56)]) 0 dX2_clear_44 rfl (by decide) (by decide) rfl ?_
  refine z_goto (Y := mX2_clear) (pc := 47) (tgt := 18) dX2_clear_47 (by decide) ?_
  refine z_iload_n (Y := mX2_clear) (pc := 18) 0 dX2_clear_18 rfl rfl ?_
  refine z_bipush (Y := mX2_clear) (pc := 19) (v := (8 : Int32)) dX2_clear_19 (by decide) ?_
  refine z_icmp_ge (Y := mX2_clear) (pc := 21) (tgt := 50) dX2_clear_21 (by decide) (fun h => absurd h (by decide)) (fun _ => ?_)
  refine z_aload_n (Y := mX2_clear) (pc := 24) 1 dX2_clear_24 rfl rfl ?_
  refine y_getR (Y := mX2_clear) (pc := 25) (r := 66) dX2_clear_25 fl_2_35 zk_56 rfl (by decide) rfl rfl ?_
  refine z_iload_n (Y := mX2_clear) (pc := 28) 0 dX2_clear_28 rfl rfl ?_
  refine y_aald (Y := mX2_clear) (pc := 29) (k := 7) (r := 74) dX2_clear_29 zk_66 (by decide) (by decide) (by decide) (by unfold vp_in; decide) (by decide) rfl ?_
  refine z_iconst (Y := mX2_clear) (pc := 30) (v := (0 : Int32)) dX2_clear_30 (by decide) ?_
  refine y_callS (Y := mX2_clear) (pc := 31) (as := [.ref 74, .int (0 : Int32)]) (st := []) dX2_clear_31 lk_2_69 (kF (0 : Int32) (fillL 82 (-1 : Int32) 8 (fillL 73 (0 : Int32) 4 (fillL 81 (-1 : Int32) 8 (fillL 72 (0 : Int32) 4 (fillL 80 (-1 : Int32) 8 (fillL 71 (0 : Int32) 4 (fillL 79 (-1 : Int32) 8 (fillL 70 (0 : Int32) 4 (fillL 78 (-1 : Int32) 8 (fillL 69 (0 : Int32) 4 (fillL 77 (-1 : Int32) 8 (fillL 68 (0 : Int32) 4 (fillL 76 (-1 : Int32) 8 (fillL 67 (0 : Int32) 4 (fillL 65 (0 : Int32) 8 (fillL 57 (0 : Int32) 10 I)))))))))))))))) J ((56, 14, 91) :: ((56, 13, 90) :: ((56, 12, 88) :: ((88, 0, 89) :: ((56, 11, 87) :: ((56, 10, 86) :: ((56, 9, 85) :: ((56, 8, 84) :: ((56, 7, 75) :: (rowsL 75 8 ((56, 6, 66) :: (rowsL 66 8 ((56, 5, 65) :: ((56, 4, 64) :: ((56, 3, 63) :: ((56, 2, 62) :: ((56, 1, 58) :: (rowsL 58 3 ((56, 0, 57) :: R))))))))))))))))))) zk_74 (by decide) (by decide)) (by decide) (by decide) (by decide) rfl (by decide) rfl ?_
  refine z_aload_n (Y := mX2_clear) (pc := 34) 1 dX2_clear_34 rfl rfl ?_
  refine y_getR (Y := mX2_clear) (pc := 35) (r := 75) dX2_clear_35 fl_2_38 zk_56 rfl (by decide) rfl rfl ?_
  refine z_iload_n (Y := mX2_clear) (pc := 38) 0 dX2_clear_38 rfl rfl ?_
  refine y_aald (Y := mX2_clear) (pc := 39) (k := 7) (r := 83) dX2_clear_39 zk_75 (by decide) (by decide) (by decide) (by unfold vp_in; decide) (by decide) rfl ?_
  refine z_iconst (Y := mX2_clear) (pc := 40) (v := (-1 : Int32)) dX2_clear_40 (by decide) ?_
  refine y_callS (Y := mX2_clear) (pc := 41) (as := [.ref 83, .int (-1 : Int32)]) (st := []) dX2_clear_41 lk_2_69 (kF (-1 : Int32) (fillL 74 (0 : Int32) 4 (fillL 82 (-1 : Int32) 8 (fillL 73 (0 : Int32) 4 (fillL 81 (-1 : Int32) 8 (fillL 72 (0 : Int32) 4 (fillL 80 (-1 : Int32) 8 (fillL 71 (0 : Int32) 4 (fillL 79 (-1 : Int32) 8 (fillL 70 (0 : Int32) 4 (fillL 78 (-1 : Int32) 8 (fillL 69 (0 : Int32) 4 (fillL 77 (-1 : Int32) 8 (fillL 68 (0 : Int32) 4 (fillL 76 (-1 : Int32) 8 (fillL 67 (0 : Int32) 4 (fillL 65 (0 : Int32) 8 (fillL 57 (0 : Int32) 10 I))))))))))))))))) J ((56, 14, 91) :: ((56, 13, 90) :: ((56, 12, 88) :: ((88, 0, 89) :: ((56, 11, 87) :: ((56, 10, 86) :: ((56, 9, 85) :: ((56, 8, 84) :: ((56, 7, 75) :: (rowsL 75 8 ((56, 6, 66) :: (rowsL 66 8 ((56, 5, 65) :: ((56, 4, 64) :: ((56, 3, 63) :: ((56, 2, 62) :: ((56, 1, 58) :: (rowsL 58 3 ((56, 0, 57) :: R))))))))))))))))))) zk_83 (by decide) (by decide)) (by decide) (by decide) (by decide) rfl (by decide) rfl ?_
  refine z_iinc (Y := mX2_clear) (pc := 44) (v := (8 : Int32)) (lv' := [(1, .int (8 : Int32)), (0, .ref 56)]) 0 dX2_clear_44 rfl (by decide) (by decide) rfl ?_
  refine z_goto (Y := mX2_clear) (pc := 47) (tgt := 18) dX2_clear_47 (by decide) ?_
  refine z_iload_n (Y := mX2_clear) (pc := 18) 0 dX2_clear_18 rfl rfl ?_
  refine z_bipush (Y := mX2_clear) (pc := 19) (v := (8 : Int32)) dX2_clear_19 (by decide) ?_
  refine z_icmp_ge (Y := mX2_clear) (pc := 21) (tgt := 50) dX2_clear_21 (by decide) (fun _ => ?_) (fun h => absurd (by decide) h)
  refine z_aload_n (Y := mX2_clear) (pc := 50) 1 dX2_clear_50 rfl rfl ?_
  refine z_iconst (Y := mX2_clear) (pc := 51) (v := (3 : Int32)) dX2_clear_51 (by decide) ?_
  refine y_putI (Y := mX2_clear) (pc := 52) dX2_clear_52 fl_2_75 zk_56 rfl (by decide) rfl rfl ?_
  refine z_aload_n (Y := mX2_clear) (pc := 55) 1 dX2_clear_55 rfl rfl ?_
  refine z_iconst (Y := mX2_clear) (pc := 56) (v := (0 : Int32)) dX2_clear_56 (by decide) ?_
  refine y_putI (Y := mX2_clear) (pc := 57) dX2_clear_57 fl_2_79 zk_56 rfl (by decide) rfl rfl ?_
  refine z_aload_n (Y := mX2_clear) (pc := 60) 1 dX2_clear_60 rfl rfl ?_
  refine y_getR (Y := mX2_clear) (pc := 61) (r := 88) dX2_clear_61 fl_2_56 zk_56 rfl (by decide) rfl rfl ?_
  refine z_iconst (Y := mX2_clear) (pc := 64) (v := (0 : Int32)) dX2_clear_64 (by decide) ?_
  refine y_putI (Y := mX2_clear) (pc := 65) dX2_clear_65 fl_2_82 zk_88 rfl (by decide) rfl rfl ?_
  refine z_aload_n (Y := mX2_clear) (pc := 68) 1 dX2_clear_68 rfl rfl ?_
  refine y_getR (Y := mX2_clear) (pc := 69) (r := 88) dX2_clear_69 fl_2_56 zk_56 rfl (by decide) rfl rfl ?_
  refine z_bipush (Y := mX2_clear) (pc := 72) (v := (20 : Int32)) dX2_clear_72 (by decide) ?_
  refine y_callV (Y := mX2_clear) (pc := 74) (as := [.int (20 : Int32)]) (st := []) dX2_clear_74 lk_2_85 (kX0_add_88_0 I J R) zk_88 rfl (show 88 < 92 by decide) (by decide) (by decide) (by decide) rfl (by decide) rfl ?_
  refine z_aload_n (Y := mX2_clear) (pc := 77) 1 dX2_clear_77 rfl rfl ?_
  refine y_getR (Y := mX2_clear) (pc := 78) (r := 88) dX2_clear_78 fl_2_56 zk_56 rfl (by decide) rfl rfl ?_
  refine z_bipush (Y := mX2_clear) (pc := 81) (v := (-4 : Int32)) dX2_clear_81 (by decide) ?_
  refine y_callV (Y := mX2_clear) (pc := 83) (as := [.int (-4 : Int32)]) (st := []) dX2_clear_83 lk_2_85 (kX0_add_88_1 I J R) zk_88 rfl (show 88 < 92 by decide) (by decide) (by decide) (by decide) rfl (by decide) rfl ?_
  refine z_aload_n (Y := mX2_clear) (pc := 86) 1 dX2_clear_86 rfl rfl ?_
  refine y_getR (Y := mX2_clear) (pc := 87) (r := 90) dX2_clear_87 fl_2_60 zk_56 rfl (by decide) rfl rfl ?_
  refine z_iconst (Y := mX2_clear) (pc := 90) (v := (0 : Int32)) dX2_clear_90 (by decide) ?_
  refine z_iconst (Y := mX2_clear) (pc := 91) (v := (0 : Int32)) dX2_clear_91 (by decide) ?_
  refine y_iast (Y := mX2_clear) (pc := 92) (k := 0) dX2_clear_92 zk_90 (by decide) (by unfold vp_in; decide) (by decide) ?_
  refine z_aload_n (Y := mX2_clear) (pc := 93) 1 dX2_clear_93 rfl rfl ?_
  refine y_getR (Y := mX2_clear) (pc := 94) (r := 91) dX2_clear_94 fl_2_63 zk_56 rfl (by decide) rfl rfl ?_
  refine z_iconst (Y := mX2_clear) (pc := 97) (v := (0 : Int32)) dX2_clear_97 (by decide) ?_
  refine z_iconst (Y := mX2_clear) (pc := 98) (v := (1 : Int32)) dX2_clear_98 (by decide) ?_
  refine y_iast (Y := mX2_clear) (pc := 99) (k := 0) dX2_clear_99 zk_91 (by decide) (by unfold vp_in; decide) (by decide) ?_
  refine z_aload_n (Y := mX2_clear) (pc := 100) 1 dX2_clear_100 rfl rfl ?_
  refine y_getR (Y := mX2_clear) (pc := 101) (r := 90) dX2_clear_101 fl_2_60 zk_56 rfl (by decide) rfl rfl ?_
  refine z_iconst (Y := mX2_clear) (pc := 104) (v := (1 : Int32)) dX2_clear_104 (by decide) ?_
  exact k
set_option maxRecDepth 100000 in
set_option maxHeartbeats 4000000 in
theorem kX2_clear_56_0_2 (I : List (Nat × Nat × Int32)) (J : List (Nat × Nat × Int64)) (R : List (Nat × Nat × Nat)) : z_G mX2_clear 1 0 0 none (aM 92 ((91, 1, (2 : Int32)) :: ((90, 1, (1 : Int32)) :: ((91, 0, (1 : Int32)) :: ((90, 0, (0 : Int32)) :: ((89, 1, (-4 : Int32)) :: ((88, 1, (2 : Int32)) :: ((89, 0, (20 : Int32)) :: ((88, 1, (1 : Int32)) :: ((88, 1, (0 : Int32)) :: ((56, 16, (0 : Int32)) :: ((56, 15, (3 : Int32)) :: (fillL 83 (-1 : Int32) 8 (fillL 74 (0 : Int32) 4 (fillL 82 (-1 : Int32) 8 (fillL 73 (0 : Int32) 4 (fillL 81 (-1 : Int32) 8 (fillL 72 (0 : Int32) 4 (fillL 80 (-1 : Int32) 8 (fillL 71 (0 : Int32) 4 (fillL 79 (-1 : Int32) 8 (fillL 70 (0 : Int32) 4 (fillL 78 (-1 : Int32) 8 (fillL 69 (0 : Int32) 4 (fillL 77 (-1 : Int32) 8 (fillL 68 (0 : Int32) 4 (fillL 76 (-1 : Int32) 8 (fillL 67 (0 : Int32) 4 (fillL 65 (0 : Int32) 8 (fillL 57 (0 : Int32) 10 I))))))))))))))))))))))))))))) J ((56, 14, 91) :: ((56, 13, 90) :: ((56, 12, 88) :: ((88, 0, 89) :: ((56, 11, 87) :: ((56, 10, 86) :: ((56, 9, 85) :: ((56, 8, 84) :: ((56, 7, 75) :: (rowsL 75 8 ((56, 6, 66) :: (rowsL 66 8 ((56, 5, 65) :: ((56, 4, 64) :: ((56, 3, 63) :: ((56, 2, 62) :: ((56, 1, 58) :: (rowsL 58 3 ((56, 0, 57) :: R)))))))))))))))))))) 105 [(1, .int (8 : Int32)), (0, .ref 56)] [.int (1 : Int32), .ref 90] 0 0 (aM 92 ((91, 0, (1 : Int32)) :: ((90, 0, (0 : Int32)) :: ((89, 1, (-4 : Int32)) :: ((88, 1, (2 : Int32)) :: ((89, 0, (20 : Int32)) :: ((88, 1, (1 : Int32)) :: ((88, 1, (0 : Int32)) :: ((56, 16, (0 : Int32)) :: ((56, 15, (3 : Int32)) :: (fillL 83 (-1 : Int32) 8 (fillL 74 (0 : Int32) 4 (fillL 82 (-1 : Int32) 8 (fillL 73 (0 : Int32) 4 (fillL 81 (-1 : Int32) 8 (fillL 72 (0 : Int32) 4 (fillL 80 (-1 : Int32) 8 (fillL 71 (0 : Int32) 4 (fillL 79 (-1 : Int32) 8 (fillL 70 (0 : Int32) 4 (fillL 78 (-1 : Int32) 8 (fillL 69 (0 : Int32) 4 (fillL 77 (-1 : Int32) 8 (fillL 68 (0 : Int32) 4 (fillL 76 (-1 : Int32) 8 (fillL 67 (0 : Int32) 4 (fillL 65 (0 : Int32) 8 (fillL 57 (0 : Int32) 10 I))))))))))))))))))))))))))) J ((56, 14, 91) :: ((56, 13, 90) :: ((56, 12, 88) :: ((88, 0, 89) :: ((56, 11, 87) :: ((56, 10, 86) :: ((56, 9, 85) :: ((56, 8, 84) :: ((56, 7, 75) :: (rowsL 75 8 ((56, 6, 66) :: (rowsL 66 8 ((56, 5, 65) :: ((56, 4, 64) :: ((56, 3, 63) :: ((56, 2, 62) :: ((56, 1, 58) :: (rowsL 58 3 ((56, 0, 57) :: R)))))))))))))))))))) := by
  refine z_iconst (Y := mX2_clear) (pc := 105) (v := (1 : Int32)) dX2_clear_105 (by decide) ?_
  refine y_iast (Y := mX2_clear) (pc := 106) (k := 1) dX2_clear_106 zk_90 (by decide) (by unfold vp_in; decide) (by decide) ?_
  refine z_aload_n (Y := mX2_clear) (pc := 107) 1 dX2_clear_107 rfl rfl ?_
  refine y_getR (Y := mX2_clear) (pc := 108) (r := 91) dX2_clear_108 fl_2_63 zk_56 rfl (by decide) rfl rfl ?_
  refine z_iconst (Y := mX2_clear) (pc := 111) (v := (1 : Int32)) dX2_clear_111 (by decide) ?_
  refine z_iconst (Y := mX2_clear) (pc := 112) (v := (2 : Int32)) dX2_clear_112 (by decide) ?_
  refine y_iast (Y := mX2_clear) (pc := 113) (k := 1) dX2_clear_113 zk_91 (by decide) (by unfold vp_in; decide) (by decide) ?_
  exact z_vret (Y := mX2_clear) (pc := 114) dX2_clear_114 rfl (by decide) (by decide)
set_option maxRecDepth 100000 in
set_option maxHeartbeats 4000000 in
theorem kX2_clear_56_0 (I : List (Nat × Nat × Int32)) (J : List (Nat × Nat × Int64)) (R : List (Nat × Nat × Nat)) : z_K mX2_clear 1 0 0 [.ref 56] (aM 92 I J ((56, 14, 91) :: ((56, 13, 90) :: ((56, 12, 88) :: ((88, 0, 89) :: ((56, 11, 87) :: ((56, 10, 86) :: ((56, 9, 85) :: ((56, 8, 84) :: ((56, 7, 75) :: (rowsL 75 8 ((56, 6, 66) :: (rowsL 66 8 ((56, 5, 65) :: ((56, 4, 64) :: ((56, 3, 63) :: ((56, 2, 62) :: ((56, 1, 58) :: (rowsL 58 3 ((56, 0, 57) :: R)))))))))))))))))))) none (aM 92 ((91, 1, (2 : Int32)) :: ((90, 1, (1 : Int32)) :: ((91, 0, (1 : Int32)) :: ((90, 0, (0 : Int32)) :: ((89, 1, (-4 : Int32)) :: ((88, 1, (2 : Int32)) :: ((89, 0, (20 : Int32)) :: ((88, 1, (1 : Int32)) :: ((88, 1, (0 : Int32)) :: ((56, 16, (0 : Int32)) :: ((56, 15, (3 : Int32)) :: (fillL 83 (-1 : Int32) 8 (fillL 74 (0 : Int32) 4 (fillL 82 (-1 : Int32) 8 (fillL 73 (0 : Int32) 4 (fillL 81 (-1 : Int32) 8 (fillL 72 (0 : Int32) 4 (fillL 80 (-1 : Int32) 8 (fillL 71 (0 : Int32) 4 (fillL 79 (-1 : Int32) 8 (fillL 70 (0 : Int32) 4 (fillL 78 (-1 : Int32) 8 (fillL 69 (0 : Int32) 4 (fillL 77 (-1 : Int32) 8 (fillL 68 (0 : Int32) 4 (fillL 76 (-1 : Int32) 8 (fillL 67 (0 : Int32) 4 (fillL 65 (0 : Int32) 8 (fillL 57 (0 : Int32) 10 I))))))))))))))))))))))))))))) J ((56, 14, 91) :: ((56, 13, 90) :: ((56, 12, 88) :: ((88, 0, 89) :: ((56, 11, 87) :: ((56, 10, 86) :: ((56, 9, 85) :: ((56, 8, 84) :: ((56, 7, 75) :: (rowsL 75 8 ((56, 6, 66) :: (rowsL 66 8 ((56, 5, 65) :: ((56, 4, 64) :: ((56, 3, 63) :: ((56, 2, 62) :: ((56, 1, 58) :: (rowsL 58 3 ((56, 0, 57) :: R)))))))))))))))))))) := by
  refine z_K.of (by decide +kernel) (by show _ ≤ _; first | decide | exact Nat.le_of_ble_eq_true rfl) (lv := [(0, .ref 56)]) rfl ?_
  exact (kX2_clear_56_0_0 I J R (kX2_clear_56_0_1 I J R (kX2_clear_56_0_2 I J R)))
theorem kX2_init_56 (I : List (Nat × Nat × Int32)) (J : List (Nat × Nat × Int64)) (R : List (Nat × Nat × Nat)) : z_K mX2_init 2 35 1800 [.ref 56] (aM 57 I J R) none (aM 92 ((91, 1, (2 : Int32)) :: ((90, 1, (1 : Int32)) :: ((91, 0, (1 : Int32)) :: ((90, 0, (0 : Int32)) :: ((89, 1, (-4 : Int32)) :: ((88, 1, (2 : Int32)) :: ((89, 0, (20 : Int32)) :: ((88, 1, (1 : Int32)) :: ((88, 1, (0 : Int32)) :: ((56, 16, (0 : Int32)) :: ((56, 15, (3 : Int32)) :: (fillL 83 (-1 : Int32) 8 (fillL 74 (0 : Int32) 4 (fillL 82 (-1 : Int32) 8 (fillL 73 (0 : Int32) 4 (fillL 81 (-1 : Int32) 8 (fillL 72 (0 : Int32) 4 (fillL 80 (-1 : Int32) 8 (fillL 71 (0 : Int32) 4 (fillL 79 (-1 : Int32) 8 (fillL 70 (0 : Int32) 4 (fillL 78 (-1 : Int32) 8 (fillL 69 (0 : Int32) 4 (fillL 77 (-1 : Int32) 8 (fillL 68 (0 : Int32) 4 (fillL 76 (-1 : Int32) 8 (fillL 67 (0 : Int32) 4 (fillL 65 (0 : Int32) 8 (fillL 57 (0 : Int32) 10 I))))))))))))))))))))))))))))) J ((56, 14, 91) :: ((56, 13, 90) :: ((56, 12, 88) :: ((88, 0, 89) :: ((56, 11, 87) :: ((56, 10, 86) :: ((56, 9, 85) :: ((56, 8, 84) :: ((56, 7, 75) :: (rowsL 75 8 ((56, 6, 66) :: (rowsL 66 8 ((56, 5, 65) :: ((56, 4, 64) :: ((56, 3, 63) :: ((56, 2, 62) :: ((56, 1, 58) :: (rowsL 58 3 ((56, 0, 57) :: R)))))))))))))))))))) := by
  refine z_K.of (by decide +kernel) (by show _ ≤ _; first | decide | exact Nat.le_of_ble_eq_true rfl) (lv := [(0, .ref 56)]) rfl ?_
  refine z_aload_n (Y := mX2_init) (pc := 0) 0 dX2_init_0 rfl rfl ?_
  refine z_obj (Y := mX2_init) (pc := 1) dX2_init_1 w_453 w_180 w_181 (by decide) ?_
  refine z_aload_n (Y := mX2_init) (pc := 4) 0 dX2_init_4 rfl rfl ?_
  refine z_kml (Y := mX2_init) (pc := 5) dX2_init_5 (fun _ _ h => h.2.2.2.2.2.1) dX2_init_8 ?_
  refine y_newA (Y := mX2_init) (pc := 9) (t := 20) (N := 10) (n' := 58) (cs' := 1) (sl' := 10) dX2_init_9 rfl (by decide) (by decide) w_286 zk_57 (by decide) (by decide) (by decide) rfl rfl rfl (by decide) (by decide) ?_
  refine y_putF (Y := mX2_init) (pc := 11) dX2_init_11 ff_2_13 zk_56 rfl (by decide) rfl ?_
  refine z_aload_n (Y := mX2_init) (pc := 14) 0 dX2_init_14 rfl rfl ?_
  refine z_iconst (Y := mX2_init) (pc := 15) (v := (3 : Int32)) dX2_init_15 (by decide) ?_
  refine z_bipush (Y := mX2_init) (pc := 16) (v := (8 : Int32)) dX2_init_16 (by decide) ?_
  refine y_mul (Y := mX2_init) (pc := 18) (t := 23) (u := 20) (N := 3) (K := 8) (ty := .int) (n' := 62) (cs' := 5) (sl' := 37) dX2_init_18 (Or.inl ⟨rfl, rfl, rfl⟩) w_456 w_286 zk_58 zr_58 (by decide) (by decide) (by decide) (by decide) (by decide) (by decide) rfl rfl rfl (by decide) (by decide) ?_
  refine y_putF (Y := mX2_init) (pc := 22) dX2_init_22 ff_2_20 zk_56 rfl (by decide) rfl ?_
  refine z_aload_n (Y := mX2_init) (pc := 25) 0 dX2_init_25 rfl rfl ?_
  refine z_bipush (Y := mX2_init) (pc := 26) (v := (8 : Int32)) dX2_init_26 (by decide) ?_
  refine y_newA (Y := mX2_init) (pc := 28) (t := 20) (N := 8) (n' := 63) (cs' := 6) (sl' := 45) dX2_init_28 rfl (by decide) (by decide) w_286 zk_62 (by decide) (by decide) (by decide) rfl rfl rfl (by decide) (by decide) ?_
  refine y_putF (Y := mX2_init) (pc := 30) dX2_init_30 ff_2_23 zk_56 rfl (by decide) rfl ?_
  refine z_aload_n (Y := mX2_init) (pc := 33) 0 dX2_init_33 rfl rfl ?_
  refine z_bipush (Y := mX2_init) (pc := 34) (v := (8 : Int32)) dX2_init_34 (by decide) ?_
  refine y_newA (Y := mX2_init) (pc := 36) (t := 20) (N := 8) (n' := 64) (cs' := 7) (sl' := 53) dX2_init_36 rfl (by decide) (by decide) w_286 zk_63 (by decide) (by decide) (by decide) rfl rfl rfl (by decide) (by decide) ?_
  refine y_putF (Y := mX2_init) (pc := 38) dX2_init_38 ff_2_26 zk_56 rfl (by decide) rfl ?_
  refine z_aload_n (Y := mX2_init) (pc := 41) 0 dX2_init_41 rfl rfl ?_
  refine z_bipush (Y := mX2_init) (pc := 42) (v := (8 : Int32)) dX2_init_42 (by decide) ?_
  refine y_newA (Y := mX2_init) (pc := 44) (t := 20) (N := 8) (n' := 65) (cs' := 8) (sl' := 61) dX2_init_44 rfl (by decide) (by decide) w_286 zk_64 (by decide) (by decide) (by decide) rfl rfl rfl (by decide) (by decide) ?_
  refine y_putF (Y := mX2_init) (pc := 46) dX2_init_46 ff_2_29 zk_56 rfl (by decide) rfl ?_
  refine z_aload_n (Y := mX2_init) (pc := 49) 0 dX2_init_49 rfl rfl ?_
  refine z_bipush (Y := mX2_init) (pc := 50) (v := (8 : Int32)) dX2_init_50 (by decide) ?_
  refine y_newA (Y := mX2_init) (pc := 52) (t := 20) (N := 8) (n' := 66) (cs' := 9) (sl' := 69) dX2_init_52 rfl (by decide) (by decide) w_286 zk_65 (by decide) (by decide) (by decide) rfl rfl rfl (by decide) (by decide) ?_
  refine y_putF (Y := mX2_init) (pc := 54) dX2_init_54 ff_2_32 zk_56 rfl (by decide) rfl ?_
  refine z_aload_n (Y := mX2_init) (pc := 57) 0 dX2_init_57 rfl rfl ?_
  refine z_bipush (Y := mX2_init) (pc := 58) (v := (8 : Int32)) dX2_init_58 (by decide) ?_
  refine z_iconst (Y := mX2_init) (pc := 60) (v := (4 : Int32)) dX2_init_60 (by decide) ?_
  refine y_mul (Y := mX2_init) (pc := 61) (t := 23) (u := 20) (N := 8) (K := 4) (ty := .int) (n' := 75) (cs' := 18) (sl' := 109) dX2_init_61 (Or.inl ⟨rfl, rfl, rfl⟩) w_456 w_286 zk_66 zr_66 (by decide) (by decide) (by decide) (by decide) (by decide) (by decide) rfl rfl rfl (by decide) (by decide) ?_
  refine y_putF (Y := mX2_init) (pc := 65) dX2_init_65 ff_2_35 zk_56 rfl (by decide) rfl ?_
  refine z_aload_n (Y := mX2_init) (pc := 68) 0 dX2_init_68 rfl rfl ?_
  refine z_bipush (Y := mX2_init) (pc := 69) (v := (8 : Int32)) dX2_init_69 (by decide) ?_
  refine z_bipush (Y := mX2_init) (pc := 71) (v := (8 : Int32)) dX2_init_71 (by decide) ?_
  refine y_mul (Y := mX2_init) (pc := 73) (t := 23) (u := 20) (N := 8) (K := 8) (ty := .int) (n' := 84) (cs' := 27) (sl' := 181) dX2_init_73 (Or.inl ⟨rfl, rfl, rfl⟩) w_456 w_286 zk_75 zr_75 (by decide) (by decide) (by decide) (by decide) (by decide) (by decide) rfl rfl rfl (by decide) (by decide) ?_
  refine y_putF (Y := mX2_init) (pc := 77) dX2_init_77 ff_2_38 zk_56 rfl (by decide) rfl ?_
  refine z_aload_n (Y := mX2_init) (pc := 80) 0 dX2_init_80 rfl rfl ?_
  refine z_iconst (Y := mX2_init) (pc := 81) (v := (4 : Int32)) dX2_init_81 (by decide) ?_
  refine y_newA (Y := mX2_init) (pc := 82) (t := 20) (N := 4) (n' := 85) (cs' := 28) (sl' := 185) dX2_init_82 rfl (by decide) (by decide) w_286 zk_84 (by decide) (by decide) (by decide) rfl rfl rfl (by decide) (by decide) ?_
  refine y_putF (Y := mX2_init) (pc := 84) dX2_init_84 ff_2_41 zk_56 rfl (by decide) rfl ?_
  refine z_aload_n (Y := mX2_init) (pc := 87) 0 dX2_init_87 rfl rfl ?_
  refine z_iconst (Y := mX2_init) (pc := 88) (v := (3 : Int32)) dX2_init_88 (by decide) ?_
  refine y_newA (Y := mX2_init) (pc := 89) (t := 20) (N := 3) (n' := 86) (cs' := 29) (sl' := 188) dX2_init_89 rfl (by decide) (by decide) w_286 zk_85 (by decide) (by decide) (by decide) rfl rfl rfl (by decide) (by decide) ?_
  refine y_putF (Y := mX2_init) (pc := 91) dX2_init_91 ff_2_44 zk_56 rfl (by decide) rfl ?_
  refine z_aload_n (Y := mX2_init) (pc := 94) 0 dX2_init_94 rfl rfl ?_
  refine z_iconst (Y := mX2_init) (pc := 95) (v := (3 : Int32)) dX2_init_95 (by decide) ?_
  refine y_newA (Y := mX2_init) (pc := 96) (t := 20) (N := 3) (n' := 87) (cs' := 30) (sl' := 191) dX2_init_96 rfl (by decide) (by decide) w_286 zk_86 (by decide) (by decide) (by decide) rfl rfl rfl (by decide) (by decide) ?_
  refine y_putF (Y := mX2_init) (pc := 98) dX2_init_98 ff_2_47 zk_56 rfl (by decide) rfl ?_
  refine z_aload_n (Y := mX2_init) (pc := 101) 0 dX2_init_101 rfl rfl ?_
  refine z_iconst (Y := mX2_init) (pc := 102) (v := (3 : Int32)) dX2_init_102 (by decide) ?_
  refine y_newA (Y := mX2_init) (pc := 103) (t := 20) (N := 3) (n' := 88) (cs' := 31) (sl' := 194) dX2_init_103 rfl (by decide) (by decide) w_286 zk_87 (by decide) (by decide) (by decide) rfl rfl rfl (by decide) (by decide) ?_
  refine y_putF (Y := mX2_init) (pc := 105) dX2_init_105 ff_2_50 zk_56 rfl (by decide) rfl ?_
  refine z_aload_n (Y := mX2_init) (pc := 108) 0 dX2_init_108 rfl rfl ?_
  refine y_new (Y := mX2_init) (pc := 109) (n' := 89) (cs' := 32) (sl' := 196) dX2_init_109 ln_2_53 zk_88 rfl rfl rfl (by decide) (by decide) ?_
  refine z_dup (Y := mX2_init) (pc := 112) dX2_init_112 rfl ?_
  refine y_callIN (Y := mX2_init) (pc := 113) (as := []) (st := [.ref 88, .ref 56]) (cs' := 33) (sl' := 1796) dX2_init_113 lin_2_55 (kX0_init_88 I J ((56, 11, 87) :: ((56, 10, 86) :: ((56, 9, 85) :: ((56, 8, 84) :: ((56, 7, 75) :: (rowsL 75 8 ((56, 6, 66) :: (rowsL 66 8 ((56, 5, 65) :: ((56, 4, 64) :: ((56, 3, 63) :: ((56, 2, 62) :: ((56, 1, 58) :: (rowsL 58 3 ((56, 0, 57) :: R)))))))))))))))) (by decide) rfl rfl (by decide) (by decide) rfl (by decide) rfl ?_
  refine y_putF (Y := mX2_init) (pc := 116) dX2_init_116 ff_2_56 zk_56 rfl (by decide) rfl ?_
  refine z_aload_n (Y := mX2_init) (pc := 119) 0 dX2_init_119 rfl rfl ?_
  refine z_iconst (Y := mX2_init) (pc := 120) (v := (2 : Int32)) dX2_init_120 (by decide) ?_
  refine y_newA (Y := mX2_init) (pc := 121) (t := 20) (N := 2) (n' := 91) (cs' := 34) (sl' := 1798) dX2_init_121 rfl (by decide) (by decide) w_286 zk_90 (by decide) (by decide) (by decide) rfl rfl rfl (by decide) (by decide) ?_
  refine y_putF (Y := mX2_init) (pc := 123) dX2_init_123 ff_2_60 zk_56 rfl (by decide) rfl ?_
  refine z_aload_n (Y := mX2_init) (pc := 126) 0 dX2_init_126 rfl rfl ?_
  refine z_iconst (Y := mX2_init) (pc := 127) (v := (2 : Int32)) dX2_init_127 (by decide) ?_
  refine y_newA (Y := mX2_init) (pc := 128) (t := 20) (N := 2) (n' := 92) (cs' := 35) (sl' := 1800) dX2_init_128 rfl (by decide) (by decide) w_286 zk_91 (by decide) (by decide) (by decide) rfl rfl rfl (by decide) (by decide) ?_
  refine y_putF (Y := mX2_init) (pc := 130) dX2_init_130 ff_2_63 zk_56 rfl (by decide) rfl ?_
  refine z_aload_n (Y := mX2_init) (pc := 133) 0 dX2_init_133 rfl rfl ?_
  refine y_callV (Y := mX2_init) (pc := 134) (as := []) (st := []) dX2_init_134 lk_2_66 (kX2_clear_56_0 I J R) zk_56 rfl (show 56 < 92 by decide) (by decide) (by decide) (by decide) rfl (by decide) rfl ?_
  exact z_vret (Y := mX2_init) (pc := 137) dX2_init_137 rfl (by decide) (by decide)
theorem kX0_init_93 (I : List (Nat × Nat × Int32)) (J : List (Nat × Nat × Int64)) (R : List (Nat × Nat × Nat)) : z_K mX0_init 0 1 1600 [.ref 93] (aM 94 I J R) none (aM 95 I J ((93, 0, 94) :: R)) := by
  refine z_K.of (by decide +kernel) (by show _ ≤ _; first | decide | exact Nat.le_of_ble_eq_true rfl) (lv := [(0, .ref 93)]) rfl ?_
  refine z_aload_n (Y := mX0_init) (pc := 0) 0 dX0_init_0 rfl rfl ?_
  refine z_obj (Y := mX0_init) (pc := 1) dX0_init_1 w_462 w_180 w_181 (by decide) ?_
  refine z_aload_n (Y := mX0_init) (pc := 4) 0 dX0_init_4 rfl rfl ?_
  refine z_sipush (Y := mX0_init) (pc := 5) (v := (1600 : Int32)) dX0_init_5 (by decide) ?_
  refine y_newA (Y := mX0_init) (pc := 8) (t := 20) (N := 1600) (n' := 95) (cs' := 1) (sl' := 1600) dX0_init_8 rfl (by decide) (by decide) w_286 zk_94 (by decide) (by decide) (by decide) rfl rfl rfl (by decide) (by decide) ?_
  refine y_putF (Y := mX0_init) (pc := 10) dX0_init_10 ff_0_9 zk_93 rfl (by decide) rfl ?_
  exact z_vret (Y := mX0_init) (pc := 13) dX0_init_13 rfl (by decide) (by decide)
theorem kX9_init_92 (I : List (Nat × Nat × Int32)) (J : List (Nat × Nat × Int64)) (R : List (Nat × Nat × Nat)) : z_K mX9_init 1 2 1602 [.ref 92, .ref 1] (aM 93 I J R) none (aM 95 I J ((92, 1, 1) :: ((92, 0, 93) :: ((93, 0, 94) :: R)))) := by
  refine z_K.of (by decide +kernel) (by show _ ≤ _; first | decide | exact Nat.le_of_ble_eq_true rfl) (lv := [(0, .ref 92), (1, .ref 1)]) rfl ?_
  refine z_aload_n (Y := mX9_init) (pc := 0) 0 dX9_init_0 rfl rfl ?_
  refine z_obj (Y := mX9_init) (pc := 1) dX9_init_1 w_584 w_180 w_181 (by decide) ?_
  refine z_aload_n (Y := mX9_init) (pc := 4) 0 dX9_init_4 rfl rfl ?_
  refine y_new (Y := mX9_init) (pc := 5) (n' := 94) (cs' := 1) (sl' := 2) dX9_init_5 ln_9_9 zk_93 rfl rfl rfl (by decide) (by decide) ?_
  refine z_dup (Y := mX9_init) (pc := 8) dX9_init_8 rfl ?_
  refine y_callIN (Y := mX9_init) (pc := 9) (as := []) (st := [.ref 93, .ref 92]) (cs' := 2) (sl' := 1602) dX9_init_9 lin_9_11 (kX0_init_93 I J R) (by decide) rfl rfl (by decide) (by decide) rfl (by decide) rfl ?_
  refine y_putF (Y := mX9_init) (pc := 12) dX9_init_12 ff_9_12 zk_92 rfl (by decide) rfl ?_
  refine z_aload_n (Y := mX9_init) (pc := 15) 0 dX9_init_15 rfl rfl ?_
  refine z_aload_n (Y := mX9_init) (pc := 16) 1 dX9_init_16 rfl rfl ?_
  refine y_putF (Y := mX9_init) (pc := 17) dX9_init_17 ff_9_18 zk_92 rfl (by decide) rfl ?_
  exact z_vret (Y := mX9_init) (pc := 20) dX9_init_20 rfl (by decide) (by decide)
theorem kX0_init_128 (I : List (Nat × Nat × Int32)) (J : List (Nat × Nat × Int64)) (R : List (Nat × Nat × Nat)) : z_K mX0_init 0 1 1600 [.ref 128] (aM 129 I J R) none (aM 130 I J ((128, 0, 129) :: R)) := by
  refine z_K.of (by decide +kernel) (by show _ ≤ _; first | decide | exact Nat.le_of_ble_eq_true rfl) (lv := [(0, .ref 128)]) rfl ?_
  refine z_aload_n (Y := mX0_init) (pc := 0) 0 dX0_init_0 rfl rfl ?_
  refine z_obj (Y := mX0_init) (pc := 1) dX0_init_1 w_462 w_180 w_181 (by decide) ?_
  refine z_aload_n (Y := mX0_init) (pc := 4) 0 dX0_init_4 rfl rfl ?_
  refine z_sipush (Y := mX0_init) (pc := 5) (v := (1600 : Int32)) dX0_init_5 (by decide) ?_
  refine y_newA (Y := mX0_init) (pc := 8) (t := 20) (N := 1600) (n' := 130) (cs' := 1) (sl' := 1600) dX0_init_8 rfl (by decide) (by decide) w_286 zk_129 (by decide) (by decide) (by decide) rfl rfl rfl (by decide) (by decide) ?_
  refine y_putF (Y := mX0_init) (pc := 10) dX0_init_10 ff_0_9 zk_128 rfl (by decide) rfl ?_
  exact z_vret (Y := mX0_init) (pc := 13) dX0_init_13 rfl (by decide) (by decide)
theorem kX0_add_128_0 (I : List (Nat × Nat × Int32)) (J : List (Nat × Nat × Int64)) (R : List (Nat × Nat × Nat)) : z_K mX0_add 0 0 0 [.ref 128, .int (20 : Int32)] (aM 132 ((128, 1, (0 : Int32)) :: ((96, 16, (0 : Int32)) :: ((96, 15, (3 : Int32)) :: (fillL 123 (-1 : Int32) 8 (fillL 114 (0 : Int32) 4 (fillL 122 (-1 : Int32) 8 (fillL 113 (0 : Int32) 4 (fillL 121 (-1 : Int32) 8 (fillL 112 (0 : Int32) 4 (fillL 120 (-1 : Int32) 8 (fillL 111 (0 : Int32) 4 (fillL 119 (-1 : Int32) 8 (fillL 110 (0 : Int32) 4 (fillL 118 (-1 : Int32) 8 (fillL 109 (0 : Int32) 4 (fillL 117 (-1 : Int32) 8 (fillL 108 (0 : Int32) 4 (fillL 116 (-1 : Int32) 8 (fillL 107 (0 : Int32) 4 (fillL 105 (0 : Int32) 8 (fillL 97 (0 : Int32) 10 I))))))))))))))))))))) J ((96, 14, 131) :: ((96, 13, 130) :: ((96, 12, 128) :: ((128, 0, 129) :: ((96, 11, 127) :: ((96, 10, 126) :: ((96, 9, 125) :: ((96, 8, 124) :: ((96, 7, 115) :: (rowsL 115 8 ((96, 6, 106) :: (rowsL 106 8 ((96, 5, 105) :: ((96, 4, 104) :: ((96, 3, 103) :: ((96, 2, 102) :: ((96, 1, 98) :: (rowsL 98 3 ((96, 0, 97) :: R)))))))))))))))))))) none (aM 132 ((129, 0, (20 : Int32)) :: ((128, 1, (1 : Int32)) :: ((128, 1, (0 : Int32)) :: ((96, 16, (0 : Int32)) :: ((96, 15, (3 : Int32)) :: (fillL 123 (-1 : Int32) 8 (fillL 114 (0 : Int32) 4 (fillL 122 (-1 : Int32) 8 (fillL 113 (0 : Int32) 4 (fillL 121 (-1 : Int32) 8 (fillL 112 (0 : Int32) 4 (fillL 120 (-1 : Int32) 8 (fillL 111 (0 : Int32) 4 (fillL 119 (-1 : Int32) 8 (fillL 110 (0 : Int32) 4 (fillL 118 (-1 : Int32) 8 (fillL 109 (0 : Int32) 4 (fillL 117 (-1 : Int32) 8 (fillL 108 (0 : Int32) 4 (fillL 116 (-1 : Int32) 8 (fillL 107 (0 : Int32) 4 (fillL 105 (0 : Int32) 8 (fillL 97 (0 : Int32) 10 I))))))))))))))))))))))) J ((96, 14, 131) :: ((96, 13, 130) :: ((96, 12, 128) :: ((128, 0, 129) :: ((96, 11, 127) :: ((96, 10, 126) :: ((96, 9, 125) :: ((96, 8, 124) :: ((96, 7, 115) :: (rowsL 115 8 ((96, 6, 106) :: (rowsL 106 8 ((96, 5, 105) :: ((96, 4, 104) :: ((96, 3, 103) :: ((96, 2, 102) :: ((96, 1, 98) :: (rowsL 98 3 ((96, 0, 97) :: R)))))))))))))))))))) := by
  refine z_K.of (by decide +kernel) (by show _ ≤ _; first | decide | exact Nat.le_of_ble_eq_true rfl) (lv := [(0, .ref 128), (1, .int (20 : Int32))]) rfl ?_
  refine z_aload_n (Y := mX0_add) (pc := 0) 0 dX0_add_0 rfl rfl ?_
  refine y_getI (Y := mX0_add) (pc := 1) (x := (0 : Int32)) dX0_add_1 fl_0_15 zk_128 rfl (by decide) rfl rfl ?_
  refine z_aload_n (Y := mX0_add) (pc := 4) 0 dX0_add_4 rfl rfl ?_
  refine y_getR (Y := mX0_add) (pc := 5) (r := 129) dX0_add_5 fl_0_9 zk_128 rfl (by decide) rfl rfl ?_
  refine y_alen (Y := mX0_add) (pc := 8) (x := (1600 : Int32)) dX0_add_8 zk_129 (by decide) (by decide) (by decide) rfl ?_
  refine z_icmp_ge (Y := mX0_add) (pc := 9) (tgt := 29) dX0_add_9 (by decide) (fun h => absurd h (by decide)) (fun _ => ?_)
  refine z_aload_n (Y := mX0_add) (pc := 12) 0 dX0_add_12 rfl rfl ?_
  refine y_getR (Y := mX0_add) (pc := 13) (r := 129) dX0_add_13 fl_0_9 zk_128 rfl (by decide) rfl rfl ?_
  refine z_aload_n (Y := mX0_add) (pc := 16) 0 dX0_add_16 rfl rfl ?_
  refine z_dup (Y := mX0_add) (pc := 17) dX0_add_17 rfl ?_
  refine y_getI (Y := mX0_add) (pc := 18) (x := (0 : Int32)) dX0_add_18 fl_0_15 zk_128 rfl (by decide) rfl rfl ?_
  refine z_dup_x1 (Y := mX0_add) (pc := 21) dX0_add_21 rfl rfl ?_
  refine z_iconst (Y := mX0_add) (pc := 22) (v := (1 : Int32)) dX0_add_22 (by decide) ?_
  refine z_iadd (Y := mX0_add) (pc := 23) dX0_add_23 ?_
  show z_G mX0_add 0 0 0 none _ 24 [(0, .ref 128), (1, .int (20 : Int32))] [.int (1 : Int32), .ref 128, .int (0 : Int32), .ref 129] 0 0 (aM 132 ((128, 1, (0 : Int32)) :: ((96, 16, (0 : Int32)) :: ((96, 15, (3 : Int32)) :: (fillL 123 (-1 : Int32) 8 (fillL 114 (0 : Int32) 4 (fillL 122 (-1 : Int32) 8 (fillL 113 (0 : Int32) 4 (fillL 121 (-1 : Int32) 8 (fillL 112 (0 : Int32) 4 (fillL 120 (-1 : Int32) 8 (fillL 111 (0 : Int32) 4 (fillL 119 (-1 : Int32) 8 (fillL 110 (0 : Int32) 4 (fillL 118 (-1 : Int32) 8 (fillL 109 (0 : Int32) 4 (fillL 117 (-1 : Int32) 8 (fillL 108 (0 : Int32) 4 (fillL 116 (-1 : Int32) 8 (fillL 107 (0 : Int32) 4 (fillL 105 (0 : Int32) 8 (fillL 97 (0 : Int32) 10 I))))))))))))))))))))) J ((96, 14, 131) :: ((96, 13, 130) :: ((96, 12, 128) :: ((128, 0, 129) :: ((96, 11, 127) :: ((96, 10, 126) :: ((96, 9, 125) :: ((96, 8, 124) :: ((96, 7, 115) :: (rowsL 115 8 ((96, 6, 106) :: (rowsL 106 8 ((96, 5, 105) :: ((96, 4, 104) :: ((96, 3, 103) :: ((96, 2, 102) :: ((96, 1, 98) :: (rowsL 98 3 ((96, 0, 97) :: R))))))))))))))))))))
  refine y_putI (Y := mX0_add) (pc := 24) dX0_add_24 fl_0_15 zk_128 rfl (by decide) rfl rfl ?_
  refine z_iload_n (Y := mX0_add) (pc := 27) 1 dX0_add_27 rfl rfl ?_
  refine y_iast (Y := mX0_add) (pc := 28) (k := 0) dX0_add_28 zk_129 (by decide) (by unfold vp_in; decide) (by decide) ?_
  exact z_vret (Y := mX0_add) (pc := 29) dX0_add_29 rfl (by decide) (by decide)
theorem kX0_add_128_1 (I : List (Nat × Nat × Int32)) (J : List (Nat × Nat × Int64)) (R : List (Nat × Nat × Nat)) : z_K mX0_add 0 0 0 [.ref 128, .int (-4 : Int32)] (aM 132 ((129, 0, (20 : Int32)) :: ((128, 1, (1 : Int32)) :: ((128, 1, (0 : Int32)) :: ((96, 16, (0 : Int32)) :: ((96, 15, (3 : Int32)) :: (fillL 123 (-1 : Int32) 8 (fillL 114 (0 : Int32) 4 (fillL 122 (-1 : Int32) 8 (fillL 113 (0 : Int32) 4 (fillL 121 (-1 : Int32) 8 (fillL 112 (0 : Int32) 4 (fillL 120 (-1 : Int32) 8 (fillL 111 (0 : Int32) 4 (fillL 119 (-1 : Int32) 8 (fillL 110 (0 : Int32) 4 (fillL 118 (-1 : Int32) 8 (fillL 109 (0 : Int32) 4 (fillL 117 (-1 : Int32) 8 (fillL 108 (0 : Int32) 4 (fillL 116 (-1 : Int32) 8 (fillL 107 (0 : Int32) 4 (fillL 105 (0 : Int32) 8 (fillL 97 (0 : Int32) 10 I))))))))))))))))))))))) J ((96, 14, 131) :: ((96, 13, 130) :: ((96, 12, 128) :: ((128, 0, 129) :: ((96, 11, 127) :: ((96, 10, 126) :: ((96, 9, 125) :: ((96, 8, 124) :: ((96, 7, 115) :: (rowsL 115 8 ((96, 6, 106) :: (rowsL 106 8 ((96, 5, 105) :: ((96, 4, 104) :: ((96, 3, 103) :: ((96, 2, 102) :: ((96, 1, 98) :: (rowsL 98 3 ((96, 0, 97) :: R)))))))))))))))))))) none (aM 132 ((129, 1, (-4 : Int32)) :: ((128, 1, (2 : Int32)) :: ((129, 0, (20 : Int32)) :: ((128, 1, (1 : Int32)) :: ((128, 1, (0 : Int32)) :: ((96, 16, (0 : Int32)) :: ((96, 15, (3 : Int32)) :: (fillL 123 (-1 : Int32) 8 (fillL 114 (0 : Int32) 4 (fillL 122 (-1 : Int32) 8 (fillL 113 (0 : Int32) 4 (fillL 121 (-1 : Int32) 8 (fillL 112 (0 : Int32) 4 (fillL 120 (-1 : Int32) 8 (fillL 111 (0 : Int32) 4 (fillL 119 (-1 : Int32) 8 (fillL 110 (0 : Int32) 4 (fillL 118 (-1 : Int32) 8 (fillL 109 (0 : Int32) 4 (fillL 117 (-1 : Int32) 8 (fillL 108 (0 : Int32) 4 (fillL 116 (-1 : Int32) 8 (fillL 107 (0 : Int32) 4 (fillL 105 (0 : Int32) 8 (fillL 97 (0 : Int32) 10 I))))))))))))))))))))))))) J ((96, 14, 131) :: ((96, 13, 130) :: ((96, 12, 128) :: ((128, 0, 129) :: ((96, 11, 127) :: ((96, 10, 126) :: ((96, 9, 125) :: ((96, 8, 124) :: ((96, 7, 115) :: (rowsL 115 8 ((96, 6, 106) :: (rowsL 106 8 ((96, 5, 105) :: ((96, 4, 104) :: ((96, 3, 103) :: ((96, 2, 102) :: ((96, 1, 98) :: (rowsL 98 3 ((96, 0, 97) :: R)))))))))))))))))))) := by
  refine z_K.of (by decide +kernel) (by show _ ≤ _; first | decide | exact Nat.le_of_ble_eq_true rfl) (lv := [(0, .ref 128), (1, .int (-4 : Int32))]) rfl ?_
  refine z_aload_n (Y := mX0_add) (pc := 0) 0 dX0_add_0 rfl rfl ?_
  refine y_getI (Y := mX0_add) (pc := 1) (x := (1 : Int32)) dX0_add_1 fl_0_15 zk_128 rfl (by decide) rfl rfl ?_
  refine z_aload_n (Y := mX0_add) (pc := 4) 0 dX0_add_4 rfl rfl ?_
  refine y_getR (Y := mX0_add) (pc := 5) (r := 129) dX0_add_5 fl_0_9 zk_128 rfl (by decide) rfl rfl ?_
  refine y_alen (Y := mX0_add) (pc := 8) (x := (1600 : Int32)) dX0_add_8 zk_129 (by decide) (by decide) (by decide) rfl ?_
  refine z_icmp_ge (Y := mX0_add) (pc := 9) (tgt := 29) dX0_add_9 (by decide) (fun h => absurd h (by decide)) (fun _ => ?_)
  refine z_aload_n (Y := mX0_add) (pc := 12) 0 dX0_add_12 rfl rfl ?_
  refine y_getR (Y := mX0_add) (pc := 13) (r := 129) dX0_add_13 fl_0_9 zk_128 rfl (by decide) rfl rfl ?_
  refine z_aload_n (Y := mX0_add) (pc := 16) 0 dX0_add_16 rfl rfl ?_
  refine z_dup (Y := mX0_add) (pc := 17) dX0_add_17 rfl ?_
  refine y_getI (Y := mX0_add) (pc := 18) (x := (1 : Int32)) dX0_add_18 fl_0_15 zk_128 rfl (by decide) rfl rfl ?_
  refine z_dup_x1 (Y := mX0_add) (pc := 21) dX0_add_21 rfl rfl ?_
  refine z_iconst (Y := mX0_add) (pc := 22) (v := (1 : Int32)) dX0_add_22 (by decide) ?_
  refine z_iadd (Y := mX0_add) (pc := 23) dX0_add_23 ?_
  show z_G mX0_add 0 0 0 none _ 24 [(0, .ref 128), (1, .int (-4 : Int32))] [.int (2 : Int32), .ref 128, .int (1 : Int32), .ref 129] 0 0 (aM 132 ((129, 0, (20 : Int32)) :: ((128, 1, (1 : Int32)) :: ((128, 1, (0 : Int32)) :: ((96, 16, (0 : Int32)) :: ((96, 15, (3 : Int32)) :: (fillL 123 (-1 : Int32) 8 (fillL 114 (0 : Int32) 4 (fillL 122 (-1 : Int32) 8 (fillL 113 (0 : Int32) 4 (fillL 121 (-1 : Int32) 8 (fillL 112 (0 : Int32) 4 (fillL 120 (-1 : Int32) 8 (fillL 111 (0 : Int32) 4 (fillL 119 (-1 : Int32) 8 (fillL 110 (0 : Int32) 4 (fillL 118 (-1 : Int32) 8 (fillL 109 (0 : Int32) 4 (fillL 117 (-1 : Int32) 8 (fillL 108 (0 : Int32) 4 (fillL 116 (-1 : Int32) 8 (fillL 107 (0 : Int32) 4 (fillL 105 (0 : Int32) 8 (fillL 97 (0 : Int32) 10 I))))))))))))))))))))))) J ((96, 14, 131) :: ((96, 13, 130) :: ((96, 12, 128) :: ((128, 0, 129) :: ((96, 11, 127) :: ((96, 10, 126) :: ((96, 9, 125) :: ((96, 8, 124) :: ((96, 7, 115) :: (rowsL 115 8 ((96, 6, 106) :: (rowsL 106 8 ((96, 5, 105) :: ((96, 4, 104) :: ((96, 3, 103) :: ((96, 2, 102) :: ((96, 1, 98) :: (rowsL 98 3 ((96, 0, 97) :: R))))))))))))))))))))
  refine y_putI (Y := mX0_add) (pc := 24) dX0_add_24 fl_0_15 zk_128 rfl (by decide) rfl rfl ?_
  refine z_iload_n (Y := mX0_add) (pc := 27) 1 dX0_add_27 rfl rfl ?_
  refine y_iast (Y := mX0_add) (pc := 28) (k := 1) dX0_add_28 zk_129 (by decide) (by unfold vp_in; decide) (by decide) ?_
  exact z_vret (Y := mX0_add) (pc := 29) dX0_add_29 rfl (by decide) (by decide)
set_option maxRecDepth 100000 in
set_option maxHeartbeats 4000000 in
theorem kX2_clear_96_0_0 {M' : z_M} (I : List (Nat × Nat × Int32)) (J : List (Nat × Nat × Int64)) (R : List (Nat × Nat × Nat)) (k : z_G mX2_clear 1 0 0 none M' 39 [(1, .int (4 : Int32)), (0, .ref 96)] [.int (4 : Int32), .ref 115] 0 0 (aM 132 (fillL 111 (0 : Int32) 4 (fillL 119 (-1 : Int32) 8 (fillL 110 (0 : Int32) 4 (fillL 118 (-1 : Int32) 8 (fillL 109 (0 : Int32) 4 (fillL 117 (-1 : Int32) 8 (fillL 108 (0 : Int32) 4 (fillL 116 (-1 : Int32) 8 (fillL 107 (0 : Int32) 4 (fillL 105 (0 : Int32) 8 (fillL 97 (0 : Int32) 10 I))))))))))) J ((96, 14, 131) :: ((96, 13, 130) :: ((96, 12, 128) :: ((128, 0, 129) :: ((96, 11, 127) :: ((96, 10, 126) :: ((96, 9, 125) :: ((96, 8, 124) :: ((96, 7, 115) :: (rowsL 115 8 ((96, 6, 106) :: (rowsL 106 8 ((96, 5, 105) :: ((96, 4, 104) :: ((96, 3, 103) :: ((96, 2, 102) :: ((96, 1, 98) :: (rowsL 98 3 ((96, 0, 97) :: R))))))))))))))))))))) : z_G mX2_clear 1 0 0 none M' 0 [(0, .ref 96)] [] 0 0 (aM 132 I J ((96, 14, 131) :: ((96, 13, 130) :: ((96, 12, 128) :: ((128, 0, 129) :: ((96, 11, 127) :: ((96, 10, 126) :: ((96, 9, 125) :: ((96, 8, 124) :: ((96, 7, 115) :: (rowsL 115 8 ((96, 6, 106) :: (rowsL 106 8 ((96, 5, 105) :: ((96, 4, 104) :: ((96, 3, 103) :: ((96, 2, 102) :: ((96, 1, 98) :: (rowsL 98 3 ((96, 0, 97) :: R)))))))))))))))))))) := by
  refine z_aload_n (Y := mX2_clear) (pc := 0) 0 dX2_clear_0 rfl rfl ?_
  refine y_getR (Y := mX2_clear) (pc := 1) (r := 97) dX2_clear_1 fl_2_13 zk_96 rfl (by decide) rfl rfl ?_
  refine z_iconst (Y := mX2_clear) (pc := 4) (v := (0 : Int32)) dX2_clear_4 (by decide) ?_
  refine y_callS (Y := mX2_clear) (pc := 5) (as := [.ref 97, .int (0 : Int32)]) (st := []) dX2_clear_5 lk_2_69 (kF (0 : Int32) I J ((96, 14, 131) :: ((96, 13, 130) :: ((96, 12, 128) :: ((128, 0, 129) :: ((96, 11, 127) :: ((96, 10, 126) :: ((96, 9, 125) :: ((96, 8, 124) :: ((96, 7, 115) :: (rowsL 115 8 ((96, 6, 106) :: (rowsL 106 8 ((96, 5, 105) :: ((96, 4, 104) :: ((96, 3, 103) :: ((96, 2, 102) :: ((96, 1, 98) :: (rowsL 98 3 ((96, 0, 97) :: R))))))))))))))))))) zk_97 (by decide) (by decide)) (by decide) (by decide) (by decide) rfl (by decide) rfl ?_
  refine z_aload_n (Y := mX2_clear) (pc := 8) 0 dX2_clear_8 rfl rfl ?_
  refine y_getR (Y := mX2_clear) (pc := 9) (r := 105) dX2_clear_9 fl_2_32 zk_96 rfl (by decide) rfl rfl ?_
  refine z_iconst (Y := mX2_clear) (pc := 12) (v := (0 : Int32)) dX2_clear_12 (by decide) ?_
  refine y_callS (Y := mX2_clear) (pc := 13) (as := [.ref 105, .int (0 : Int32)]) (st := []) dX2_clear_13 lk_2_69 (kF (0 : Int32) (fillL 97 (0 : Int32) 10 I) J ((96, 14, 131) :: ((96, 13, 130) :: ((96, 12, 128) :: ((128, 0, 129) :: ((96, 11, 127) :: ((96, 10, 126) :: ((96, 9, 125) :: ((96, 8, 124) :: ((96, 7, 115) :: (rowsL 115 8 ((96, 6, 106) :: (rowsL 106 8 ((96, 5, 105) :: ((96, 4, 104) :: ((96, 3, 103) :: ((96, 2, 102) :: ((96, 1, 98) :: (rowsL 98 3 ((96, 0, 97) :: R))))))))))))))))))) zk_105 (by decide) (by decide)) (by decide) (by decide) (by decide) rfl (by decide) rfl ?_
  refine z_iconst (Y := mX2_clear) (pc := 16) (v := (0 : Int32)) dX2_clear_16 (by decide) ?_
  refine z_istore_n (Y := mX2_clear) (pc := 17) (lv' := [(1, .int (0 : Int32)), (0, .ref 96)]) dX2_clear_17 rfl (by decide) rfl ?_
  refine z_iload_n (Y := mX2_clear) (pc := 18) 0 dX2_clear_18 rfl rfl ?_
  refine z_bipush (Y := mX2_clear) (pc := 19) (v := (8 : Int32)) dX2_clear_19 (by decide) ?_
  refine z_icmp_ge (Y := mX2_clear) (pc := 21) (tgt := 50) dX2_clear_21 (by decide) (fun h => absurd h (by decide)) (fun _ => ?_)
  refine z_aload_n (Y := mX2_clear) (pc := 24) 1 dX2_clear_24 rfl rfl ?_
  refine y_getR (Y := mX2_clear) (pc := 25) (r := 106) dX2_clear_25 fl_2_35 zk_96 rfl (by decide) rfl rfl ?_
  refine z_iload_n (Y := mX2_clear) (pc := 28) 0 dX2_clear_28 rfl rfl ?_
  refine y_aald (Y := mX2_clear) (pc := 29) (k := 0) (r := 107) dX2_clear_29 zk_106 (by decide) (by decide) (by decide) (by unfold vp_in; decide) (by decide) rfl ?_
  refine z_iconst (Y := mX2_clear) (pc := 30) (v := (0 : Int32)) dX2_clear_30 (by decide) ?_
  refine y_callS (Y := mX2_clear) (pc := 31) (as := [.ref 107, .int (0 : Int32)]) (st := []) dX2_clear_31 lk_2_69 (kF (0 : Int32) (fillL 105 (0 : Int32) 8 (fillL 97 (0 : Int32) 10 I)) J ((96, 14, 131) :: ((96, 13, 130) :: ((96, 12, 128) :: ((128, 0, 129) :: ((96, 11, 127) :: ((96, 10, 126) :: ((96, 9, 125) :: ((96, 8, 124) :: ((96, 7, 115) :: (rowsL 115 8 ((96, 6, 106) :: (rowsL 106 8 ((96, 5, 105) :: ((96, 4, 104) :: ((96, 3, 103) :: ((96, 2, 102) :: ((96, 1, 98) :: (rowsL 98 3 ((96, 0, 97) :: R))))))))))))))))))) zk_107 (by decide) (by decide)) (by decide) (by decide) (by decide) rfl (by decide) rfl ?_
  refine z_aload_n (Y := mX2_clear) (pc := 34) 1 dX2_clear_34 rfl rfl ?_
  refine y_getR (Y := mX2_clear) (pc := 35) (r := 115) dX2_clear_35 fl_2_38 zk_96 rfl (by decide) rfl rfl ?_
  refine z_iload_n (Y := mX2_clear) (pc := 38) 0 dX2_clear_38 rfl rfl ?_
  refine y_aald (Y := mX2_clear) (pc := 39) (k := 0) (r := 116) dX2_clear_39 zk_115 (by decide) (by decide) (by decide) (by unfold vp_in; decide) (by decide) rfl ?_
  refine z_iconst (Y := mX2_clear) (pc := 40) (v := (-1 : Int32)) dX2_clear_40 (by decide) ?_
  refine y_callS (Y := mX2_clear) (pc := 41) (as := [.ref 116, .int (-1 : Int32)]) (st := []) dX2_clear_41 lk_2_69 (kF (-1 : Int32) (fillL 107 (0 : Int32) 4 (fillL 105 (0 : Int32) 8 (fillL 97 (0 : Int32) 10 I))) J ((96, 14, 131) :: ((96, 13, 130) :: ((96, 12, 128) :: ((128, 0, 129) :: ((96, 11, 127) :: ((96, 10, 126) :: ((96, 9, 125) :: ((96, 8, 124) :: ((96, 7, 115) :: (rowsL 115 8 ((96, 6, 106) :: (rowsL 106 8 ((96, 5, 105) :: ((96, 4, 104) :: ((96, 3, 103) :: ((96, 2, 102) :: ((96, 1, 98) :: (rowsL 98 3 ((96, 0, 97) :: R))))))))))))))))))) zk_116 (by decide) (by decide)) (by decide) (by decide) (by decide) rfl (by decide) rfl ?_
  refine z_iinc (Y := mX2_clear) (pc := 44) (v := (1 : Int32)) (lv' := [(1, .int (1 : Int32)), (0, .ref 96)]) 0 dX2_clear_44 rfl (by decide) (by decide) rfl ?_
  refine z_goto (Y := mX2_clear) (pc := 47) (tgt := 18) dX2_clear_47 (by decide) ?_
  refine z_iload_n (Y := mX2_clear) (pc := 18) 0 dX2_clear_18 rfl rfl ?_
  refine z_bipush (Y := mX2_clear) (pc := 19) (v := (8 : Int32)) dX2_clear_19 (by decide) ?_
  refine z_icmp_ge (Y := mX2_clear) (pc := 21) (tgt := 50) dX2_clear_21 (by decide) (fun h => absurd h (by decide)) (fun _ => ?_)
  refine z_aload_n (Y := mX2_clear) (pc := 24) 1 dX2_clear_24 rfl rfl ?_
  refine y_getR (Y := mX2_clear) (pc := 25) (r := 106) dX2_clear_25 fl_2_35 zk_96 rfl (by decide) rfl rfl ?_
  refine z_iload_n (Y := mX2_clear) (pc := 28) 0 dX2_clear_28 rfl rfl ?_
  refine y_aald (Y := mX2_clear) (pc := 29) (k := 1) (r := 108) dX2_clear_29 zk_106 (by decide) (by decide) (by decide) (by unfold vp_in; decide) (by decide) rfl ?_
  refine z_iconst (Y := mX2_clear) (pc := 30) (v := (0 : Int32)) dX2_clear_30 (by decide) ?_
  refine y_callS (Y := mX2_clear) (pc := 31) (as := [.ref 108, .int (0 : Int32)]) (st := []) dX2_clear_31 lk_2_69 (kF (0 : Int32) (fillL 116 (-1 : Int32) 8 (fillL 107 (0 : Int32) 4 (fillL 105 (0 : Int32) 8 (fillL 97 (0 : Int32) 10 I)))) J ((96, 14, 131) :: ((96, 13, 130) :: ((96, 12, 128) :: ((128, 0, 129) :: ((96, 11, 127) :: ((96, 10, 126) :: ((96, 9, 125) :: ((96, 8, 124) :: ((96, 7, 115) :: (rowsL 115 8 ((96, 6, 106) :: (rowsL 106 8 ((96, 5, 105) :: ((96, 4, 104) :: ((96, 3, 103) :: ((96, 2, 102) :: ((96, 1, 98) :: (rowsL 98 3 ((96, 0, 97) :: R))))))))))))))))))) zk_108 (by decide) (by decide)) (by decide) (by decide) (by decide) rfl (by decide) rfl ?_
  refine z_aload_n (Y := mX2_clear) (pc := 34) 1 dX2_clear_34 rfl rfl ?_
  refine y_getR (Y := mX2_clear) (pc := 35) (r := 115) dX2_clear_35 fl_2_38 zk_96 rfl (by decide) rfl rfl ?_
  refine z_iload_n (Y := mX2_clear) (pc := 38) 0 dX2_clear_38 rfl rfl ?_
  refine y_aald (Y := mX2_clear) (pc := 39) (k := 1) (r := 117) dX2_clear_39 zk_115 (by decide) (by decide) (by decide) (by unfold vp_in; decide) (by decide) rfl ?_
  refine z_iconst (Y := mX2_clear) (pc := 40) (v := (-1 : Int32)) dX2_clear_40 (by decide) ?_
  refine y_callS (Y := mX2_clear) (pc := 41) (as := [.ref 117, .int (-1 : Int32)]) (st := []) dX2_clear_41 lk_2_69 (kF (-1 : Int32) (fillL 108 (0 : Int32) 4 (fillL 116 (-1 : Int32) 8 (fillL 107 (0 : Int32) 4 (fillL 105 (0 : Int32) 8 (fillL 97 (0 : Int32) 10 I))))) J ((96, 14, 131) :: ((96, 13, 130) :: ((96, 12, 128) :: ((128, 0, 129) :: ((96, 11, 127) :: ((96, 10, 126) :: ((96, 9, 125) :: ((96, 8, 124) :: ((96, 7, 115) :: (rowsL 115 8 ((96, 6, 106) :: (rowsL 106 8 ((96, 5, 105) :: ((96, 4, 104) :: ((96, 3, 103) :: ((96, 2, 102) :: ((96, 1, 98) :: (rowsL 98 3 ((96, 0, 97) :: R))))))))))))))))))) zk_117 (by decide) (by decide)) (by decide) (by decide) (by decide) rfl (by decide) rfl ?_
  refine z_iinc (Y := mX2_clear) (pc := 44) (v := (2 : Int32)) (lv' := [(1, .int (2 : Int32)), (0, .ref 96)]) 0 dX2_clear_44 rfl (by decide) (by decide) rfl ?_
  refine z_goto (Y := mX2_clear) (pc := 47) (tgt := 18) dX2_clear_47 (by decide) ?_
  refine z_iload_n (Y := mX2_clear) (pc := 18) 0 dX2_clear_18 rfl rfl ?_
  refine z_bipush (Y := mX2_clear) (pc := 19) (v := (8 : Int32)) dX2_clear_19 (by decide) ?_
  refine z_icmp_ge (Y := mX2_clear) (pc := 21) (tgt := 50) dX2_clear_21 (by decide) (fun h => absurd h (by decide)) (fun _ => ?_)
  refine z_aload_n (Y := mX2_clear) (pc := 24) 1 dX2_clear_24 rfl rfl ?_
  refine y_getR (Y := mX2_clear) (pc := 25) (r := 106) dX2_clear_25 fl_2_35 zk_96 rfl (by decide) rfl rfl ?_
  refine z_iload_n (Y := mX2_clear) (pc := 28) 0 dX2_clear_28 rfl rfl ?_
  refine y_aald (Y := mX2_clear) (pc := 29) (k := 2) (r := 109) dX2_clear_29 zk_106 (by decide) (by decide) (by decide) (by unfold vp_in; decide) (by decide) rfl ?_
  refine z_iconst (Y := mX2_clear) (pc := 30) (v := (0 : Int32)) dX2_clear_30 (by decide) ?_
  refine y_callS (Y := mX2_clear) (pc := 31) (as := [.ref 109, .int (0 : Int32)]) (st := []) dX2_clear_31 lk_2_69 (kF (0 : Int32) (fillL 117 (-1 : Int32) 8 (fillL 108 (0 : Int32) 4 (fillL 116 (-1 : Int32) 8 (fillL 107 (0 : Int32) 4 (fillL 105 (0 : Int32) 8 (fillL 97 (0 : Int32) 10 I)))))) J ((96, 14, 131) :: ((96, 13, 130) :: ((96, 12, 128) :: ((128, 0, 129) :: ((96, 11, 127) :: ((96, 10, 126) :: ((96, 9, 125) :: ((96, 8, 124) :: ((96, 7, 115) :: (rowsL 115 8 ((96, 6, 106) :: (rowsL 106 8 ((96, 5, 105) :: ((96, 4, 104) :: ((96, 3, 103) :: ((96, 2, 102) :: ((96, 1, 98) :: (rowsL 98 3 ((96, 0, 97) :: R))))))))))))))))))) zk_109 (by decide) (by decide)) (by decide) (by decide) (by decide) rfl (by decide) rfl ?_
  refine z_aload_n (Y := mX2_clear) (pc := 34) 1 dX2_clear_34 rfl rfl ?_
  refine y_getR (Y := mX2_clear) (pc := 35) (r := 115) dX2_clear_35 fl_2_38 zk_96 rfl (by decide) rfl rfl ?_
  refine z_iload_n (Y := mX2_clear) (pc := 38) 0 dX2_clear_38 rfl rfl ?_
  refine y_aald (Y := mX2_clear) (pc := 39) (k := 2) (r := 118) dX2_clear_39 zk_115 (by decide) (by decide) (by decide) (by unfold vp_in; decide) (by decide) rfl ?_
  refine z_iconst (Y := mX2_clear) (pc := 40) (v := (-1 : Int32)) dX2_clear_40 (by decide) ?_
  refine y_callS (Y := mX2_clear) (pc := 41) (as := [.ref 118, .int (-1 : Int32)]) (st := []) dX2_clear_41 lk_2_69 (kF (-1 : Int32) (fillL 109 (0 : Int32) 4 (fillL 117 (-1 : Int32) 8 (fillL 108 (0 : Int32) 4 (fillL 116 (-1 : Int32) 8 (fillL 107 (0 : Int32) 4 (fillL 105 (0 : Int32) 8 (fillL 97 (0 : Int32) 10 I))))))) J ((96, 14, 131) :: ((96, 13, 130) :: ((96, 12, 128) :: ((128, 0, 129) :: ((96, 11, 127) :: ((96, 10, 126) :: ((96, 9, 125) :: ((96, 8, 124) :: ((96, 7, 115) :: (rowsL 115 8 ((96, 6, 106) :: (rowsL 106 8 ((96, 5, 105) :: ((96, 4, 104) :: ((96, 3, 103) :: ((96, 2, 102) :: ((96, 1, 98) :: (rowsL 98 3 ((96, 0, 97) :: R))))))))))))))))))) zk_118 (by decide) (by decide)) (by decide) (by decide) (by decide) rfl (by decide) rfl ?_
  refine z_iinc (Y := mX2_clear) (pc := 44) (v := (3 : Int32)) (lv' := [(1, .int (3 : Int32)), (0, .ref 96)]) 0 dX2_clear_44 rfl (by decide) (by decide) rfl ?_
  refine z_goto (Y := mX2_clear) (pc := 47) (tgt := 18) dX2_clear_47 (by decide) ?_
  refine z_iload_n (Y := mX2_clear) (pc := 18) 0 dX2_clear_18 rfl rfl ?_
  refine z_bipush (Y := mX2_clear) (pc := 19) (v := (8 : Int32)) dX2_clear_19 (by decide) ?_
  refine z_icmp_ge (Y := mX2_clear) (pc := 21) (tgt := 50) dX2_clear_21 (by decide) (fun h => absurd h (by decide)) (fun _ => ?_)
  refine z_aload_n (Y := mX2_clear) (pc := 24) 1 dX2_clear_24 rfl rfl ?_
  refine y_getR (Y := mX2_clear) (pc := 25) (r := 106) dX2_clear_25 fl_2_35 zk_96 rfl (by decide) rfl rfl ?_
  refine z_iload_n (Y := mX2_clear) (pc := 28) 0 dX2_clear_28 rfl rfl ?_
  refine y_aald (Y := mX2_clear) (pc := 29) (k := 3) (r := 110) dX2_clear_29 zk_106 (by decide) (by decide) (by decide) (by unfold vp_in; decide) (by decide) rfl ?_
  refine z_iconst (Y := mX2_clear) (pc := 30) (v := (0 : Int32)) dX2_clear_30 (by decide) ?_
  refine y_callS (Y := mX2_clear) (pc := 31) (as := [.ref 110, .int (0 : Int32)]) (st := []) dX2_clear_31 lk_2_69 (kF (0 : Int32) (fillL 118 (-1 : Int32) 8 (fillL 109 (0 : Int32) 4 (fillL 117 (-1 : Int32) 8 (fillL 108 (0 : Int32) 4 (fillL 116 (-1 : Int32) 8 (fillL 107 (0 : Int32) 4 (fillL 105 (0 : Int32) 8 (fillL 97 (0 : Int32) 10 I)))))))) J ((96, 14, 131) :: ((96, 13, 130) :: ((96, 12, 128) :: ((128, 0, 129) :: ((96, 11, 127) :: ((96, 10, 126) :: ((96, 9, 125) :: ((96, 8, 124) :: ((96, 7, 115) :: (rowsL 115 8 ((96, 6, 106) :: (rowsL 106 8 ((96, 5, 105) :: ((96, 4, 104) :: ((96, 3, 103) :: ((96, 2, 102) :: ((96, 1, 98) :: (rowsL 98 3 ((96, 0, 97) :: R))))))))))))))))))) zk_110 (by decide) (by decide)) (by decide) (by decide) (by decide) rfl (by decide) rfl ?_
  refine z_aload_n (Y := mX2_clear) (pc := 34) 1 dX2_clear_34 rfl rfl ?_
  refine y_getR (Y := mX2_clear) (pc := 35) (r := 115) dX2_clear_35 fl_2_38 zk_96 rfl (by decide) rfl rfl ?_
  refine z_iload_n (Y := mX2_clear) (pc := 38) 0 dX2_clear_38 rfl rfl ?_
  refine y_aald (Y := mX2_clear) (pc := 39) (k := 3) (r := 119) dX2_clear_39 zk_115 (by decide) (by decide) (by decide) (by unfold vp_in; decide) (by decide) rfl ?_
  refine z_iconst (Y := mX2_clear) (pc := 40) (v := (-1 : Int32)) dX2_clear_40 (by decide) ?_
  refine y_callS (Y := mX2_clear) (pc := 41) (as := [.ref 119, .int (-1 : Int32)]) (st := []) dX2_clear_41 lk_2_69 (kF (-1 : Int32) (fillL 110 (0 : Int32) 4 (fillL 118 (-1 : Int32) 8 (fillL 109 (0 : Int32) 4 (fillL 117 (-1 : Int32) 8 (fillL 108 (0 : Int32) 4 (fillL 116 (-1 : Int32) 8 (fillL 107 (0 : Int32) 4 (fillL 105 (0 : Int32) 8 (fillL 97 (0 : Int32) 10 I))))))))) J ((96, 14, 131) :: ((96, 13, 130) :: ((96, 12, 128) :: ((128, 0, 129) :: ((96, 11, 127) :: ((96, 10, 126) :: ((96, 9, 125) :: ((96, 8, 124) :: ((96, 7, 115) :: (rowsL 115 8 ((96, 6, 106) :: (rowsL 106 8 ((96, 5, 105) :: ((96, 4, 104) :: ((96, 3, 103) :: ((96, 2, 102) :: ((96, 1, 98) :: (rowsL 98 3 ((96, 0, 97) :: R))))))))))))))))))) zk_119 (by decide) (by decide)) (by decide) (by decide) (by decide) rfl (by decide) rfl ?_
  refine z_iinc (Y := mX2_clear) (pc := 44) (v := (4 : Int32)) (lv' := [(1, .int (4 : Int32)), (0, .ref 96)]) 0 dX2_clear_44 rfl (by decide) (by decide) rfl ?_
  refine z_goto (Y := mX2_clear) (pc := 47) (tgt := 18) dX2_clear_47 (by decide) ?_
  refine z_iload_n (Y := mX2_clear) (pc := 18) 0 dX2_clear_18 rfl rfl ?_
  refine z_bipush (Y := mX2_clear) (pc := 19) (v := (8 : Int32)) dX2_clear_19 (by decide) ?_
  refine z_icmp_ge (Y := mX2_clear) (pc := 21) (tgt := 50) dX2_clear_21 (by decide) (fun h => absurd h (by decide)) (fun _ => ?_)
  refine z_aload_n (Y := mX2_clear) (pc := 24) 1 dX2_clear_24 rfl rfl ?_
  refine y_getR (Y := mX2_clear) (pc := 25) (r := 106) dX2_clear_25 fl_2_35 zk_96 rfl (by decide) rfl rfl ?_
  refine z_iload_n (Y := mX2_clear) (pc := 28) 0 dX2_clear_28 rfl rfl ?_
  refine y_aald (Y := mX2_clear) (pc := 29) (k := 4) (r := 111) dX2_clear_29 zk_106 (by decide) (by decide) (by decide) (by unfold vp_in; decide) (by decide) rfl ?_
  refine z_iconst (Y := mX2_clear) (pc := 30) (v := (0 : Int32)) dX2_clear_30 (by decide) ?_
  refine y_callS (Y := mX2_clear) (pc := 31) (as := [.ref 111, .int (0 : Int32)]) (st := []) dX2_clear_31 lk_2_69 (kF (0 : Int32) (fillL 119 (-1 : Int32) 8 (fillL 110 (0 : Int32) 4 (fillL 118 (-1 : Int32) 8 (fillL 109 (0 : Int32) 4 (fillL 117 (-1 : Int32) 8 (fillL 108 (0 : Int32) 4 (fillL 116 (-1 : Int32) 8 (fillL 107 (0 : Int32) 4 (fillL 105 (0 : Int32) 8 (fillL 97 (0 : Int32) 10 I)))))))))) J ((96, 14, 131) :: ((96, 13, 130) :: ((96, 12, 128) :: ((128, 0, 129) :: ((96, 11, 127) :: ((96, 10, 126) :: ((96, 9, 125) :: ((96, 8, 124) :: ((96, 7, 115) :: (rowsL 115 8 ((96, 6, 106) :: (rowsL 106 8 ((96, 5, 105) :: ((96, 4, 104) :: ((96, 3, 103) :: ((96, 2, 102) :: ((96, 1, 98) :: (rowsL 98 3 ((96, 0, 97) :: R))))))))))))))))))) zk_111 (by decide) (by decide)) (by decide) (by decide) (by decide) rfl (by decide) rfl ?_
  refine z_aload_n (Y := mX2_clear) (pc := 34) 1 dX2_clear_34 rfl rfl ?_
  refine y_getR (Y := mX2_clear) (pc := 35) (r := 115) dX2_clear_35 fl_2_38 zk_96 rfl (by decide) rfl rfl ?_
  refine z_iload_n (Y := mX2_clear) (pc := 38) 0 dX2_clear_38 rfl rfl ?_
  exact k
set_option maxRecDepth 100000 in
set_option maxHeartbeats 4000000 in
theorem kX2_clear_96_0_1 {M' : z_M} (I : List (Nat × Nat × Int32)) (J : List (Nat × Nat × Int64)) (R : List (Nat × Nat × Nat)) (k : z_G mX2_clear 1 0 0 none M' 105 [(1, .int (8 : Int32)), (0, .ref 96)] [.int (1 : Int32), .ref 130] 0 0 (aM 132 ((131, 0, (1 : Int32)) :: ((130, 0, (0 : Int32)) :: ((129, 1, (-4 : Int32)) :: ((128, 1, (2 : Int32)) :: ((129, 0, (20 : Int32)) :: ((128, 1, (1 : Int32)) :: ((128, 1, (0 : Int32)) :: ((96, 16, (0 : Int32)) :: ((96, 15, (3 : Int32)) :: (fillL 123 (-1 : Int32) 8 (fillL 114 (0 : Int32) 4 (fillL 122 (-1 : Int32) 8 (fillL 113 (0 : Int32) 4 (fillL 121 (-1 : Int32) 8 (fillL 112 (0 : Int32) 4 (fillL 120 (-1 : Int32) 8 (fillL 111 (0 : Int32) 4 (fillL 119 (-1 : Int32) 8 (fillL 110 (0 : Int32) 4 (fillL 118 (-1 : Int32) 8 (fillL 109 (0 : Int32) 4 (fillL 117 (-1 : Int32) 8 (fillL 108 (0 : Int32) 4 (fillL 116 (-1 : Int32) 8 (fillL 107 (0 : Int32) 4 (fillL 105 (0 : Int32) 8 (fillL 97 (0 : Int32) 10 I))))))))))))))))))))))))))) J ((96, 14, 131) :: ((96, 13, 130) :: ((96, 12, 128) :: ((128, 0, 129) :: ((96, 11, 127) :: ((96, 10, 126) :: ((96, 9, 125) :: ((96, 8, 124) :: ((96, 7, 115) :: (rowsL 115 8 ((96, 6, 106) :: (rowsL 106 8 ((96, 5, 105) :: ((96, 4, 104) :: ((96, 3, 103) :: ((96, 2, 102) :: ((96, 1, 98) :: (rowsL 98 3 ((96, 0, 97) :: R))))))))))))))))))))) : z_G mX2_clear 1 0 0 none M' 39 [(1, .int (4 : Int32)), (0, .ref 96)] [.int (4 : Int32), .ref 115] 0 0 (aM 132 (fillL 111 (0 : Int32) 4 (fillL 119 (-1 : Int32) 8 (fillL 110 (0 : Int32) 4 (fillL 118 (-1 : Int32) 8 (fillL 109 (0 : Int32) 4 (fillL 117 (-1 : Int32) 8 (fillL 108 (0 : Int32) 4 (fillL 116 (-1 : Int32) 8 (fillL 107 (0 : Int32) 4 (fillL 105 (0 : Int32) 8 (fillL 97 (0 : Int32) 10 I))))))))))) J ((96, 14, 131) :: ((96, 13, 130) :: ((96, 12, 128) :: ((128, 0, 129) :: ((96, 11, 127) :: ((96, 10, 126) :: ((96, 9, 125) :: ((96, 8, 124) :: ((96, 7, 115) :: (rowsL 115 8 ((96, 6, 106) :: (rowsL 106 8 ((96, 5, 105) :: ((96, 4, 104) :: ((96, 3, 103) :: ((96, 2, 102) :: ((96, 1, 98) :: (rowsL 98 3 ((96, 0, 97) :: R)))))))))))))))))))) := by
  refine y_aald (Y := mX2_clear) (pc := 39) (k := 4) (r := 120) dX2_clear_39 zk_115 (by decide) (by decide) (by decide) (by unfold vp_in; decide) (by decide) rfl ?_
  refine z_iconst (Y := mX2_clear) (pc := 40) (v := (-1 : Int32)) dX2_clear_40 (by decide) ?_
  refine y_callS (Y := mX2_clear) (pc := 41) (as := [.ref 120, .int (-1 : Int32)]) (st := []) dX2_clear_41 lk_2_69 (kF (-1 : Int32) (fillL 111 (0 : Int32) 4 (fillL 119 (-1 : Int32) 8 (fillL 110 (0 : Int32) 4 (fillL 118 (-1 : Int32) 8 (fillL 109 (0 : Int32) 4 (fillL 117 (-1 : Int32) 8 (fillL 108 (0 : Int32) 4 (fillL 116 (-1 : Int32) 8 (fillL 107 (0 : Int32) 4 (fillL 105 (0 : Int32) 8 (fillL 97 (0 : Int32) 10 I))))))))))) J ((96, 14, 131) :: ((96, 13, 130) :: ((96, 12, 128) :: ((128, 0, 129) :: ((96, 11, 127) :: ((96, 10, 126) :: ((96, 9, 125) :: ((96, 8, 124) :: ((96, 7, 115) :: (rowsL 115 8 ((96, 6, 106) :: (rowsL 106 8 ((96, 5, 105) :: ((96, 4, 104) :: ((96, 3, 103) :: ((96, 2, 102) :: ((96, 1, 98) :: (rowsL 98 3 ((96, 0, 97) :: R))))))))))))))))))) zk_120 (by decide) (by decide)) (by decide) (by decide) (by decide) rfl (by decide) rfl ?_
  refine z_iinc (Y := mX2_clear) (pc := 44) (v := (5 : Int32)) (lv' := [(1, .int (5 : Int32)), (0, .ref 96)]) 0 dX2_clear_44 rfl (by decide) (by decide) rfl ?_
  refine z_goto (Y := mX2_clear) (pc := 47) (tgt := 18) dX2_clear_47 (by decide) ?_
  refine z_iload_n (Y := mX2_clear) (pc := 18) 0 dX2_clear_18 rfl rfl ?_
  refine z_bipush (Y := mX2_clear) (pc := 19) (v := (8 : Int32)) dX2_clear_19 (by decide) ?_
  refine z_icmp_ge (Y := mX2_clear) (pc := 21) (tgt := 50) dX2_clear_21 (by decide) (fun h => absurd h (by decide)) (fun _ => ?_)
  refine z_aload_n (Y := mX2_clear) (pc := 24) 1 dX2_clear_24 rfl rfl ?_
  refine y_getR (Y := mX2_clear) (pc := 25) (r := 106) dX2_clear_25 fl_2_35 zk_96 rfl (by decide) rfl rfl ?_
  refine z_iload_n (Y := mX2_clear) (pc := 28) 0 dX2_clear_28 rfl rfl ?_
  refine y_aald (Y := mX2_clear) (pc := 29) (k := 5) (r := 112) dX2_clear_29 zk_106 (by decide) (by decide) (by decide) (by unfold vp_in; decide) (by decide) rfl ?_
  refine z_iconst (Y := mX2_clear) (pc := 30) (v := (0 : Int32)) dX2_clear_30 (by decide) ?_
  refine y_callS (Y := mX2_clear) (pc := 31) (as := [.ref 112, .int (0 : Int32)]) (st := []) dX2_clear_31 lk_2_69 (kF (0 : Int32) (fillL 120 (-1 : Int32) 8 (fillL 111 (0 : Int32) 4 (fillL 119 (-1 : Int32) 8 (fillL 110 (0 : Int32) 4 (fillL 118 (-1 : Int32) 8 (fillL 109 (0 : Int32) 4 (fillL 117 (-1 : Int32) 8 (fillL 108 (0 : Int32) 4 (fillL 116 (-1 : Int32) 8 (fillL 107 (0 : Int32) 4 (fillL 105 (0 : Int32) 8 (fillL 97 (0 : Int32) 10 I)))))))))))) J ((96, 14, 131) :: ((96, 13, 130) :: ((96, 12, 128) :: ((128, 0, 129) :: ((96, 11, 127) :: ((96, 10, 126) :: ((96, 9, 125) :: ((96, 8, 124) :: ((96, 7, 115) :: (rowsL 115 8 ((96, 6, 106) :: (rowsL 106 8 ((96, 5, 105) :: ((96, 4, 104) :: ((96, 3, 103) :: ((96, 2, 102) :: ((96, 1, 98) :: (rowsL 98 3 ((96, 0, 97) :: R))))))))))))))))))) zk_112 (by decide) (by decide)) (by decide) (by decide) (by decide) rfl (by decide) rfl ?_
  refine z_aload_n (Y := mX2_clear) (pc := 34) 1 dX2_clear_34 rfl rfl ?_
  refine y_getR (Y := mX2_clear) (pc := 35) (r := 115) dX2_clear_35 fl_2_38 zk_96 rfl (by decide) rfl rfl ?_
  refine z_iload_n (Y := mX2_clear) (pc := 38) 0 dX2_clear_38 rfl rfl ?_
  refine y_aald (Y := mX2_clear) (pc := 39) (k := 5) (r := 121) dX2_clear_39 zk_115 (by decide) (by decide) (by decide) (by unfold vp_in; decide) (by decide) rfl ?_
  refine z_iconst (Y := mX2_clear) (pc := 40) (v := (-1 : Int32)) dX2_clear_40 (by decide) ?_
  refine y_callS (Y := mX2_clear) (pc := 41) (as := [.ref 121, .int (-1 : Int32)]) (st := []) dX2_clear_41 lk_2_69 (kF (-1 : Int32) (fillL 112 (0 : Int32) 4 (fillL 120 (-1 : Int32) 8 (fillL 111 (0 : Int32) 4 (fillL 119 (-1 : Int32) 8 (fillL 110 (0 : Int32) 4 (fillL 118 (-1 : Int32) 8 (fillL 109 (0 : Int32) 4 (fillL 117 (-1 : Int32) 8 (fillL 108 (0 : Int32) 4 (fillL 116 (-1 : Int32) 8 (fillL 107 (0 : Int32) 4 (fillL 105 (0 : Int32) 8 (fillL 97 (0 : Int32) 10 I))))))))))))) J ((96, 14, 131) :: ((96, 13, 130) :: ((96, 12, 128) :: ((128, 0, 129) :: ((96, 11, 127) :: ((96, 10, 126) :: ((96, 9, 125) :: ((96, 8, 124) :: ((96, 7, 115) :: (rowsL 115 8 ((96, 6, 106) :: (rowsL 106 8 ((96, 5, 105) :: ((96, 4, 104) :: ((96, 3, 103) :: ((96, 2, 102) :: ((96, 1, 98) :: (rowsL 98 3 ((96, 0, 97) :: R))))))))))))))))))) zk_121 (by decide) (by decide)) (by decide) (by decide) (by decide) rfl (by decide) rfl ?_
  refine z_iinc (Y := mX2_clear) (pc := 44) (v := (6 : Int32)) (lv' := [(1, .int (6 : Int32)), (0, .ref 96)]) 0 dX2_clear_44 rfl (by decide) (by decide) rfl ?_
  refine z_goto (Y := mX2_clear) (pc := 47) (tgt := 18) dX2_clear_47 (by decide) ?_
  refine z_iload_n (Y := mX2_clear) (pc := 18) 0 dX2_clear_18 rfl rfl ?_
  refine z_bipush (Y := mX2_clear) (pc := 19) (v := (8 : Int32)) dX2_clear_19 (by decide) ?_
  refine z_icmp_ge (Y := mX2_clear) (pc := 21) (tgt := 50) dX2_clear_21 (by decide) (fun h => absurd h (by decide)) (fun _ => ?_)
  refine z_aload_n (Y := mX2_clear) (pc := 24) 1 dX2_clear_24 rfl rfl ?_
  refine y_getR (Y := mX2_clear) (pc := 25) (r := 106) dX2_clear_25 fl_2_35 zk_96 rfl (by decide) rfl rfl ?_
  refine z_iload_n (Y := mX2_clear) (pc := 28) 0 dX2_clear_28 rfl rfl ?_
  refine y_aald (Y := mX2_clear) (pc := 29) (k := 6) (r := 113) dX2_clear_29 zk_106 (by decide) (by decide) (by decide) (by unfold vp_in; decide) (by decide) rfl ?_
  refine z_iconst (Y := mX2_clear) (pc := 30) (v := (0 : Int32)) dX2_clear_30 (by decide) ?_
  refine y_callS (Y := mX2_clear) (pc := 31) (as := [.ref 113, .int (0 : Int32)]) (st := []) dX2_clear_31 lk_2_69 (kF (0 : Int32) (fillL 121 (-1 : Int32) 8 (fillL 112 (0 : Int32) 4 (fillL 120 (-1 : Int32) 8 (fillL 111 (0 : Int32) 4 (fillL 119 (-1 : Int32) 8 (fillL 110 (0 : Int32) 4 (fillL 118 (-1 : Int32) 8 (fillL 109 (0 : Int32) 4 (fillL 117 (-1 : Int32) 8 (fillL 108 (0 : Int32) 4 (fillL 116 (-1 : Int32) 8 (fillL 107 (0 : Int32) 4 (fillL 105 (0 : Int32) 8 (fillL 97 (0 : Int32) 10 I)))))))))))))) J ((96, 14, 131) :: ((96, 13, 130) :: ((96, 12, 128) :: ((128, 0, 129) :: ((96, 11, 127) :: ((96, 10, 126) :: ((96, 9, 125) :: ((96, 8, 124) :: ((96, 7, 115) :: (rowsL 115 8 ((96, 6, 106) :: (rowsL 106 8 ((96, 5, 105) :: ((96, 4, 104) :: ((96, 3, 103) :: ((96, 2, 102) :: ((96, 1, 98) :: (rowsL 98 3 ((96, 0, 97) :: R))))))))))))))))))) zk_113 (by decide) (by decide)) (by decide) (by decide) (by decide) rfl (by decide) rfl ?_
  refine z_aload_n (Y := mX2_clear) (pc := 34) 1 dX2_clear_34 rfl rfl ?_
  refine y_getR (Y := mX2_clear) (pc := 35) (r := 115) dX2_clear_35 fl_2_38 zk_96 rfl (by decide) rfl rfl ?_
  refine z_iload_n (Y := mX2_clear) (pc := 38) 0 dX2_clear_38 rfl rfl ?_
  refine y_aald (Y := mX2_clear) (pc := 39) (k := 6) (r := 122) dX2_clear_39 zk_115 (by decide) (by decide) (by decide) (by unfold vp_in; decide) (by decide) rfl ?_
  refine z_iconst (Y := mX2_clear) (pc := 40) (v := (-1 : Int32)) dX2_clear_40 (by decide) ?_
  refine y_callS (Y := mX2_clear) (pc := 41) (as := [.ref 122, .int (-1 : Int32)]) (st := []) dX2_clear_41 lk_2_69 (kF (-1 : Int32) (fillL 113 (0 : Int32) 4 (fillL 121 (-1 : Int32) 8 (fillL 112 (0 : Int32) 4 (fillL 120 (-1 : Int32) 8 (fillL 111 (0 : Int32) 4 (fillL 119 (-1 : Int32) 8 (fillL 110 (0 : Int32) 4 (fillL 118 (-1 : Int32) 8 (fillL 109 (0 : Int32) 4 (fillL 117 (-1 : Int32) 8 (fillL 108 (0 : Int32) 4 (fillL 116 (-1 : Int32) 8 (fillL 107 (0 : Int32) 4 (fillL 105 (0 : Int32) 8 (fillL 97 (0 : Int32) 10 I))))))))))))))) J ((96, 14, 131) :: ((96, 13, 130) :: ((96, 12, 128) :: ((128, 0, 129) :: ((96, 11, 127) :: ((96, 10, 126) :: ((96, 9, 125) :: ((96, 8, 124) :: ((96, 7, 115) :: (rowsL 115 8 ((96, 6, 106) :: (rowsL 106 8 ((96, 5, 105) :: ((96, 4, 104) :: ((96, 3, 103) :: ((96, 2, 102) :: ((96, 1, 98) :: (rowsL 98 3 ((96, 0, 97) :: R))))))))))))))))))) zk_122 (by decide) (by decide)) (by decide) (by decide) (by decide) rfl (by decide) rfl ?_
  refine z_iinc (Y := mX2_clear) (pc := 44) (v := (7 : Int32)) (lv' := [(1, .int (7 : Int32)), (0, .ref 96)]) 0 dX2_clear_44 rfl (by decide) (by decide) rfl ?_
  refine z_goto (Y := mX2_clear) (pc := 47) (tgt := 18) dX2_clear_47 (by decide) ?_
  refine z_iload_n (Y := mX2_clear) (pc := 18) 0 dX2_clear_18 rfl rfl ?_
  refine z_bipush (Y := mX2_clear) (pc := 19) (v := (8 : Int32)) dX2_clear_19 (by decide) ?_
  refine z_icmp_ge (Y := mX2_clear) (pc := 21) (tgt := 50) dX2_clear_21 (by decide) (fun h => absurd h (by decide)) (fun _ => ?_)
  refine z_aload_n (Y := mX2_clear) (pc := 24) 1 dX2_clear_24 rfl rfl ?_
  refine y_getR (Y := mX2_clear) (pc := 25) (r := 106) dX2_clear_25 fl_2_35 zk_96 rfl (by decide) rfl rfl ?_
  refine z_iload_n (Y := mX2_clear) (pc := 28) 0 dX2_clear_28 rfl rfl ?_
  refine y_aald (Y := mX2_clear) (pc := 29) (k := 7) (r := 114) dX2_clear_29 zk_106 (by decide) (by decide) (by decide) (by unfold vp_in; decide) (by decide) rfl ?_
  refine z_iconst (Y := mX2_clear) (pc := 30) (v := (0 : Int32)) dX2_clear_30 (by decide) ?_
  refine y_callS (Y := mX2_clear) (pc := 31) (as := [.ref 114, .int (0 : Int32)]) (st := []) dX2_clear_31 lk_2_69 (kF (0 : Int32) (fillL 122 (-1 : Int32) 8 (fillL 113 (0 : Int32) 4 (fillL 121 (-1 : Int32) 8 (fillL 112 (0 : Int32) 4 (fillL 120 (-1 : Int32) 8 (fillL 111 (0 : Int32) 4 (fillL 119 (-1 : Int32) 8 (fillL 110 (0 : Int32) 4 (fillL 118 (-1 : Int32) 8 (fillL 109 (0 : Int32) 4 (fillL 117 (-1 : Int32) 8 (fillL 108 (0 : Int32) 4 (fillL 116 (-1 : Int32) 8 (fillL 107 (0 : Int32) 4 (fillL 105 (0 : Int32) 8 (fillL 97 (0 : Int32) 10 I)))))))))))))))) J ((96, 14, 131) :: ((96, 13, 130) :: ((96, 12, 128) :: ((128, 0, 129) :: ((96, 11, 127) :: ((96, 10, 126) :: ((96, 9, 125) :: ((96, 8, 124) :: ((96, 7, 115) :: (rowsL 115 8 ((96, 6, 106) :: (rowsL 106 8 ((96, 5, 105) :: ((96, 4, 104) :: ((96, 3, 103) :: ((96, 2, 102) :: ((96, 1, 98) :: (rowsL 98 3 ((96, 0, 97) :: R))))))))))))))))))) zk_114 (by decide) (by decide)) (by decide) (by decide) (by decide) rfl (by decide) rfl ?_
  refine z_aload_n (Y := mX2_clear) (pc := 34) 1 dX2_clear_34 rfl rfl ?_
  refine y_getR (Y := mX2_clear) (pc := 35) (r := 115) dX2_clear_35 fl_2_38 zk_96 rfl (by decide) rfl rfl ?_
  refine z_iload_n (Y := mX2_clear) (pc := 38) 0 dX2_clear_38 rfl rfl ?_
  refine y_aald (Y := mX2_clear) (pc := 39) (k := 7) (r := 123) dX2_clear_39 zk_115 (by decide) (by decide) (by decide) (by unfold vp_in; decide) (by decide) rfl ?_
  refine z_iconst (Y := mX2_clear) (pc := 40) (v := (-1 : Int32)) dX2_clear_40 (by decide) ?_
  refine y_callS (Y := mX2_clear) (pc := 41) (as := [.ref 123, .int (-1 : Int32)]) (st := []) dX2_clear_41 lk_2_69 (kF (-1 : Int32) (fillL 114 (0 : Int32) 4 (fillL 122 (-1 : Int32) 8 (fillL 113 (0 : Int32) 4 (fillL 121 (-1 : Int32) 8 (fillL 112 (0 : Int32) 4 (fillL 120 (-1 : Int32) 8 (fillL 111 (0 : Int32) 4 (fillL 119 (-1 : Int32) 8 (fillL 110 (0 : Int32) 4 (fillL 118 (-1 : Int32) 8 (fillL 109 (0 : Int32) 4 (fillL 117 (-1 : Int32) 8 (fillL 108 (0 : Int32) 4 (fillL 116 (-1 : Int32) 8 (fillL 107 (0 : Int32) 4 (fillL 105 (0 : Int32) 8 (fillL 97 (0 : Int32) 10 I))))))))))))))))) J ((96, 14, 131) :: ((96, 13, 130) :: ((96, 12, 128) :: ((128, 0, 129) :: ((96, 11, 127) :: ((96, 10, 126) :: ((96, 9, 125) :: ((96, 8, 124) :: ((96, 7, 115) :: (rowsL 115 8 ((96, 6, 106) :: (rowsL 106 8 ((96, 5, 105) :: ((96, 4, 104) :: ((96, 3, 103) :: ((96, 2, 102) :: ((96, 1, 98) :: (rowsL 98 3 ((96, 0, 97) :: R))))))))))))))))))) zk_123 (by decide) (by decide)) (by decide) (by decide) (by decide) rfl (by decide) rfl ?_
  refine z_iinc (Y := mX2_clear) (pc := 44) (v := (8 : Int32)) (lv' := [(1, .int (8 : Int32)), (0, .ref 96)]) 0 dX2_clear_44 rfl (by decide) (by decide) rfl ?_
  refine z_goto (Y := mX2_clear) (pc := 47) (tgt := 18) dX2_clear_47 (by decide) ?_
  refine z_iload_n (Y := mX2_clear) (pc := 18) 0 dX2_clear_18 rfl rfl ?_
  refine z_bipush (Y := mX2_clear) (pc := 19) (v := (8 : Int32)) dX2_clear_19 (by decide) ?_
  refine z_icmp_ge (Y := mX2_clear) (pc := 21) (tgt := 50) dX2_clear_21 (by decide) (fun _ => ?_) (fun h => absurd (by decide) h)
  refine z_aload_n (Y := mX2_clear) (pc := 50) 1 dX2_clear_50 rfl rfl ?_
  refine z_iconst (Y := mX2_clear) (pc := 51) (v := (3 : Int32)) dX2_clear_51 (by decide) ?_
  refine y_putI (Y := mX2_clear) (pc := 52) dX2_clear_52 fl_2_75 zk_96 rfl (by decide) rfl rfl ?_
  refine z_aload_n (Y := mX2_clear) (pc := 55) 1 dX2_clear_55 rfl rfl ?_
  refine z_iconst (Y := mX2_clear) (pc := 56) (v := (0 : Int32)) dX2_clear_56 (by decide) ?_
  refine y_putI (Y := mX2_clear) (pc := 57) dX2_clear_57 fl_2_79 zk_96 rfl (by decide) rfl rfl ?_
  refine z_aload_n (Y := mX2_clear) (pc := 60) 1 dX2_clear_60 rfl rfl ?_
  refine y_getR (Y := mX2_clear) (pc := 61) (r := 128) dX2_clear_61 fl_2_56 zk_96 rfl (by decide) rfl rfl ?_
  refine z_iconst (Y := mX2_clear) (pc := 64) (v := (0 : Int32)) dX2_clear_64 (by decide) ?_
  refine y_putI (Y := mX2_clear) (pc := 65) dX2_clear_65 fl_2_82 zk_128 rfl (by decide) rfl rfl ?_
  refine z_aload_n (Y := mX2_clear) (pc := 68) 1 dX2_clear_68 rfl rfl ?_
  refine y_getR (Y := mX2_clear) (pc := 69) (r := 128) dX2_clear_69 fl_2_56 zk_96 rfl (by decide) rfl rfl ?_
  refine z_bipush (Y := mX2_clear) (pc := 72) (v := (20 : Int32)) dX2_clear_72 (by decide) ?_
  refine y_callV (Y := mX2_clear) (pc := 74) (as := [.int (20 : Int32)]) (st := []) dX2_clear_74 lk_2_85 (kX0_add_128_0 I J R) zk_128 rfl (show 128 < 132 by decide) (by decide) (by decide) (by decide) rfl (by decide) rfl ?_
  refine z_aload_n (Y := mX2_clear) (pc := 77) 1 dX2_clear_77 rfl rfl ?_
  refine y_getR (Y := mX2_clear) (pc := 78) (r := 128) dX2_clear_78 fl_2_56 zk_96 rfl (by decide) rfl rfl ?_
  refine z_bipush (Y := mX2_clear) (pc := 81) (v := (-4 : Int32)) dX2_clear_81 (by decide) ?_
  refine y_callV (Y := mX2_clear) (pc := 83) (as := [.int (-4 : Int32)]) (st := []) dX2_clear_83 lk_2_85 (kX0_add_128_1 I J R) zk_128 rfl (show 128 < 132 by decide) (by decide) (by decide) (by decide) rfl (by decide) rfl ?_
  refine z_aload_n (Y := mX2_clear) (pc := 86) 1 dX2_clear_86 rfl rfl ?_
  refine y_getR (Y := mX2_clear) (pc := 87) (r := 130) dX2_clear_87 fl_2_60 zk_96 rfl (by decide) rfl rfl ?_
  refine z_iconst (Y := mX2_clear) (pc := 90) (v := (0 : Int32)) dX2_clear_90 (by decide) ?_
  refine z_iconst (Y := mX2_clear) (pc := 91) (v := (0 : Int32)) dX2_clear_91 (by decide) ?_
  refine y_iast (Y := mX2_clear) (pc := 92) (k := 0) dX2_clear_92 zk_130 (by decide) (by unfold vp_in; decide) (by decide) ?_
  refine z_aload_n (Y := mX2_clear) (pc := 93) 1 dX2_clear_93 rfl rfl ?_
  refine y_getR (Y := mX2_clear) (pc := 94) (r := 131) dX2_clear_94 fl_2_63 zk_96 rfl (by decide) rfl rfl ?_
  refine z_iconst (Y := mX2_clear) (pc := 97) (v := (0 : Int32)) dX2_clear_97 (by decide) ?_
  refine z_iconst (Y := mX2_clear) (pc := 98) (v := (1 : Int32)) dX2_clear_98 (by decide) ?_
  refine y_iast (Y := mX2_clear) (pc := 99) (k := 0) dX2_clear_99 zk_131 (by decide) (by unfold vp_in; decide) (by decide) ?_
  refine z_aload_n (Y := mX2_clear) (pc := 100) 1 dX2_clear_100 rfl rfl ?_
  refine y_getR (Y := mX2_clear) (pc := 101) (r := 130) dX2_clear_101 fl_2_60 zk_96 rfl (by decide) rfl rfl ?_
  refine z_iconst (Y := mX2_clear) (pc := 104) (v := (1 : Int32)) dX2_clear_104 (by decide) ?_
  exact k
set_option maxRecDepth 100000 in
set_option maxHeartbeats 4000000 in
theorem kX2_clear_96_0_2 (I : List (Nat × Nat × Int32)) (J : List (Nat × Nat × Int64)) (R : List (Nat × Nat × Nat)) : z_G mX2_clear 1 0 0 none (aM 132 ((131, 1, (2 : Int32)) :: ((130, 1, (1 : Int32)) :: ((131, 0, (1 : Int32)) :: ((130, 0, (0 : Int32)) :: ((129, 1, (-4 : Int32)) :: ((128, 1, (2 : Int32)) :: ((129, 0, (20 : Int32)) :: ((128, 1, (1 : Int32)) :: ((128, 1, (0 : Int32)) :: ((96, 16, (0 : Int32)) :: ((96, 15, (3 : Int32)) :: (fillL 123 (-1 : Int32) 8 (fillL 114 (0 : Int32) 4 (fillL 122 (-1 : Int32) 8 (fillL 113 (0 : Int32) 4 (fillL 121 (-1 : Int32) 8 (fillL 112 (0 : Int32) 4 (fillL 120 (-1 : Int32) 8 (fillL 111 (0 : Int32) 4 (fillL 119 (-1 : Int32) 8 (fillL 110 (0 : Int32) 4 (fillL 118 (-1 : Int32) 8 (fillL 109 (0 : Int32) 4 (fillL 117 (-1 : Int32) 8 (fillL 108 (0 : Int32) 4 (fillL 116 (-1 : Int32) 8 (fillL 107 (0 : Int32) 4 (fillL 105 (0 : Int32) 8 (fillL 97 (0 : Int32) 10 I))))))))))))))))))))))))))))) J ((96, 14, 131) :: ((96, 13, 130) :: ((96, 12, 128) :: ((128, 0, 129) :: ((96, 11, 127) :: ((96, 10, 126) :: ((96, 9, 125) :: ((96, 8, 124) :: ((96, 7, 115) :: (rowsL 115 8 ((96, 6, 106) :: (rowsL 106 8 ((96, 5, 105) :: ((96, 4, 104) :: ((96, 3, 103) :: ((96, 2, 102) :: ((96, 1, 98) :: (rowsL 98 3 ((96, 0, 97) :: R)))))))))))))))))))) 105 [(1, .int (8 : Int32)), (0, .ref 96)] [.int (1 : Int32), .ref 130] 0 0 (aM 132 ((131, 0, (1 : Int32)) :: ((130, 0, (0 : Int32)) :: ((129, 1, (-4 : Int32)) :: ((128, 1, (2 : Int32)) :: ((129, 0, (20 : Int32)) :: ((128, 1, (1 : Int32)) :: ((128, 1, (0 : Int32)) :: ((96, 16, (0 : Int32)) :: ((96, 15, (3 : Int32)) :: (fillL 123 (-1 : Int32) 8 (fillL 114 (0 : Int32) 4 (fillL 122 (-1 : Int32) 8 (fillL 113 (0 : Int32) 4 (fillL 121 (-1 : Int32) 8 (fillL 112 (0 : Int32) 4 (fillL 120 (-1 : Int32) 8 (fillL 111 (0 : Int32) 4 (fillL 119 (-1 : Int32) 8 (fillL 110 (0 : Int32) 4 (fillL 118 (-1 : Int32) 8 (fillL 109 (0 : Int32) 4 (fillL 117 (-1 : Int32) 8 (fillL 108 (0 : Int32) 4 (fillL 116 (-1 : Int32) 8 (fillL 107 (0 : Int32) 4 (fillL 105 (0 : Int32) 8 (fillL 97 (0 : Int32) 10 I))))))))))))))))))))))))))) J ((96, 14, 131) :: ((96, 13, 130) :: ((96, 12, 128) :: ((128, 0, 129) :: ((96, 11, 127) :: ((96, 10, 126) :: ((96, 9, 125) :: ((96, 8, 124) :: ((96, 7, 115) :: (rowsL 115 8 ((96, 6, 106) :: (rowsL 106 8 ((96, 5, 105) :: ((96, 4, 104) :: ((96, 3, 103) :: ((96, 2, 102) :: ((96, 1, 98) :: (rowsL 98 3 ((96, 0, 97) :: R)))))))))))))))))))) := by
  refine z_iconst (Y := mX2_clear) (pc := 105) (v := (1 : Int32)) dX2_clear_105 (by decide) ?_
  refine y_iast (Y := mX2_clear) (pc := 106) (k := 1) dX2_clear_106 zk_130 (by decide) (by unfold vp_in; decide) (by decide) ?_
  refine z_aload_n (Y := mX2_clear) (pc := 107) 1 dX2_clear_107 rfl rfl ?_
  refine y_getR (Y := mX2_clear) (pc := 108) (r := 131) dX2_clear_108 fl_2_63 zk_96 rfl (by decide) rfl rfl ?_
  refine z_iconst (Y := mX2_clear) (pc := 111) (v := (1 : Int32)) dX2_clear_111 (by decide) ?_
  refine z_iconst (Y := mX2_clear) (pc := 112) (v := (2 : Int32)) dX2_clear_112 (by decide) ?_
  refine y_iast (Y := mX2_clear) (pc := 113) (k := 1) dX2_clear_113 zk_131 (by decide) (by unfold vp_in; decide) (by decide) ?_
  exact z_vret (Y := mX2_clear) (pc := 114) dX2_clear_114 rfl (by decide) (by decide)
set_option maxRecDepth 100000 in
set_option maxHeartbeats 4000000 in
theorem kX2_clear_96_0 (I : List (Nat × Nat × Int32)) (J : List (Nat × Nat × Int64)) (R : List (Nat × Nat × Nat)) : z_K mX2_clear 1 0 0 [.ref 96] (aM 132 I J ((96, 14, 131) :: ((96, 13, 130) :: ((96, 12, 128) :: ((128, 0, 129) :: ((96, 11, 127) :: ((96, 10, 126) :: ((96, 9, 125) :: ((96, 8, 124) :: ((96, 7, 115) :: (rowsL 115 8 ((96, 6, 106) :: (rowsL 106 8 ((96, 5, 105) :: ((96, 4, 104) :: ((96, 3, 103) :: ((96, 2, 102) :: ((96, 1, 98) :: (rowsL 98 3 ((96, 0, 97) :: R)))))))))))))))))))) none (aM 132 ((131, 1, (2 : Int32)) :: ((130, 1, (1 : Int32)) :: ((131, 0, (1 : Int32)) :: ((130, 0, (0 : Int32)) :: ((129, 1, (-4 : Int32)) :: ((128, 1, (2 : Int32)) :: ((129, 0, (20 : Int32)) :: ((128, 1, (1 : Int32)) :: ((128, 1, (0 : Int32)) :: ((96, 16, (0 : Int32)) :: ((96, 15, (3 : Int32)) :: (fillL 123 (-1 : Int32) 8 (fillL 114 (0 : Int32) 4 (fillL 122 (-1 : Int32) 8 (fillL 113 (0 : Int32) 4 (fillL 121 (-1 : Int32) 8 (fillL 112 (0 : Int32) 4 (fillL 120 (-1 : Int32) 8 (fillL 111 (0 : Int32) 4 (fillL 119 (-1 : Int32) 8 (fillL 110 (0 : Int32) 4 (fillL 118 (-1 : Int32) 8 (fillL 109 (0 : Int32) 4 (fillL 117 (-1 : Int32) 8 (fillL 108 (0 : Int32) 4 (fillL 116 (-1 : Int32) 8 (fillL 107 (0 : Int32) 4 (fillL 105 (0 : Int32) 8 (fillL 97 (0 : Int32) 10 I))))))))))))))))))))))))))))) J ((96, 14, 131) :: ((96, 13, 130) :: ((96, 12, 128) :: ((128, 0, 129) :: ((96, 11, 127) :: ((96, 10, 126) :: ((96, 9, 125) :: ((96, 8, 124) :: ((96, 7, 115) :: (rowsL 115 8 ((96, 6, 106) :: (rowsL 106 8 ((96, 5, 105) :: ((96, 4, 104) :: ((96, 3, 103) :: ((96, 2, 102) :: ((96, 1, 98) :: (rowsL 98 3 ((96, 0, 97) :: R)))))))))))))))))))) := by
  refine z_K.of (by decide +kernel) (by show _ ≤ _; first | decide | exact Nat.le_of_ble_eq_true rfl) (lv := [(0, .ref 96)]) rfl ?_
  exact (kX2_clear_96_0_0 I J R (kX2_clear_96_0_1 I J R (kX2_clear_96_0_2 I J R)))
theorem kX2_init_96 (I : List (Nat × Nat × Int32)) (J : List (Nat × Nat × Int64)) (R : List (Nat × Nat × Nat)) : z_K mX2_init 2 35 1800 [.ref 96] (aM 97 I J R) none (aM 132 ((131, 1, (2 : Int32)) :: ((130, 1, (1 : Int32)) :: ((131, 0, (1 : Int32)) :: ((130, 0, (0 : Int32)) :: ((129, 1, (-4 : Int32)) :: ((128, 1, (2 : Int32)) :: ((129, 0, (20 : Int32)) :: ((128, 1, (1 : Int32)) :: ((128, 1, (0 : Int32)) :: ((96, 16, (0 : Int32)) :: ((96, 15, (3 : Int32)) :: (fillL 123 (-1 : Int32) 8 (fillL 114 (0 : Int32) 4 (fillL 122 (-1 : Int32) 8 (fillL 113 (0 : Int32) 4 (fillL 121 (-1 : Int32) 8 (fillL 112 (0 : Int32) 4 (fillL 120 (-1 : Int32) 8 (fillL 111 (0 : Int32) 4 (fillL 119 (-1 : Int32) 8 (fillL 110 (0 : Int32) 4 (fillL 118 (-1 : Int32) 8 (fillL 109 (0 : Int32) 4 (fillL 117 (-1 : Int32) 8 (fillL 108 (0 : Int32) 4 (fillL 116 (-1 : Int32) 8 (fillL 107 (0 : Int32) 4 (fillL 105 (0 : Int32) 8 (fillL 97 (0 : Int32) 10 I))))))))))))))))))))))))))))) J ((96, 14, 131) :: ((96, 13, 130) :: ((96, 12, 128) :: ((128, 0, 129) :: ((96, 11, 127) :: ((96, 10, 126) :: ((96, 9, 125) :: ((96, 8, 124) :: ((96, 7, 115) :: (rowsL 115 8 ((96, 6, 106) :: (rowsL 106 8 ((96, 5, 105) :: ((96, 4, 104) :: ((96, 3, 103) :: ((96, 2, 102) :: ((96, 1, 98) :: (rowsL 98 3 ((96, 0, 97) :: R)))))))))))))))))))) := by
  refine z_K.of (by decide +kernel) (by show _ ≤ _; first | decide | exact Nat.le_of_ble_eq_true rfl) (lv := [(0, .ref 96)]) rfl ?_
  refine z_aload_n (Y := mX2_init) (pc := 0) 0 dX2_init_0 rfl rfl ?_
  refine z_obj (Y := mX2_init) (pc := 1) dX2_init_1 w_453 w_180 w_181 (by decide) ?_
  refine z_aload_n (Y := mX2_init) (pc := 4) 0 dX2_init_4 rfl rfl ?_
  refine z_kml (Y := mX2_init) (pc := 5) dX2_init_5 (fun _ _ h => h.2.2.2.2.2.1) dX2_init_8 ?_
  refine y_newA (Y := mX2_init) (pc := 9) (t := 20) (N := 10) (n' := 98) (cs' := 1) (sl' := 10) dX2_init_9 rfl (by decide) (by decide) w_286 zk_97 (by decide) (by decide) (by decide) rfl rfl rfl (by decide) (by decide) ?_
  refine y_putF (Y := mX2_init) (pc := 11) dX2_init_11 ff_2_13 zk_96 rfl (by decide) rfl ?_
  refine z_aload_n (Y := mX2_init) (pc := 14) 0 dX2_init_14 rfl rfl ?_
  refine z_iconst (Y := mX2_init) (pc := 15) (v := (3 : Int32)) dX2_init_15 (by decide) ?_
  refine z_bipush (Y := mX2_init) (pc := 16) (v := (8 : Int32)) dX2_init_16 (by decide) ?_
  refine y_mul (Y := mX2_init) (pc := 18) (t := 23) (u := 20) (N := 3) (K := 8) (ty := .int) (n' := 102) (cs' := 5) (sl' := 37) dX2_init_18 (Or.inl ⟨rfl, rfl, rfl⟩) w_456 w_286 zk_98 zr_98 (by decide) (by decide) (by decide) (by decide) (by decide) (by decide) rfl rfl rfl (by decide) (by decide) ?_
  refine y_putF (Y := mX2_init) (pc := 22) dX2_init_22 ff_2_20 zk_96 rfl (by decide) rfl ?_
  refine z_aload_n (Y := mX2_init) (pc := 25) 0 dX2_init_25 rfl rfl ?_
  refine z_bipush (Y := mX2_init) (pc := 26) (v := (8 : Int32)) dX2_init_26 (by decide) ?_
  refine y_newA (Y := mX2_init) (pc := 28) (t := 20) (N := 8) (n' := 103) (cs' := 6) (sl' := 45) dX2_init_28 rfl (by decide) (by decide) w_286 zk_102 (by decide) (by decide) (by decide) rfl rfl rfl (by decide) (by decide) ?_
  refine y_putF (Y := mX2_init) (pc := 30) dX2_init_30 ff_2_23 zk_96 rfl (by decide) rfl ?_
  refine z_aload_n (Y := mX2_init) (pc := 33) 0 dX2_init_33 rfl rfl ?_
  refine z_bipush (Y := mX2_init) (pc := 34) (v := (8 : Int32)) dX2_init_34 (by decide) ?_
  refine y_newA (Y := mX2_init) (pc := 36) (t := 20) (N := 8) (n' := 104) (cs' := 7) (sl' := 53) dX2_init_36 rfl (by decide) (by decide) w_286 zk_103 (by decide) (by decide) (by decide) rfl rfl rfl (by decide) (by decide) ?_
  refine y_putF (Y := mX2_init) (pc := 38) dX2_init_38 ff_2_26 zk_96 rfl (by decide) rfl ?_
  refine z_aload_n (Y := mX2_init) (pc := 41) 0 dX2_init_41 rfl rfl ?_
  refine z_bipush (Y := mX2_init) (pc := 42) (v := (8 : Int32)) dX2_init_42 (by decide) ?_
  refine y_newA (Y := mX2_init) (pc := 44) (t := 20) (N := 8) (n' := 105) (cs' := 8) (sl' := 61) dX2_init_44 rfl (by decide) (by decide) w_286 zk_104 (by decide) (by decide) (by decide) rfl rfl rfl (by decide) (by decide) ?_
  refine y_putF (Y := mX2_init) (pc := 46) dX2_init_46 ff_2_29 zk_96 rfl (by decide) rfl ?_
  refine z_aload_n (Y := mX2_init) (pc := 49) 0 dX2_init_49 rfl rfl ?_
  refine z_bipush (Y := mX2_init) (pc := 50) (v := (8 : Int32)) dX2_init_50 (by decide) ?_
  refine y_newA (Y := mX2_init) (pc := 52) (t := 20) (N := 8) (n' := 106) (cs' := 9) (sl' := 69) dX2_init_52 rfl (by decide) (by decide) w_286 zk_105 (by decide) (by decide) (by decide) rfl rfl rfl (by decide) (by decide) ?_
  refine y_putF (Y := mX2_init) (pc := 54) dX2_init_54 ff_2_32 zk_96 rfl (by decide) rfl ?_
  refine z_aload_n (Y := mX2_init) (pc := 57) 0 dX2_init_57 rfl rfl ?_
  refine z_bipush (Y := mX2_init) (pc := 58) (v := (8 : Int32)) dX2_init_58 (by decide) ?_
  refine z_iconst (Y := mX2_init) (pc := 60) (v := (4 : Int32)) dX2_init_60 (by decide) ?_
  refine y_mul (Y := mX2_init) (pc := 61) (t := 23) (u := 20) (N := 8) (K := 4) (ty := .int) (n' := 115) (cs' := 18) (sl' := 109) dX2_init_61 (Or.inl ⟨rfl, rfl, rfl⟩) w_456 w_286 zk_106 zr_106 (by decide) (by decide) (by decide) (by decide) (by decide) (by decide) rfl rfl rfl (by decide) (by decide) ?_
  refine y_putF (Y := mX2_init) (pc := 65) dX2_init_65 ff_2_35 zk_96 rfl (by decide) rfl ?_
  refine z_aload_n (Y := mX2_init) (pc := 68) 0 dX2_init_68 rfl rfl ?_
  refine z_bipush (Y := mX2_init) (pc := 69) (v := (8 : Int32)) dX2_init_69 (by decide) ?_
  refine z_bipush (Y := mX2_init) (pc := 71) (v := (8 : Int32)) dX2_init_71 (by decide) ?_
  refine y_mul (Y := mX2_init) (pc := 73) (t := 23) (u := 20) (N := 8) (K := 8) (ty := .int) (n' := 124) (cs' := 27) (sl' := 181) dX2_init_73 (Or.inl ⟨rfl, rfl, rfl⟩) w_456 w_286 zk_115 zr_115 (by decide) (by decide) (by decide) (by decide) (by decide) (by decide) rfl rfl rfl (by decide) (by decide) ?_
  refine y_putF (Y := mX2_init) (pc := 77) dX2_init_77 ff_2_38 zk_96 rfl (by decide) rfl ?_
  refine z_aload_n (Y := mX2_init) (pc := 80) 0 dX2_init_80 rfl rfl ?_
  refine z_iconst (Y := mX2_init) (pc := 81) (v := (4 : Int32)) dX2_init_81 (by decide) ?_
  refine y_newA (Y := mX2_init) (pc := 82) (t := 20) (N := 4) (n' := 125) (cs' := 28) (sl' := 185) dX2_init_82 rfl (by decide) (by decide) w_286 zk_124 (by decide) (by decide) (by decide) rfl rfl rfl (by decide) (by decide) ?_
  refine y_putF (Y := mX2_init) (pc := 84) dX2_init_84 ff_2_41 zk_96 rfl (by decide) rfl ?_
  refine z_aload_n (Y := mX2_init) (pc := 87) 0 dX2_init_87 rfl rfl ?_
  refine z_iconst (Y := mX2_init) (pc := 88) (v := (3 : Int32)) dX2_init_88 (by decide) ?_
  refine y_newA (Y := mX2_init) (pc := 89) (t := 20) (N := 3) (n' := 126) (cs' := 29) (sl' := 188) dX2_init_89 rfl (by decide) (by decide) w_286 zk_125 (by decide) (by decide) (by decide) rfl rfl rfl (by decide) (by decide) ?_
  refine y_putF (Y := mX2_init) (pc := 91) dX2_init_91 ff_2_44 zk_96 rfl (by decide) rfl ?_
  refine z_aload_n (Y := mX2_init) (pc := 94) 0 dX2_init_94 rfl rfl ?_
  refine z_iconst (Y := mX2_init) (pc := 95) (v := (3 : Int32)) dX2_init_95 (by decide) ?_
  refine y_newA (Y := mX2_init) (pc := 96) (t := 20) (N := 3) (n' := 127) (cs' := 30) (sl' := 191) dX2_init_96 rfl (by decide) (by decide) w_286 zk_126 (by decide) (by decide) (by decide) rfl rfl rfl (by decide) (by decide) ?_
  refine y_putF (Y := mX2_init) (pc := 98) dX2_init_98 ff_2_47 zk_96 rfl (by decide) rfl ?_
  refine z_aload_n (Y := mX2_init) (pc := 101) 0 dX2_init_101 rfl rfl ?_
  refine z_iconst (Y := mX2_init) (pc := 102) (v := (3 : Int32)) dX2_init_102 (by decide) ?_
  refine y_newA (Y := mX2_init) (pc := 103) (t := 20) (N := 3) (n' := 128) (cs' := 31) (sl' := 194) dX2_init_103 rfl (by decide) (by decide) w_286 zk_127 (by decide) (by decide) (by decide) rfl rfl rfl (by decide) (by decide) ?_
  refine y_putF (Y := mX2_init) (pc := 105) dX2_init_105 ff_2_50 zk_96 rfl (by decide) rfl ?_
  refine z_aload_n (Y := mX2_init) (pc := 108) 0 dX2_init_108 rfl rfl ?_
  refine y_new (Y := mX2_init) (pc := 109) (n' := 129) (cs' := 32) (sl' := 196) dX2_init_109 ln_2_53 zk_128 rfl rfl rfl (by decide) (by decide) ?_
  refine z_dup (Y := mX2_init) (pc := 112) dX2_init_112 rfl ?_
  refine y_callIN (Y := mX2_init) (pc := 113) (as := []) (st := [.ref 128, .ref 96]) (cs' := 33) (sl' := 1796) dX2_init_113 lin_2_55 (kX0_init_128 I J ((96, 11, 127) :: ((96, 10, 126) :: ((96, 9, 125) :: ((96, 8, 124) :: ((96, 7, 115) :: (rowsL 115 8 ((96, 6, 106) :: (rowsL 106 8 ((96, 5, 105) :: ((96, 4, 104) :: ((96, 3, 103) :: ((96, 2, 102) :: ((96, 1, 98) :: (rowsL 98 3 ((96, 0, 97) :: R)))))))))))))))) (by decide) rfl rfl (by decide) (by decide) rfl (by decide) rfl ?_
  refine y_putF (Y := mX2_init) (pc := 116) dX2_init_116 ff_2_56 zk_96 rfl (by decide) rfl ?_
  refine z_aload_n (Y := mX2_init) (pc := 119) 0 dX2_init_119 rfl rfl ?_
  refine z_iconst (Y := mX2_init) (pc := 120) (v := (2 : Int32)) dX2_init_120 (by decide) ?_
  refine y_newA (Y := mX2_init) (pc := 121) (t := 20) (N := 2) (n' := 131) (cs' := 34) (sl' := 1798) dX2_init_121 rfl (by decide) (by decide) w_286 zk_130 (by decide) (by decide) (by decide) rfl rfl rfl (by decide) (by decide) ?_
  refine y_putF (Y := mX2_init) (pc := 123) dX2_init_123 ff_2_60 zk_96 rfl (by decide) rfl ?_
  refine z_aload_n (Y := mX2_init) (pc := 126) 0 dX2_init_126 rfl rfl ?_
  refine z_iconst (Y := mX2_init) (pc := 127) (v := (2 : Int32)) dX2_init_127 (by decide) ?_
  refine y_newA (Y := mX2_init) (pc := 128) (t := 20) (N := 2) (n' := 132) (cs' := 35) (sl' := 1800) dX2_init_128 rfl (by decide) (by decide) w_286 zk_131 (by decide) (by decide) (by decide) rfl rfl rfl (by decide) (by decide) ?_
  refine y_putF (Y := mX2_init) (pc := 130) dX2_init_130 ff_2_63 zk_96 rfl (by decide) rfl ?_
  refine z_aload_n (Y := mX2_init) (pc := 133) 0 dX2_init_133 rfl rfl ?_
  refine y_callV (Y := mX2_init) (pc := 134) (as := []) (st := []) dX2_init_134 lk_2_66 (kX2_clear_96_0 I J R) zk_96 rfl (show 96 < 132 by decide) (by decide) (by decide) (by decide) rfl (by decide) rfl ?_
  exact z_vret (Y := mX2_init) (pc := 137) dX2_init_137 rfl (by decide) (by decide)
theorem kX3_init_95 (I : List (Nat × Nat × Int32)) (J : List (Nat × Nat × Int64)) (R : List (Nat × Nat × Nat)) : z_K mX3_init 3 36 1817 [.ref 95, .ref 1, .ref 92] (aM 96 I J R) none (aM 132 ((131, 1, (2 : Int32)) :: ((130, 1, (1 : Int32)) :: ((131, 0, (1 : Int32)) :: ((130, 0, (0 : Int32)) :: ((129, 1, (-4 : Int32)) :: ((128, 1, (2 : Int32)) :: ((129, 0, (20 : Int32)) :: ((128, 1, (1 : Int32)) :: ((128, 1, (0 : Int32)) :: ((96, 16, (0 : Int32)) :: ((96, 15, (3 : Int32)) :: (fillL 123 (-1 : Int32) 8 (fillL 114 (0 : Int32) 4 (fillL 122 (-1 : Int32) 8 (fillL 113 (0 : Int32) 4 (fillL 121 (-1 : Int32) 8 (fillL 112 (0 : Int32) 4 (fillL 120 (-1 : Int32) 8 (fillL 111 (0 : Int32) 4 (fillL 119 (-1 : Int32) 8 (fillL 110 (0 : Int32) 4 (fillL 118 (-1 : Int32) 8 (fillL 109 (0 : Int32) 4 (fillL 117 (-1 : Int32) 8 (fillL 108 (0 : Int32) 4 (fillL 116 (-1 : Int32) 8 (fillL 107 (0 : Int32) 4 (fillL 105 (0 : Int32) 8 (fillL 97 (0 : Int32) 10 I))))))))))))))))))))))))))))) J ((95, 1, 92) :: ((95, 0, 1) :: ((95, 2, 96) :: ((96, 14, 131) :: ((96, 13, 130) :: ((96, 12, 128) :: ((128, 0, 129) :: ((96, 11, 127) :: ((96, 10, 126) :: ((96, 9, 125) :: ((96, 8, 124) :: ((96, 7, 115) :: (rowsL 115 8 ((96, 6, 106) :: (rowsL 106 8 ((96, 5, 105) :: ((96, 4, 104) :: ((96, 3, 103) :: ((96, 2, 102) :: ((96, 1, 98) :: (rowsL 98 3 ((96, 0, 97) :: R))))))))))))))))))))))) := by
  refine z_K.of (by decide +kernel) (by show _ ≤ _; first | decide | exact Nat.le_of_ble_eq_true rfl) (lv := [(0, .ref 95), (1, .ref 1), (2, .ref 92)]) rfl ?_
  refine z_aload_n (Y := mX3_init) (pc := 0) 0 dX3_init_0 rfl rfl ?_
  refine z_obj (Y := mX3_init) (pc := 1) dX3_init_1 w_603 w_180 w_181 (by decide) ?_
  refine z_aload_n (Y := mX3_init) (pc := 4) 0 dX3_init_4 rfl rfl ?_
  refine y_new (Y := mX3_init) (pc := 5) (n' := 97) (cs' := 1) (sl' := 17) dX3_init_5 ln_3_9 zk_96 rfl rfl rfl (by decide) (by decide) ?_
  refine z_dup (Y := mX3_init) (pc := 8) dX3_init_8 rfl ?_
  refine y_callI (Y := mX3_init) (pc := 9) (as := []) (st := [.ref 96, .ref 95]) (cs' := 36) (sl' := 1817) dX3_init_9 li_3_11 (kX2_init_96 I J R) (by decide) rfl rfl (by decide) (by decide) rfl (by decide) rfl ?_
  refine y_putR (Y := mX3_init) (pc := 12) dX3_init_12 fr_3_12 zk_95 rfl (by decide) ?_
  refine z_aload_n (Y := mX3_init) (pc := 15) 0 dX3_init_15 rfl rfl ?_
  refine z_aload_n (Y := mX3_init) (pc := 16) 1 dX3_init_16 rfl rfl ?_
  refine y_putF (Y := mX3_init) (pc := 17) dX3_init_17 ff_3_18 zk_95 rfl (by decide) rfl ?_
  refine z_aload_n (Y := mX3_init) (pc := 20) 0 dX3_init_20 rfl rfl ?_
  refine z_aload_n (Y := mX3_init) (pc := 21) 2 dX3_init_21 rfl rfl ?_
  refine y_putF (Y := mX3_init) (pc := 22) dX3_init_22 ff_3_22 zk_95 rfl (by decide) rfl ?_
  exact z_vret (Y := mX3_init) (pc := 25) dX3_init_25 rfl (by decide) (by decide)
theorem kX5_init_132 (I : List (Nat × Nat × Int32)) (J : List (Nat × Nat × Int64)) (R : List (Nat × Nat × Nat)) : z_K mX5_init 0 0 0 [.ref 132, .ref 1, .ref 92] (aM 133 I J R) none (aM 133 I J ((132, 1, 92) :: ((132, 0, 1) :: R))) := by
  refine z_K.of (by decide +kernel) (by show _ ≤ _; first | decide | exact Nat.le_of_ble_eq_true rfl) (lv := [(0, .ref 132), (1, .ref 1), (2, .ref 92)]) rfl ?_
  refine z_aload_n (Y := mX5_init) (pc := 0) 0 dX5_init_0 rfl rfl ?_
  refine z_obj (Y := mX5_init) (pc := 1) dX5_init_1 w_626 w_180 w_181 (by decide) ?_
  refine z_aload_n (Y := mX5_init) (pc := 4) 0 dX5_init_4 rfl rfl ?_
  refine z_aload_n (Y := mX5_init) (pc := 5) 1 dX5_init_5 rfl rfl ?_
  refine y_putF (Y := mX5_init) (pc := 6) dX5_init_6 ff_5_9 zk_132 rfl (by decide) rfl ?_
  refine z_aload_n (Y := mX5_init) (pc := 9) 0 dX5_init_9 rfl rfl ?_
  refine z_aload_n (Y := mX5_init) (pc := 10) 2 dX5_init_10 rfl rfl ?_
  refine y_putF (Y := mX5_init) (pc := 11) dX5_init_11 ff_5_15 zk_132 rfl (by decide) rfl ?_
  exact z_vret (Y := mX5_init) (pc := 14) dX5_init_14 rfl (by decide) (by decide)
theorem kX8_init_133 (I : List (Nat × Nat × Int32)) (J : List (Nat × Nat × Int64)) (R : List (Nat × Nat × Nat)) : z_K mX8_init 1 5 31 [.ref 133] (aM 134 I J R) none (aM 139 (fillL 138 (-1 : Int32) 8 (fillL 136 (-1 : Int32) 8 I)) J ((133, 5, 138) :: ((133, 4, 137) :: ((133, 3, 136) :: ((133, 2, 135) :: ((133, 1, 134) :: R)))))) := by
  refine z_K.of (by decide +kernel) (by show _ ≤ _; first | decide | exact Nat.le_of_ble_eq_true rfl) (lv := [(0, .ref 133)]) rfl ?_
  refine z_aload_n (Y := mX8_init) (pc := 0) 0 dX8_init_0 rfl rfl ?_
  refine z_obj (Y := mX8_init) (pc := 1) dX8_init_1 w_408 w_180 w_181 (by decide) ?_
  refine z_aload_n (Y := mX8_init) (pc := 4) 0 dX8_init_4 rfl rfl ?_
  refine z_iconst (Y := mX8_init) (pc := 5) (v := (3 : Int32)) dX8_init_5 (by decide) ?_
  refine y_newA (Y := mX8_init) (pc := 6) (t := 20) (N := 3) (n' := 135) (cs' := 1) (sl' := 3) dX8_init_6 rfl (by decide) (by decide) w_286 zk_134 (by decide) (by decide) (by decide) rfl rfl rfl (by decide) (by decide) ?_
  refine y_putF (Y := mX8_init) (pc := 8) dX8_init_8 ff_8_9 zk_133 rfl (by decide) rfl ?_
  refine z_aload_n (Y := mX8_init) (pc := 11) 0 dX8_init_11 rfl rfl ?_
  refine z_iconst (Y := mX8_init) (pc := 12) (v := (4 : Int32)) dX8_init_12 (by decide) ?_
  refine y_newA (Y := mX8_init) (pc := 13) (t := 20) (N := 4) (n' := 136) (cs' := 2) (sl' := 7) dX8_init_13 rfl (by decide) (by decide) w_286 zk_135 (by decide) (by decide) (by decide) rfl rfl rfl (by decide) (by decide) ?_
  refine y_putF (Y := mX8_init) (pc := 15) dX8_init_15 ff_8_15 zk_133 rfl (by decide) rfl ?_
  refine z_aload_n (Y := mX8_init) (pc := 18) 0 dX8_init_18 rfl rfl ?_
  refine z_bipush (Y := mX8_init) (pc := 19) (v := (8 : Int32)) dX8_init_19 (by decide) ?_
  refine y_newA (Y := mX8_init) (pc := 21) (t := 20) (N := 8) (n' := 137) (cs' := 3) (sl' := 15) dX8_init_21 rfl (by decide) (by decide) w_286 zk_136 (by decide) (by decide) (by decide) rfl rfl rfl (by decide) (by decide) ?_
  refine y_putF (Y := mX8_init) (pc := 23) dX8_init_23 ff_8_18 zk_133 rfl (by decide) rfl ?_
  refine z_aload_n (Y := mX8_init) (pc := 26) 0 dX8_init_26 rfl rfl ?_
  refine z_bipush (Y := mX8_init) (pc := 27) (v := (8 : Int32)) dX8_init_27 (by decide) ?_
  refine y_newA (Y := mX8_init) (pc := 29) (t := 20) (N := 8) (n' := 138) (cs' := 4) (sl' := 23) dX8_init_29 rfl (by decide) (by decide) w_286 zk_137 (by decide) (by decide) (by decide) rfl rfl rfl (by decide) (by decide) ?_
  refine y_putF (Y := mX8_init) (pc := 31) dX8_init_31 ff_8_21 zk_133 rfl (by decide) rfl ?_
  refine z_aload_n (Y := mX8_init) (pc := 34) 0 dX8_init_34 rfl rfl ?_
  refine z_bipush (Y := mX8_init) (pc := 35) (v := (8 : Int32)) dX8_init_35 (by decide) ?_
  refine y_newA (Y := mX8_init) (pc := 37) (t := 20) (N := 8) (n' := 139) (cs' := 5) (sl' := 31) dX8_init_37 rfl (by decide) (by decide) w_286 zk_138 (by decide) (by decide) (by decide) rfl rfl rfl (by decide) (by decide) ?_
  refine y_putF (Y := mX8_init) (pc := 39) dX8_init_39 ff_8_24 zk_133 rfl (by decide) rfl ?_
  refine z_aload_n (Y := mX8_init) (pc := 42) 0 dX8_init_42 rfl rfl ?_
  refine y_getR (Y := mX8_init) (pc := 43) (r := 136) dX8_init_43 fl_8_18 zk_133 rfl (by decide) rfl rfl ?_
  refine z_iconst (Y := mX8_init) (pc := 46) (v := (-1 : Int32)) dX8_init_46 (by decide) ?_
  refine y_callS (Y := mX8_init) (pc := 47) (as := [.ref 136, .int (-1 : Int32)]) (st := []) dX8_init_47 lk_8_27 (kF (-1 : Int32) I J ((133, 5, 138) :: ((133, 4, 137) :: ((133, 3, 136) :: ((133, 2, 135) :: ((133, 1, 134) :: R))))) zk_136 (by decide) (by decide)) (by decide) (by decide) (by decide) rfl (by decide) rfl ?_
  refine z_aload_n (Y := mX8_init) (pc := 50) 0 dX8_init_50 rfl rfl ?_
  refine y_getR (Y := mX8_init) (pc := 51) (r := 138) dX8_init_51 fl_8_24 zk_133 rfl (by decide) rfl rfl ?_
  refine z_iconst (Y := mX8_init) (pc := 54) (v := (-1 : Int32)) dX8_init_54 (by decide) ?_
  refine y_callS (Y := mX8_init) (pc := 55) (as := [.ref 138, .int (-1 : Int32)]) (st := []) dX8_init_55 lk_8_27 (kF (-1 : Int32) (fillL 136 (-1 : Int32) 8 I) J ((133, 5, 138) :: ((133, 4, 137) :: ((133, 3, 136) :: ((133, 2, 135) :: ((133, 1, 134) :: R))))) zk_138 (by decide) (by decide)) (by decide) (by decide) (by decide) rfl (by decide) rfl ?_
  exact z_vret (Y := mX8_init) (pc := 58) dX8_init_58 rfl (by decide) (by decide)
theorem kX8_init_139 (I : List (Nat × Nat × Int32)) (J : List (Nat × Nat × Int64)) (R : List (Nat × Nat × Nat)) : z_K mX8_init 1 5 31 [.ref 139] (aM 140 I J R) none (aM 145 (fillL 144 (-1 : Int32) 8 (fillL 142 (-1 : Int32) 8 I)) J ((139, 5, 144) :: ((139, 4, 143) :: ((139, 3, 142) :: ((139, 2, 141) :: ((139, 1, 140) :: R)))))) := by
  refine z_K.of (by decide +kernel) (by show _ ≤ _; first | decide | exact Nat.le_of_ble_eq_true rfl) (lv := [(0, .ref 139)]) rfl ?_
  refine z_aload_n (Y := mX8_init) (pc := 0) 0 dX8_init_0 rfl rfl ?_
  refine z_obj (Y := mX8_init) (pc := 1) dX8_init_1 w_408 w_180 w_181 (by decide) ?_
  refine z_aload_n (Y := mX8_init) (pc := 4) 0 dX8_init_4 rfl rfl ?_
  refine z_iconst (Y := mX8_init) (pc := 5) (v := (3 : Int32)) dX8_init_5 (by decide) ?_
  refine y_newA (Y := mX8_init) (pc := 6) (t := 20) (N := 3) (n' := 141) (cs' := 1) (sl' := 3) dX8_init_6 rfl (by decide) (by decide) w_286 zk_140 (by decide) (by decide) (by decide) rfl rfl rfl (by decide) (by decide) ?_
  refine y_putF (Y := mX8_init) (pc := 8) dX8_init_8 ff_8_9 zk_139 rfl (by decide) rfl ?_
  refine z_aload_n (Y := mX8_init) (pc := 11) 0 dX8_init_11 rfl rfl ?_
  refine z_iconst (Y := mX8_init) (pc := 12) (v := (4 : Int32)) dX8_init_12 (by decide) ?_
  refine y_newA (Y := mX8_init) (pc := 13) (t := 20) (N := 4) (n' := 142) (cs' := 2) (sl' := 7) dX8_init_13 rfl (by decide) (by decide) w_286 zk_141 (by decide) (by decide) (by decide) rfl rfl rfl (by decide) (by decide) ?_
  refine y_putF (Y := mX8_init) (pc := 15) dX8_init_15 ff_8_15 zk_139 rfl (by decide) rfl ?_
  refine z_aload_n (Y := mX8_init) (pc := 18) 0 dX8_init_18 rfl rfl ?_
  refine z_bipush (Y := mX8_init) (pc := 19) (v := (8 : Int32)) dX8_init_19 (by decide) ?_
  refine y_newA (Y := mX8_init) (pc := 21) (t := 20) (N := 8) (n' := 143) (cs' := 3) (sl' := 15) dX8_init_21 rfl (by decide) (by decide) w_286 zk_142 (by decide) (by decide) (by decide) rfl rfl rfl (by decide) (by decide) ?_
  refine y_putF (Y := mX8_init) (pc := 23) dX8_init_23 ff_8_18 zk_139 rfl (by decide) rfl ?_
  refine z_aload_n (Y := mX8_init) (pc := 26) 0 dX8_init_26 rfl rfl ?_
  refine z_bipush (Y := mX8_init) (pc := 27) (v := (8 : Int32)) dX8_init_27 (by decide) ?_
  refine y_newA (Y := mX8_init) (pc := 29) (t := 20) (N := 8) (n' := 144) (cs' := 4) (sl' := 23) dX8_init_29 rfl (by decide) (by decide) w_286 zk_143 (by decide) (by decide) (by decide) rfl rfl rfl (by decide) (by decide) ?_
  refine y_putF (Y := mX8_init) (pc := 31) dX8_init_31 ff_8_21 zk_139 rfl (by decide) rfl ?_
  refine z_aload_n (Y := mX8_init) (pc := 34) 0 dX8_init_34 rfl rfl ?_
  refine z_bipush (Y := mX8_init) (pc := 35) (v := (8 : Int32)) dX8_init_35 (by decide) ?_
  refine y_newA (Y := mX8_init) (pc := 37) (t := 20) (N := 8) (n' := 145) (cs' := 5) (sl' := 31) dX8_init_37 rfl (by decide) (by decide) w_286 zk_144 (by decide) (by decide) (by decide) rfl rfl rfl (by decide) (by decide) ?_
  refine y_putF (Y := mX8_init) (pc := 39) dX8_init_39 ff_8_24 zk_139 rfl (by decide) rfl ?_
  refine z_aload_n (Y := mX8_init) (pc := 42) 0 dX8_init_42 rfl rfl ?_
  refine y_getR (Y := mX8_init) (pc := 43) (r := 142) dX8_init_43 fl_8_18 zk_139 rfl (by decide) rfl rfl ?_
  refine z_iconst (Y := mX8_init) (pc := 46) (v := (-1 : Int32)) dX8_init_46 (by decide) ?_
  refine y_callS (Y := mX8_init) (pc := 47) (as := [.ref 142, .int (-1 : Int32)]) (st := []) dX8_init_47 lk_8_27 (kF (-1 : Int32) I J ((139, 5, 144) :: ((139, 4, 143) :: ((139, 3, 142) :: ((139, 2, 141) :: ((139, 1, 140) :: R))))) zk_142 (by decide) (by decide)) (by decide) (by decide) (by decide) rfl (by decide) rfl ?_
  refine z_aload_n (Y := mX8_init) (pc := 50) 0 dX8_init_50 rfl rfl ?_
  refine y_getR (Y := mX8_init) (pc := 51) (r := 144) dX8_init_51 fl_8_24 zk_139 rfl (by decide) rfl rfl ?_
  refine z_iconst (Y := mX8_init) (pc := 54) (v := (-1 : Int32)) dX8_init_54 (by decide) ?_
  refine y_callS (Y := mX8_init) (pc := 55) (as := [.ref 144, .int (-1 : Int32)]) (st := []) dX8_init_55 lk_8_27 (kF (-1 : Int32) (fillL 142 (-1 : Int32) 8 I) J ((139, 5, 144) :: ((139, 4, 143) :: ((139, 3, 142) :: ((139, 2, 141) :: ((139, 1, 140) :: R))))) zk_144 (by decide) (by decide)) (by decide) (by decide) (by decide) rfl (by decide) rfl ?_
  exact z_vret (Y := mX8_init) (pc := 58) dX8_init_58 rfl (by decide) (by decide)
theorem kX8_init_145 (I : List (Nat × Nat × Int32)) (J : List (Nat × Nat × Int64)) (R : List (Nat × Nat × Nat)) : z_K mX8_init 1 5 31 [.ref 145] (aM 146 I J R) none (aM 151 (fillL 150 (-1 : Int32) 8 (fillL 148 (-1 : Int32) 8 I)) J ((145, 5, 150) :: ((145, 4, 149) :: ((145, 3, 148) :: ((145, 2, 147) :: ((145, 1, 146) :: R)))))) := by
  refine z_K.of (by decide +kernel) (by show _ ≤ _; first | decide | exact Nat.le_of_ble_eq_true rfl) (lv := [(0, .ref 145)]) rfl ?_
  refine z_aload_n (Y := mX8_init) (pc := 0) 0 dX8_init_0 rfl rfl ?_
  refine z_obj (Y := mX8_init) (pc := 1) dX8_init_1 w_408 w_180 w_181 (by decide) ?_
  refine z_aload_n (Y := mX8_init) (pc := 4) 0 dX8_init_4 rfl rfl ?_
  refine z_iconst (Y := mX8_init) (pc := 5) (v := (3 : Int32)) dX8_init_5 (by decide) ?_
  refine y_newA (Y := mX8_init) (pc := 6) (t := 20) (N := 3) (n' := 147) (cs' := 1) (sl' := 3) dX8_init_6 rfl (by decide) (by decide) w_286 zk_146 (by decide) (by decide) (by decide) rfl rfl rfl (by decide) (by decide) ?_
  refine y_putF (Y := mX8_init) (pc := 8) dX8_init_8 ff_8_9 zk_145 rfl (by decide) rfl ?_
  refine z_aload_n (Y := mX8_init) (pc := 11) 0 dX8_init_11 rfl rfl ?_
  refine z_iconst (Y := mX8_init) (pc := 12) (v := (4 : Int32)) dX8_init_12 (by decide) ?_
  refine y_newA (Y := mX8_init) (pc := 13) (t := 20) (N := 4) (n' := 148) (cs' := 2) (sl' := 7) dX8_init_13 rfl (by decide) (by decide) w_286 zk_147 (by decide) (by decide) (by decide) rfl rfl rfl (by decide) (by decide) ?_
  refine y_putF (Y := mX8_init) (pc := 15) dX8_init_15 ff_8_15 zk_145 rfl (by decide) rfl ?_
  refine z_aload_n (Y := mX8_init) (pc := 18) 0 dX8_init_18 rfl rfl ?_
  refine z_bipush (Y := mX8_init) (pc := 19) (v := (8 : Int32)) dX8_init_19 (by decide) ?_
  refine y_newA (Y := mX8_init) (pc := 21) (t := 20) (N := 8) (n' := 149) (cs' := 3) (sl' := 15) dX8_init_21 rfl (by decide) (by decide) w_286 zk_148 (by decide) (by decide) (by decide) rfl rfl rfl (by decide) (by decide) ?_
  refine y_putF (Y := mX8_init) (pc := 23) dX8_init_23 ff_8_18 zk_145 rfl (by decide) rfl ?_
  refine z_aload_n (Y := mX8_init) (pc := 26) 0 dX8_init_26 rfl rfl ?_
  refine z_bipush (Y := mX8_init) (pc := 27) (v := (8 : Int32)) dX8_init_27 (by decide) ?_
  refine y_newA (Y := mX8_init) (pc := 29) (t := 20) (N := 8) (n' := 150) (cs' := 4) (sl' := 23) dX8_init_29 rfl (by decide) (by decide) w_286 zk_149 (by decide) (by decide) (by decide) rfl rfl rfl (by decide) (by decide) ?_
  refine y_putF (Y := mX8_init) (pc := 31) dX8_init_31 ff_8_21 zk_145 rfl (by decide) rfl ?_
  refine z_aload_n (Y := mX8_init) (pc := 34) 0 dX8_init_34 rfl rfl ?_
  refine z_bipush (Y := mX8_init) (pc := 35) (v := (8 : Int32)) dX8_init_35 (by decide) ?_
  refine y_newA (Y := mX8_init) (pc := 37) (t := 20) (N := 8) (n' := 151) (cs' := 5) (sl' := 31) dX8_init_37 rfl (by decide) (by decide) w_286 zk_150 (by decide) (by decide) (by decide) rfl rfl rfl (by decide) (by decide) ?_
  refine y_putF (Y := mX8_init) (pc := 39) dX8_init_39 ff_8_24 zk_145 rfl (by decide) rfl ?_
  refine z_aload_n (Y := mX8_init) (pc := 42) 0 dX8_init_42 rfl rfl ?_
  refine y_getR (Y := mX8_init) (pc := 43) (r := 148) dX8_init_43 fl_8_18 zk_145 rfl (by decide) rfl rfl ?_
  refine z_iconst (Y := mX8_init) (pc := 46) (v := (-1 : Int32)) dX8_init_46 (by decide) ?_
  refine y_callS (Y := mX8_init) (pc := 47) (as := [.ref 148, .int (-1 : Int32)]) (st := []) dX8_init_47 lk_8_27 (kF (-1 : Int32) I J ((145, 5, 150) :: ((145, 4, 149) :: ((145, 3, 148) :: ((145, 2, 147) :: ((145, 1, 146) :: R))))) zk_148 (by decide) (by decide)) (by decide) (by decide) (by decide) rfl (by decide) rfl ?_
  refine z_aload_n (Y := mX8_init) (pc := 50) 0 dX8_init_50 rfl rfl ?_
  refine y_getR (Y := mX8_init) (pc := 51) (r := 150) dX8_init_51 fl_8_24 zk_145 rfl (by decide) rfl rfl ?_
  refine z_iconst (Y := mX8_init) (pc := 54) (v := (-1 : Int32)) dX8_init_54 (by decide) ?_
  refine y_callS (Y := mX8_init) (pc := 55) (as := [.ref 150, .int (-1 : Int32)]) (st := []) dX8_init_55 lk_8_27 (kF (-1 : Int32) (fillL 148 (-1 : Int32) 8 I) J ((145, 5, 150) :: ((145, 4, 149) :: ((145, 3, 148) :: ((145, 2, 147) :: ((145, 1, 146) :: R))))) zk_150 (by decide) (by decide)) (by decide) (by decide) (by decide) rfl (by decide) rfl ?_
  exact z_vret (Y := mX8_init) (pc := 58) dX8_init_58 rfl (by decide) (by decide)
theorem kX8_init_151 (I : List (Nat × Nat × Int32)) (J : List (Nat × Nat × Int64)) (R : List (Nat × Nat × Nat)) : z_K mX8_init 1 5 31 [.ref 151] (aM 152 I J R) none (aM 157 (fillL 156 (-1 : Int32) 8 (fillL 154 (-1 : Int32) 8 I)) J ((151, 5, 156) :: ((151, 4, 155) :: ((151, 3, 154) :: ((151, 2, 153) :: ((151, 1, 152) :: R)))))) := by
  refine z_K.of (by decide +kernel) (by show _ ≤ _; first | decide | exact Nat.le_of_ble_eq_true rfl) (lv := [(0, .ref 151)]) rfl ?_
  refine z_aload_n (Y := mX8_init) (pc := 0) 0 dX8_init_0 rfl rfl ?_
  refine z_obj (Y := mX8_init) (pc := 1) dX8_init_1 w_408 w_180 w_181 (by decide) ?_
  refine z_aload_n (Y := mX8_init) (pc := 4) 0 dX8_init_4 rfl rfl ?_
  refine z_iconst (Y := mX8_init) (pc := 5) (v := (3 : Int32)) dX8_init_5 (by decide) ?_
  refine y_newA (Y := mX8_init) (pc := 6) (t := 20) (N := 3) (n' := 153) (cs' := 1) (sl' := 3) dX8_init_6 rfl (by decide) (by decide) w_286 zk_152 (by decide) (by decide) (by decide) rfl rfl rfl (by decide) (by decide) ?_
  refine y_putF (Y := mX8_init) (pc := 8) dX8_init_8 ff_8_9 zk_151 rfl (by decide) rfl ?_
  refine z_aload_n (Y := mX8_init) (pc := 11) 0 dX8_init_11 rfl rfl ?_
  refine z_iconst (Y := mX8_init) (pc := 12) (v := (4 : Int32)) dX8_init_12 (by decide) ?_
  refine y_newA (Y := mX8_init) (pc := 13) (t := 20) (N := 4) (n' := 154) (cs' := 2) (sl' := 7) dX8_init_13 rfl (by decide) (by decide) w_286 zk_153 (by decide) (by decide) (by decide) rfl rfl rfl (by decide) (by decide) ?_
  refine y_putF (Y := mX8_init) (pc := 15) dX8_init_15 ff_8_15 zk_151 rfl (by decide) rfl ?_
  refine z_aload_n (Y := mX8_init) (pc := 18) 0 dX8_init_18 rfl rfl ?_
  refine z_bipush (Y := mX8_init) (pc := 19) (v := (8 : Int32)) dX8_init_19 (by decide) ?_
  refine y_newA (Y := mX8_init) (pc := 21) (t := 20) (N := 8) (n' := 155) (cs' := 3) (sl' := 15) dX8_init_21 rfl (by decide) (by decide) w_286 zk_154 (by decide) (by decide) (by decide) rfl rfl rfl (by decide) (by decide) ?_
  refine y_putF (Y := mX8_init) (pc := 23) dX8_init_23 ff_8_18 zk_151 rfl (by decide) rfl ?_
  refine z_aload_n (Y := mX8_init) (pc := 26) 0 dX8_init_26 rfl rfl ?_
  refine z_bipush (Y := mX8_init) (pc := 27) (v := (8 : Int32)) dX8_init_27 (by decide) ?_
  refine y_newA (Y := mX8_init) (pc := 29) (t := 20) (N := 8) (n' := 156) (cs' := 4) (sl' := 23) dX8_init_29 rfl (by decide) (by decide) w_286 zk_155 (by decide) (by decide) (by decide) rfl rfl rfl (by decide) (by decide) ?_
  refine y_putF (Y := mX8_init) (pc := 31) dX8_init_31 ff_8_21 zk_151 rfl (by decide) rfl ?_
  refine z_aload_n (Y := mX8_init) (pc := 34) 0 dX8_init_34 rfl rfl ?_
  refine z_bipush (Y := mX8_init) (pc := 35) (v := (8 : Int32)) dX8_init_35 (by decide) ?_
  refine y_newA (Y := mX8_init) (pc := 37) (t := 20) (N := 8) (n' := 157) (cs' := 5) (sl' := 31) dX8_init_37 rfl (by decide) (by decide) w_286 zk_156 (by decide) (by decide) (by decide) rfl rfl rfl (by decide) (by decide) ?_
  refine y_putF (Y := mX8_init) (pc := 39) dX8_init_39 ff_8_24 zk_151 rfl (by decide) rfl ?_
  refine z_aload_n (Y := mX8_init) (pc := 42) 0 dX8_init_42 rfl rfl ?_
  refine y_getR (Y := mX8_init) (pc := 43) (r := 154) dX8_init_43 fl_8_18 zk_151 rfl (by decide) rfl rfl ?_
  refine z_iconst (Y := mX8_init) (pc := 46) (v := (-1 : Int32)) dX8_init_46 (by decide) ?_
  refine y_callS (Y := mX8_init) (pc := 47) (as := [.ref 154, .int (-1 : Int32)]) (st := []) dX8_init_47 lk_8_27 (kF (-1 : Int32) I J ((151, 5, 156) :: ((151, 4, 155) :: ((151, 3, 154) :: ((151, 2, 153) :: ((151, 1, 152) :: R))))) zk_154 (by decide) (by decide)) (by decide) (by decide) (by decide) rfl (by decide) rfl ?_
  refine z_aload_n (Y := mX8_init) (pc := 50) 0 dX8_init_50 rfl rfl ?_
  refine y_getR (Y := mX8_init) (pc := 51) (r := 156) dX8_init_51 fl_8_24 zk_151 rfl (by decide) rfl rfl ?_
  refine z_iconst (Y := mX8_init) (pc := 54) (v := (-1 : Int32)) dX8_init_54 (by decide) ?_
  refine y_callS (Y := mX8_init) (pc := 55) (as := [.ref 156, .int (-1 : Int32)]) (st := []) dX8_init_55 lk_8_27 (kF (-1 : Int32) (fillL 154 (-1 : Int32) 8 I) J ((151, 5, 156) :: ((151, 4, 155) :: ((151, 3, 154) :: ((151, 2, 153) :: ((151, 1, 152) :: R))))) zk_156 (by decide) (by decide)) (by decide) (by decide) (by decide) rfl (by decide) rfl ?_
  exact z_vret (Y := mX8_init) (pc := 58) dX8_init_58 rfl (by decide) (by decide)
theorem kX8_init_157 (I : List (Nat × Nat × Int32)) (J : List (Nat × Nat × Int64)) (R : List (Nat × Nat × Nat)) : z_K mX8_init 1 5 31 [.ref 157] (aM 158 I J R) none (aM 163 (fillL 162 (-1 : Int32) 8 (fillL 160 (-1 : Int32) 8 I)) J ((157, 5, 162) :: ((157, 4, 161) :: ((157, 3, 160) :: ((157, 2, 159) :: ((157, 1, 158) :: R)))))) := by
  refine z_K.of (by decide +kernel) (by show _ ≤ _; first | decide | exact Nat.le_of_ble_eq_true rfl) (lv := [(0, .ref 157)]) rfl ?_
  refine z_aload_n (Y := mX8_init) (pc := 0) 0 dX8_init_0 rfl rfl ?_
  refine z_obj (Y := mX8_init) (pc := 1) dX8_init_1 w_408 w_180 w_181 (by decide) ?_
  refine z_aload_n (Y := mX8_init) (pc := 4) 0 dX8_init_4 rfl rfl ?_
  refine z_iconst (Y := mX8_init) (pc := 5) (v := (3 : Int32)) dX8_init_5 (by decide) ?_
  refine y_newA (Y := mX8_init) (pc := 6) (t := 20) (N := 3) (n' := 159) (cs' := 1) (sl' := 3) dX8_init_6 rfl (by decide) (by decide) w_286 zk_158 (by decide) (by decide) (by decide) rfl rfl rfl (by decide) (by decide) ?_
  refine y_putF (Y := mX8_init) (pc := 8) dX8_init_8 ff_8_9 zk_157 rfl (by decide) rfl ?_
  refine z_aload_n (Y := mX8_init) (pc := 11) 0 dX8_init_11 rfl rfl ?_
  refine z_iconst (Y := mX8_init) (pc := 12) (v := (4 : Int32)) dX8_init_12 (by decide) ?_
  refine y_newA (Y := mX8_init) (pc := 13) (t := 20) (N := 4) (n' := 160) (cs' := 2) (sl' := 7) dX8_init_13 rfl (by decide) (by decide) w_286 zk_159 (by decide) (by decide) (by decide) rfl rfl rfl (by decide) (by decide) ?_
  refine y_putF (Y := mX8_init) (pc := 15) dX8_init_15 ff_8_15 zk_157 rfl (by decide) rfl ?_
  refine z_aload_n (Y := mX8_init) (pc := 18) 0 dX8_init_18 rfl rfl ?_
  refine z_bipush (Y := mX8_init) (pc := 19) (v := (8 : Int32)) dX8_init_19 (by decide) ?_
  refine y_newA (Y := mX8_init) (pc := 21) (t := 20) (N := 8) (n' := 161) (cs' := 3) (sl' := 15) dX8_init_21 rfl (by decide) (by decide) w_286 zk_160 (by decide) (by decide) (by decide) rfl rfl rfl (by decide) (by decide) ?_
  refine y_putF (Y := mX8_init) (pc := 23) dX8_init_23 ff_8_18 zk_157 rfl (by decide) rfl ?_
  refine z_aload_n (Y := mX8_init) (pc := 26) 0 dX8_init_26 rfl rfl ?_
  refine z_bipush (Y := mX8_init) (pc := 27) (v := (8 : Int32)) dX8_init_27 (by decide) ?_
  refine y_newA (Y := mX8_init) (pc := 29) (t := 20) (N := 8) (n' := 162) (cs' := 4) (sl' := 23) dX8_init_29 rfl (by decide) (by decide) w_286 zk_161 (by decide) (by decide) (by decide) rfl rfl rfl (by decide) (by decide) ?_
  refine y_putF (Y := mX8_init) (pc := 31) dX8_init_31 ff_8_21 zk_157 rfl (by decide) rfl ?_
  refine z_aload_n (Y := mX8_init) (pc := 34) 0 dX8_init_34 rfl rfl ?_
  refine z_bipush (Y := mX8_init) (pc := 35) (v := (8 : Int32)) dX8_init_35 (by decide) ?_
  refine y_newA (Y := mX8_init) (pc := 37) (t := 20) (N := 8) (n' := 163) (cs' := 5) (sl' := 31) dX8_init_37 rfl (by decide) (by decide) w_286 zk_162 (by decide) (by decide) (by decide) rfl rfl rfl (by decide) (by decide) ?_
  refine y_putF (Y := mX8_init) (pc := 39) dX8_init_39 ff_8_24 zk_157 rfl (by decide) rfl ?_
  refine z_aload_n (Y := mX8_init) (pc := 42) 0 dX8_init_42 rfl rfl ?_
  refine y_getR (Y := mX8_init) (pc := 43) (r := 160) dX8_init_43 fl_8_18 zk_157 rfl (by decide) rfl rfl ?_
  refine z_iconst (Y := mX8_init) (pc := 46) (v := (-1 : Int32)) dX8_init_46 (by decide) ?_
  refine y_callS (Y := mX8_init) (pc := 47) (as := [.ref 160, .int (-1 : Int32)]) (st := []) dX8_init_47 lk_8_27 (kF (-1 : Int32) I J ((157, 5, 162) :: ((157, 4, 161) :: ((157, 3, 160) :: ((157, 2, 159) :: ((157, 1, 158) :: R))))) zk_160 (by decide) (by decide)) (by decide) (by decide) (by decide) rfl (by decide) rfl ?_
  refine z_aload_n (Y := mX8_init) (pc := 50) 0 dX8_init_50 rfl rfl ?_
  refine y_getR (Y := mX8_init) (pc := 51) (r := 162) dX8_init_51 fl_8_24 zk_157 rfl (by decide) rfl rfl ?_
  refine z_iconst (Y := mX8_init) (pc := 54) (v := (-1 : Int32)) dX8_init_54 (by decide) ?_
  refine y_callS (Y := mX8_init) (pc := 55) (as := [.ref 162, .int (-1 : Int32)]) (st := []) dX8_init_55 lk_8_27 (kF (-1 : Int32) (fillL 160 (-1 : Int32) 8 I) J ((157, 5, 162) :: ((157, 4, 161) :: ((157, 3, 160) :: ((157, 2, 159) :: ((157, 1, 158) :: R))))) zk_162 (by decide) (by decide)) (by decide) (by decide) (by decide) rfl (by decide) rfl ?_
  exact z_vret (Y := mX8_init) (pc := 58) dX8_init_58 rfl (by decide) (by decide)
theorem kX8_init_163 (I : List (Nat × Nat × Int32)) (J : List (Nat × Nat × Int64)) (R : List (Nat × Nat × Nat)) : z_K mX8_init 1 5 31 [.ref 163] (aM 164 I J R) none (aM 169 (fillL 168 (-1 : Int32) 8 (fillL 166 (-1 : Int32) 8 I)) J ((163, 5, 168) :: ((163, 4, 167) :: ((163, 3, 166) :: ((163, 2, 165) :: ((163, 1, 164) :: R)))))) := by
  refine z_K.of (by decide +kernel) (by show _ ≤ _; first | decide | exact Nat.le_of_ble_eq_true rfl) (lv := [(0, .ref 163)]) rfl ?_
  refine z_aload_n (Y := mX8_init) (pc := 0) 0 dX8_init_0 rfl rfl ?_
  refine z_obj (Y := mX8_init) (pc := 1) dX8_init_1 w_408 w_180 w_181 (by decide) ?_
  refine z_aload_n (Y := mX8_init) (pc := 4) 0 dX8_init_4 rfl rfl ?_
  refine z_iconst (Y := mX8_init) (pc := 5) (v := (3 : Int32)) dX8_init_5 (by decide) ?_
  refine y_newA (Y := mX8_init) (pc := 6) (t := 20) (N := 3) (n' := 165) (cs' := 1) (sl' := 3) dX8_init_6 rfl (by decide) (by decide) w_286 zk_164 (by decide) (by decide) (by decide) rfl rfl rfl (by decide) (by decide) ?_
  refine y_putF (Y := mX8_init) (pc := 8) dX8_init_8 ff_8_9 zk_163 rfl (by decide) rfl ?_
  refine z_aload_n (Y := mX8_init) (pc := 11) 0 dX8_init_11 rfl rfl ?_
  refine z_iconst (Y := mX8_init) (pc := 12) (v := (4 : Int32)) dX8_init_12 (by decide) ?_
  refine y_newA (Y := mX8_init) (pc := 13) (t := 20) (N := 4) (n' := 166) (cs' := 2) (sl' := 7) dX8_init_13 rfl (by decide) (by decide) w_286 zk_165 (by decide) (by decide) (by decide) rfl rfl rfl (by decide) (by decide) ?_
  refine y_putF (Y := mX8_init) (pc := 15) dX8_init_15 ff_8_15 zk_163 rfl (by decide) rfl ?_
  refine z_aload_n (Y := mX8_init) (pc := 18) 0 dX8_init_18 rfl rfl ?_
  refine z_bipush (Y := mX8_init) (pc := 19) (v := (8 : Int32)) dX8_init_19 (by decide) ?_
  refine y_newA (Y := mX8_init) (pc := 21) (t := 20) (N := 8) (n' := 167) (cs' := 3) (sl' := 15) dX8_init_21 rfl (by decide) (by decide) w_286 zk_166 (by decide) (by decide) (by decide) rfl rfl rfl (by decide) (by decide) ?_
  refine y_putF (Y := mX8_init) (pc := 23) dX8_init_23 ff_8_18 zk_163 rfl (by decide) rfl ?_
  refine z_aload_n (Y := mX8_init) (pc := 26) 0 dX8_init_26 rfl rfl ?_
  refine z_bipush (Y := mX8_init) (pc := 27) (v := (8 : Int32)) dX8_init_27 (by decide) ?_
  refine y_newA (Y := mX8_init) (pc := 29) (t := 20) (N := 8) (n' := 168) (cs' := 4) (sl' := 23) dX8_init_29 rfl (by decide) (by decide) w_286 zk_167 (by decide) (by decide) (by decide) rfl rfl rfl (by decide) (by decide) ?_
  refine y_putF (Y := mX8_init) (pc := 31) dX8_init_31 ff_8_21 zk_163 rfl (by decide) rfl ?_
  refine z_aload_n (Y := mX8_init) (pc := 34) 0 dX8_init_34 rfl rfl ?_
  refine z_bipush (Y := mX8_init) (pc := 35) (v := (8 : Int32)) dX8_init_35 (by decide) ?_
  refine y_newA (Y := mX8_init) (pc := 37) (t := 20) (N := 8) (n' := 169) (cs' := 5) (sl' := 31) dX8_init_37 rfl (by decide) (by decide) w_286 zk_168 (by decide) (by decide) (by decide) rfl rfl rfl (by decide) (by decide) ?_
  refine y_putF (Y := mX8_init) (pc := 39) dX8_init_39 ff_8_24 zk_163 rfl (by decide) rfl ?_
  refine z_aload_n (Y := mX8_init) (pc := 42) 0 dX8_init_42 rfl rfl ?_
  refine y_getR (Y := mX8_init) (pc := 43) (r := 166) dX8_init_43 fl_8_18 zk_163 rfl (by decide) rfl rfl ?_
  refine z_iconst (Y := mX8_init) (pc := 46) (v := (-1 : Int32)) dX8_init_46 (by decide) ?_
  refine y_callS (Y := mX8_init) (pc := 47) (as := [.ref 166, .int (-1 : Int32)]) (st := []) dX8_init_47 lk_8_27 (kF (-1 : Int32) I J ((163, 5, 168) :: ((163, 4, 167) :: ((163, 3, 166) :: ((163, 2, 165) :: ((163, 1, 164) :: R))))) zk_166 (by decide) (by decide)) (by decide) (by decide) (by decide) rfl (by decide) rfl ?_
  refine z_aload_n (Y := mX8_init) (pc := 50) 0 dX8_init_50 rfl rfl ?_
  refine y_getR (Y := mX8_init) (pc := 51) (r := 168) dX8_init_51 fl_8_24 zk_163 rfl (by decide) rfl rfl ?_
  refine z_iconst (Y := mX8_init) (pc := 54) (v := (-1 : Int32)) dX8_init_54 (by decide) ?_
  refine y_callS (Y := mX8_init) (pc := 55) (as := [.ref 168, .int (-1 : Int32)]) (st := []) dX8_init_55 lk_8_27 (kF (-1 : Int32) (fillL 166 (-1 : Int32) 8 I) J ((163, 5, 168) :: ((163, 4, 167) :: ((163, 3, 166) :: ((163, 2, 165) :: ((163, 1, 164) :: R))))) zk_168 (by decide) (by decide)) (by decide) (by decide) (by decide) rfl (by decide) rfl ?_
  exact z_vret (Y := mX8_init) (pc := 58) dX8_init_58 rfl (by decide) (by decide)
theorem kX8_init_169 (I : List (Nat × Nat × Int32)) (J : List (Nat × Nat × Int64)) (R : List (Nat × Nat × Nat)) : z_K mX8_init 1 5 31 [.ref 169] (aM 170 I J R) none (aM 175 (fillL 174 (-1 : Int32) 8 (fillL 172 (-1 : Int32) 8 I)) J ((169, 5, 174) :: ((169, 4, 173) :: ((169, 3, 172) :: ((169, 2, 171) :: ((169, 1, 170) :: R)))))) := by
  refine z_K.of (by decide +kernel) (by show _ ≤ _; first | decide | exact Nat.le_of_ble_eq_true rfl) (lv := [(0, .ref 169)]) rfl ?_
  refine z_aload_n (Y := mX8_init) (pc := 0) 0 dX8_init_0 rfl rfl ?_
  refine z_obj (Y := mX8_init) (pc := 1) dX8_init_1 w_408 w_180 w_181 (by decide) ?_
  refine z_aload_n (Y := mX8_init) (pc := 4) 0 dX8_init_4 rfl rfl ?_
  refine z_iconst (Y := mX8_init) (pc := 5) (v := (3 : Int32)) dX8_init_5 (by decide) ?_
  refine y_newA (Y := mX8_init) (pc := 6) (t := 20) (N := 3) (n' := 171) (cs' := 1) (sl' := 3) dX8_init_6 rfl (by decide) (by decide) w_286 zk_170 (by decide) (by decide) (by decide) rfl rfl rfl (by decide) (by decide) ?_
  refine y_putF (Y := mX8_init) (pc := 8) dX8_init_8 ff_8_9 zk_169 rfl (by decide) rfl ?_
  refine z_aload_n (Y := mX8_init) (pc := 11) 0 dX8_init_11 rfl rfl ?_
  refine z_iconst (Y := mX8_init) (pc := 12) (v := (4 : Int32)) dX8_init_12 (by decide) ?_
  refine y_newA (Y := mX8_init) (pc := 13) (t := 20) (N := 4) (n' := 172) (cs' := 2) (sl' := 7) dX8_init_13 rfl (by decide) (by decide) w_286 zk_171 (by decide) (by decide) (by decide) rfl rfl rfl (by decide) (by decide) ?_
  refine y_putF (Y := mX8_init) (pc := 15) dX8_init_15 ff_8_15 zk_169 rfl (by decide) rfl ?_
  refine z_aload_n (Y := mX8_init) (pc := 18) 0 dX8_init_18 rfl rfl ?_
  refine z_bipush (Y := mX8_init) (pc := 19) (v := (8 : Int32)) dX8_init_19 (by decide) ?_
  refine y_newA (Y := mX8_init) (pc := 21) (t := 20) (N := 8) (n' := 173) (cs' := 3) (sl' := 15) dX8_init_21 rfl (by decide) (by decide) w_286 zk_172 (by decide) (by decide) (by decide) rfl rfl rfl (by decide) (by decide) ?_
  refine y_putF (Y := mX8_init) (pc := 23) dX8_init_23 ff_8_18 zk_169 rfl (by decide) rfl ?_
  refine z_aload_n (Y := mX8_init) (pc := 26) 0 dX8_init_26 rfl rfl ?_
  refine z_bipush (Y := mX8_init) (pc := 27) (v := (8 : Int32)) dX8_init_27 (by decide) ?_
  refine y_newA (Y := mX8_init) (pc := 29) (t := 20) (N := 8) (n' := 174) (cs' := 4) (sl' := 23) dX8_init_29 rfl (by decide) (by decide) w_286 zk_173 (by decide) (by decide) (by decide) rfl rfl rfl (by decide) (by decide) ?_
  refine y_putF (Y := mX8_init) (pc := 31) dX8_init_31 ff_8_21 zk_169 rfl (by decide) rfl ?_
  refine z_aload_n (Y := mX8_init) (pc := 34) 0 dX8_init_34 rfl rfl ?_
  refine z_bipush (Y := mX8_init) (pc := 35) (v := (8 : Int32)) dX8_init_35 (by decide) ?_
  refine y_newA (Y := mX8_init) (pc := 37) (t := 20) (N := 8) (n' := 175) (cs' := 5) (sl' := 31) dX8_init_37 rfl (by decide) (by decide) w_286 zk_174 (by decide) (by decide) (by decide) rfl rfl rfl (by decide) (by decide) ?_
  refine y_putF (Y := mX8_init) (pc := 39) dX8_init_39 ff_8_24 zk_169 rfl (by decide) rfl ?_
  refine z_aload_n (Y := mX8_init) (pc := 42) 0 dX8_init_42 rfl rfl ?_
  refine y_getR (Y := mX8_init) (pc := 43) (r := 172) dX8_init_43 fl_8_18 zk_169 rfl (by decide) rfl rfl ?_
  refine z_iconst (Y := mX8_init) (pc := 46) (v := (-1 : Int32)) dX8_init_46 (by decide) ?_
  refine y_callS (Y := mX8_init) (pc := 47) (as := [.ref 172, .int (-1 : Int32)]) (st := []) dX8_init_47 lk_8_27 (kF (-1 : Int32) I J ((169, 5, 174) :: ((169, 4, 173) :: ((169, 3, 172) :: ((169, 2, 171) :: ((169, 1, 170) :: R))))) zk_172 (by decide) (by decide)) (by decide) (by decide) (by decide) rfl (by decide) rfl ?_
  refine z_aload_n (Y := mX8_init) (pc := 50) 0 dX8_init_50 rfl rfl ?_
  refine y_getR (Y := mX8_init) (pc := 51) (r := 174) dX8_init_51 fl_8_24 zk_169 rfl (by decide) rfl rfl ?_
  refine z_iconst (Y := mX8_init) (pc := 54) (v := (-1 : Int32)) dX8_init_54 (by decide) ?_
  refine y_callS (Y := mX8_init) (pc := 55) (as := [.ref 174, .int (-1 : Int32)]) (st := []) dX8_init_55 lk_8_27 (kF (-1 : Int32) (fillL 172 (-1 : Int32) 8 I) J ((169, 5, 174) :: ((169, 4, 173) :: ((169, 3, 172) :: ((169, 2, 171) :: ((169, 1, 170) :: R))))) zk_174 (by decide) (by decide)) (by decide) (by decide) (by decide) rfl (by decide) rfl ?_
  exact z_vret (Y := mX8_init) (pc := 58) dX8_init_58 rfl (by decide) (by decide)
theorem kX8_init_175 (I : List (Nat × Nat × Int32)) (J : List (Nat × Nat × Int64)) (R : List (Nat × Nat × Nat)) : z_K mX8_init 1 5 31 [.ref 175] (aM 176 I J R) none (aM 181 (fillL 180 (-1 : Int32) 8 (fillL 178 (-1 : Int32) 8 I)) J ((175, 5, 180) :: ((175, 4, 179) :: ((175, 3, 178) :: ((175, 2, 177) :: ((175, 1, 176) :: R)))))) := by
  refine z_K.of (by decide +kernel) (by show _ ≤ _; first | decide | exact Nat.le_of_ble_eq_true rfl) (lv := [(0, .ref 175)]) rfl ?_
  refine z_aload_n (Y := mX8_init) (pc := 0) 0 dX8_init_0 rfl rfl ?_
  refine z_obj (Y := mX8_init) (pc := 1) dX8_init_1 w_408 w_180 w_181 (by decide) ?_
  refine z_aload_n (Y := mX8_init) (pc := 4) 0 dX8_init_4 rfl rfl ?_
  refine z_iconst (Y := mX8_init) (pc := 5) (v := (3 : Int32)) dX8_init_5 (by decide) ?_
  refine y_newA (Y := mX8_init) (pc := 6) (t := 20) (N := 3) (n' := 177) (cs' := 1) (sl' := 3) dX8_init_6 rfl (by decide) (by decide) w_286 zk_176 (by decide) (by decide) (by decide) rfl rfl rfl (by decide) (by decide) ?_
  refine y_putF (Y := mX8_init) (pc := 8) dX8_init_8 ff_8_9 zk_175 rfl (by decide) rfl ?_
  refine z_aload_n (Y := mX8_init) (pc := 11) 0 dX8_init_11 rfl rfl ?_
  refine z_iconst (Y := mX8_init) (pc := 12) (v := (4 : Int32)) dX8_init_12 (by decide) ?_
  refine y_newA (Y := mX8_init) (pc := 13) (t := 20) (N := 4) (n' := 178) (cs' := 2) (sl' := 7) dX8_init_13 rfl (by decide) (by decide) w_286 zk_177 (by decide) (by decide) (by decide) rfl rfl rfl (by decide) (by decide) ?_
  refine y_putF (Y := mX8_init) (pc := 15) dX8_init_15 ff_8_15 zk_175 rfl (by decide) rfl ?_
  refine z_aload_n (Y := mX8_init) (pc := 18) 0 dX8_init_18 rfl rfl ?_
  refine z_bipush (Y := mX8_init) (pc := 19) (v := (8 : Int32)) dX8_init_19 (by decide) ?_
  refine y_newA (Y := mX8_init) (pc := 21) (t := 20) (N := 8) (n' := 179) (cs' := 3) (sl' := 15) dX8_init_21 rfl (by decide) (by decide) w_286 zk_178 (by decide) (by decide) (by decide) rfl rfl rfl (by decide) (by decide) ?_
  refine y_putF (Y := mX8_init) (pc := 23) dX8_init_23 ff_8_18 zk_175 rfl (by decide) rfl ?_
  refine z_aload_n (Y := mX8_init) (pc := 26) 0 dX8_init_26 rfl rfl ?_
  refine z_bipush (Y := mX8_init) (pc := 27) (v := (8 : Int32)) dX8_init_27 (by decide) ?_
  refine y_newA (Y := mX8_init) (pc := 29) (t := 20) (N := 8) (n' := 180) (cs' := 4) (sl' := 23) dX8_init_29 rfl (by decide) (by decide) w_286 zk_179 (by decide) (by decide) (by decide) rfl rfl rfl (by decide) (by decide) ?_
  refine y_putF (Y := mX8_init) (pc := 31) dX8_init_31 ff_8_21 zk_175 rfl (by decide) rfl ?_
  refine z_aload_n (Y := mX8_init) (pc := 34) 0 dX8_init_34 rfl rfl ?_
  refine z_bipush (Y := mX8_init) (pc := 35) (v := (8 : Int32)) dX8_init_35 (by decide) ?_
  refine y_newA (Y := mX8_init) (pc := 37) (t := 20) (N := 8) (n' := 181) (cs' := 5) (sl' := 31) dX8_init_37 rfl (by decide) (by decide) w_286 zk_180 (by decide) (by decide) (by decide) rfl rfl rfl (by decide) (by decide) ?_
  refine y_putF (Y := mX8_init) (pc := 39) dX8_init_39 ff_8_24 zk_175 rfl (by decide) rfl ?_
  refine z_aload_n (Y := mX8_init) (pc := 42) 0 dX8_init_42 rfl rfl ?_
  refine y_getR (Y := mX8_init) (pc := 43) (r := 178) dX8_init_43 fl_8_18 zk_175 rfl (by decide) rfl rfl ?_
  refine z_iconst (Y := mX8_init) (pc := 46) (v := (-1 : Int32)) dX8_init_46 (by decide) ?_
  refine y_callS (Y := mX8_init) (pc := 47) (as := [.ref 178, .int (-1 : Int32)]) (st := []) dX8_init_47 lk_8_27 (kF (-1 : Int32) I J ((175, 5, 180) :: ((175, 4, 179) :: ((175, 3, 178) :: ((175, 2, 177) :: ((175, 1, 176) :: R))))) zk_178 (by decide) (by decide)) (by decide) (by decide) (by decide) rfl (by decide) rfl ?_
  refine z_aload_n (Y := mX8_init) (pc := 50) 0 dX8_init_50 rfl rfl ?_
  refine y_getR (Y := mX8_init) (pc := 51) (r := 180) dX8_init_51 fl_8_24 zk_175 rfl (by decide) rfl rfl ?_
  refine z_iconst (Y := mX8_init) (pc := 54) (v := (-1 : Int32)) dX8_init_54 (by decide) ?_
  refine y_callS (Y := mX8_init) (pc := 55) (as := [.ref 180, .int (-1 : Int32)]) (st := []) dX8_init_55 lk_8_27 (kF (-1 : Int32) (fillL 178 (-1 : Int32) 8 I) J ((175, 5, 180) :: ((175, 4, 179) :: ((175, 3, 178) :: ((175, 2, 177) :: ((175, 1, 176) :: R))))) zk_180 (by decide) (by decide)) (by decide) (by decide) (by decide) rfl (by decide) rfl ?_
  exact z_vret (Y := mX8_init) (pc := 58) dX8_init_58 rfl (by decide) (by decide)
theorem kX8_init_181 (I : List (Nat × Nat × Int32)) (J : List (Nat × Nat × Int64)) (R : List (Nat × Nat × Nat)) : z_K mX8_init 1 5 31 [.ref 181] (aM 182 I J R) none (aM 187 (fillL 186 (-1 : Int32) 8 (fillL 184 (-1 : Int32) 8 I)) J ((181, 5, 186) :: ((181, 4, 185) :: ((181, 3, 184) :: ((181, 2, 183) :: ((181, 1, 182) :: R)))))) := by
  refine z_K.of (by decide +kernel) (by show _ ≤ _; first | decide | exact Nat.le_of_ble_eq_true rfl) (lv := [(0, .ref 181)]) rfl ?_
  refine z_aload_n (Y := mX8_init) (pc := 0) 0 dX8_init_0 rfl rfl ?_
  refine z_obj (Y := mX8_init) (pc := 1) dX8_init_1 w_408 w_180 w_181 (by decide) ?_
  refine z_aload_n (Y := mX8_init) (pc := 4) 0 dX8_init_4 rfl rfl ?_
  refine z_iconst (Y := mX8_init) (pc := 5) (v := (3 : Int32)) dX8_init_5 (by decide) ?_
  refine y_newA (Y := mX8_init) (pc := 6) (t := 20) (N := 3) (n' := 183) (cs' := 1) (sl' := 3) dX8_init_6 rfl (by decide) (by decide) w_286 zk_182 (by decide) (by decide) (by decide) rfl rfl rfl (by decide) (by decide) ?_
  refine y_putF (Y := mX8_init) (pc := 8) dX8_init_8 ff_8_9 zk_181 rfl (by decide) rfl ?_
  refine z_aload_n (Y := mX8_init) (pc := 11) 0 dX8_init_11 rfl rfl ?_
  refine z_iconst (Y := mX8_init) (pc := 12) (v := (4 : Int32)) dX8_init_12 (by decide) ?_
  refine y_newA (Y := mX8_init) (pc := 13) (t := 20) (N := 4) (n' := 184) (cs' := 2) (sl' := 7) dX8_init_13 rfl (by decide) (by decide) w_286 zk_183 (by decide) (by decide) (by decide) rfl rfl rfl (by decide) (by decide) ?_
  refine y_putF (Y := mX8_init) (pc := 15) dX8_init_15 ff_8_15 zk_181 rfl (by decide) rfl ?_
  refine z_aload_n (Y := mX8_init) (pc := 18) 0 dX8_init_18 rfl rfl ?_
  refine z_bipush (Y := mX8_init) (pc := 19) (v := (8 : Int32)) dX8_init_19 (by decide) ?_
  refine y_newA (Y := mX8_init) (pc := 21) (t := 20) (N := 8) (n' := 185) (cs' := 3) (sl' := 15) dX8_init_21 rfl (by decide) (by decide) w_286 zk_184 (by decide) (by decide) (by decide) rfl rfl rfl (by decide) (by decide) ?_
  refine y_putF (Y := mX8_init) (pc := 23) dX8_init_23 ff_8_18 zk_181 rfl (by decide) rfl ?_
  refine z_aload_n (Y := mX8_init) (pc := 26) 0 dX8_init_26 rfl rfl ?_
  refine z_bipush (Y := mX8_init) (pc := 27) (v := (8 : Int32)) dX8_init_27 (by decide) ?_
  refine y_newA (Y := mX8_init) (pc := 29) (t := 20) (N := 8) (n' := 186) (cs' := 4) (sl' := 23) dX8_init_29 rfl (by decide) (by decide) w_286 zk_185 (by decide) (by decide) (by decide) rfl rfl rfl (by decide) (by decide) ?_
  refine y_putF (Y := mX8_init) (pc := 31) dX8_init_31 ff_8_21 zk_181 rfl (by decide) rfl ?_
  refine z_aload_n (Y := mX8_init) (pc := 34) 0 dX8_init_34 rfl rfl ?_
  refine z_bipush (Y := mX8_init) (pc := 35) (v := (8 : Int32)) dX8_init_35 (by decide) ?_
  refine y_newA (Y := mX8_init) (pc := 37) (t := 20) (N := 8) (n' := 187) (cs' := 5) (sl' := 31) dX8_init_37 rfl (by decide) (by decide) w_286 zk_186 (by decide) (by decide) (by decide) rfl rfl rfl (by decide) (by decide) ?_
  refine y_putF (Y := mX8_init) (pc := 39) dX8_init_39 ff_8_24 zk_181 rfl (by decide) rfl ?_
  refine z_aload_n (Y := mX8_init) (pc := 42) 0 dX8_init_42 rfl rfl ?_
  refine y_getR (Y := mX8_init) (pc := 43) (r := 184) dX8_init_43 fl_8_18 zk_181 rfl (by decide) rfl rfl ?_
  refine z_iconst (Y := mX8_init) (pc := 46) (v := (-1 : Int32)) dX8_init_46 (by decide) ?_
  refine y_callS (Y := mX8_init) (pc := 47) (as := [.ref 184, .int (-1 : Int32)]) (st := []) dX8_init_47 lk_8_27 (kF (-1 : Int32) I J ((181, 5, 186) :: ((181, 4, 185) :: ((181, 3, 184) :: ((181, 2, 183) :: ((181, 1, 182) :: R))))) zk_184 (by decide) (by decide)) (by decide) (by decide) (by decide) rfl (by decide) rfl ?_
  refine z_aload_n (Y := mX8_init) (pc := 50) 0 dX8_init_50 rfl rfl ?_
  refine y_getR (Y := mX8_init) (pc := 51) (r := 186) dX8_init_51 fl_8_24 zk_181 rfl (by decide) rfl rfl ?_
  refine z_iconst (Y := mX8_init) (pc := 54) (v := (-1 : Int32)) dX8_init_54 (by decide) ?_
  refine y_callS (Y := mX8_init) (pc := 55) (as := [.ref 186, .int (-1 : Int32)]) (st := []) dX8_init_55 lk_8_27 (kF (-1 : Int32) (fillL 184 (-1 : Int32) 8 I) J ((181, 5, 186) :: ((181, 4, 185) :: ((181, 3, 184) :: ((181, 2, 183) :: ((181, 1, 182) :: R))))) zk_186 (by decide) (by decide)) (by decide) (by decide) (by decide) rfl (by decide) rfl ?_
  exact z_vret (Y := mX8_init) (pc := 58) dX8_init_58 rfl (by decide) (by decide)
theorem kX8_init_187 (I : List (Nat × Nat × Int32)) (J : List (Nat × Nat × Int64)) (R : List (Nat × Nat × Nat)) : z_K mX8_init 1 5 31 [.ref 187] (aM 188 I J R) none (aM 193 (fillL 192 (-1 : Int32) 8 (fillL 190 (-1 : Int32) 8 I)) J ((187, 5, 192) :: ((187, 4, 191) :: ((187, 3, 190) :: ((187, 2, 189) :: ((187, 1, 188) :: R)))))) := by
  refine z_K.of (by decide +kernel) (by show _ ≤ _; first | decide | exact Nat.le_of_ble_eq_true rfl) (lv := [(0, .ref 187)]) rfl ?_
  refine z_aload_n (Y := mX8_init) (pc := 0) 0 dX8_init_0 rfl rfl ?_
  refine z_obj (Y := mX8_init) (pc := 1) dX8_init_1 w_408 w_180 w_181 (by decide) ?_
  refine z_aload_n (Y := mX8_init) (pc := 4) 0 dX8_init_4 rfl rfl ?_
  refine z_iconst (Y := mX8_init) (pc := 5) (v := (3 : Int32)) dX8_init_5 (by decide) ?_
  refine y_newA (Y := mX8_init) (pc := 6) (t := 20) (N := 3) (n' := 189) (cs' := 1) (sl' := 3) dX8_init_6 rfl (by decide) (by decide) w_286 zk_188 (by decide) (by decide) (by decide) rfl rfl rfl (by decide) (by decide) ?_
  refine y_putF (Y := mX8_init) (pc := 8) dX8_init_8 ff_8_9 zk_187 rfl (by decide) rfl ?_
  refine z_aload_n (Y := mX8_init) (pc := 11) 0 dX8_init_11 rfl rfl ?_
  refine z_iconst (Y := mX8_init) (pc := 12) (v := (4 : Int32)) dX8_init_12 (by decide) ?_
  refine y_newA (Y := mX8_init) (pc := 13) (t := 20) (N := 4) (n' := 190) (cs' := 2) (sl' := 7) dX8_init_13 rfl (by decide) (by decide) w_286 zk_189 (by decide) (by decide) (by decide) rfl rfl rfl (by decide) (by decide) ?_
  refine y_putF (Y := mX8_init) (pc := 15) dX8_init_15 ff_8_15 zk_187 rfl (by decide) rfl ?_
  refine z_aload_n (Y := mX8_init) (pc := 18) 0 dX8_init_18 rfl rfl ?_
  refine z_bipush (Y := mX8_init) (pc := 19) (v := (8 : Int32)) dX8_init_19 (by decide) ?_
  refine y_newA (Y := mX8_init) (pc := 21) (t := 20) (N := 8) (n' := 191) (cs' := 3) (sl' := 15) dX8_init_21 rfl (by decide) (by decide) w_286 zk_190 (by decide) (by decide) (by decide) rfl rfl rfl (by decide) (by decide) ?_
  refine y_putF (Y := mX8_init) (pc := 23) dX8_init_23 ff_8_18 zk_187 rfl (by decide) rfl ?_
  refine z_aload_n (Y := mX8_init) (pc := 26) 0 dX8_init_26 rfl rfl ?_
  refine z_bipush (Y := mX8_init) (pc := 27) (v := (8 : Int32)) dX8_init_27 (by decide) ?_
  refine y_newA (Y := mX8_init) (pc := 29) (t := 20) (N := 8) (n' := 192) (cs' := 4) (sl' := 23) dX8_init_29 rfl (by decide) (by decide) w_286 zk_191 (by decide) (by decide) (by decide) rfl rfl rfl (by decide) (by decide) ?_
  refine y_putF (Y := mX8_init) (pc := 31) dX8_init_31 ff_8_21 zk_187 rfl (by decide) rfl ?_
  refine z_aload_n (Y := mX8_init) (pc := 34) 0 dX8_init_34 rfl rfl ?_
  refine z_bipush (Y := mX8_init) (pc := 35) (v := (8 : Int32)) dX8_init_35 (by decide) ?_
  refine y_newA (Y := mX8_init) (pc := 37) (t := 20) (N := 8) (n' := 193) (cs' := 5) (sl' := 31) dX8_init_37 rfl (by decide) (by decide) w_286 zk_192 (by decide) (by decide) (by decide) rfl rfl rfl (by decide) (by decide) ?_
  refine y_putF (Y := mX8_init) (pc := 39) dX8_init_39 ff_8_24 zk_187 rfl (by decide) rfl ?_
  refine z_aload_n (Y := mX8_init) (pc := 42) 0 dX8_init_42 rfl rfl ?_
  refine y_getR (Y := mX8_init) (pc := 43) (r := 190) dX8_init_43 fl_8_18 zk_187 rfl (by decide) rfl rfl ?_
  refine z_iconst (Y := mX8_init) (pc := 46) (v := (-1 : Int32)) dX8_init_46 (by decide) ?_
  refine y_callS (Y := mX8_init) (pc := 47) (as := [.ref 190, .int (-1 : Int32)]) (st := []) dX8_init_47 lk_8_27 (kF (-1 : Int32) I J ((187, 5, 192) :: ((187, 4, 191) :: ((187, 3, 190) :: ((187, 2, 189) :: ((187, 1, 188) :: R))))) zk_190 (by decide) (by decide)) (by decide) (by decide) (by decide) rfl (by decide) rfl ?_
  refine z_aload_n (Y := mX8_init) (pc := 50) 0 dX8_init_50 rfl rfl ?_
  refine y_getR (Y := mX8_init) (pc := 51) (r := 192) dX8_init_51 fl_8_24 zk_187 rfl (by decide) rfl rfl ?_
  refine z_iconst (Y := mX8_init) (pc := 54) (v := (-1 : Int32)) dX8_init_54 (by decide) ?_
  refine y_callS (Y := mX8_init) (pc := 55) (as := [.ref 192, .int (-1 : Int32)]) (st := []) dX8_init_55 lk_8_27 (kF (-1 : Int32) (fillL 190 (-1 : Int32) 8 I) J ((187, 5, 192) :: ((187, 4, 191) :: ((187, 3, 190) :: ((187, 2, 189) :: ((187, 1, 188) :: R))))) zk_192 (by decide) (by decide)) (by decide) (by decide) (by decide) rfl (by decide) rfl ?_
  exact z_vret (Y := mX8_init) (pc := 58) dX8_init_58 rfl (by decide) (by decide)
theorem kX8_init_193 (I : List (Nat × Nat × Int32)) (J : List (Nat × Nat × Int64)) (R : List (Nat × Nat × Nat)) : z_K mX8_init 1 5 31 [.ref 193] (aM 194 I J R) none (aM 199 (fillL 198 (-1 : Int32) 8 (fillL 196 (-1 : Int32) 8 I)) J ((193, 5, 198) :: ((193, 4, 197) :: ((193, 3, 196) :: ((193, 2, 195) :: ((193, 1, 194) :: R)))))) := by
  refine z_K.of (by decide +kernel) (by show _ ≤ _; first | decide | exact Nat.le_of_ble_eq_true rfl) (lv := [(0, .ref 193)]) rfl ?_
  refine z_aload_n (Y := mX8_init) (pc := 0) 0 dX8_init_0 rfl rfl ?_
  refine z_obj (Y := mX8_init) (pc := 1) dX8_init_1 w_408 w_180 w_181 (by decide) ?_
  refine z_aload_n (Y := mX8_init) (pc := 4) 0 dX8_init_4 rfl rfl ?_
  refine z_iconst (Y := mX8_init) (pc := 5) (v := (3 : Int32)) dX8_init_5 (by decide) ?_
  refine y_newA (Y := mX8_init) (pc := 6) (t := 20) (N := 3) (n' := 195) (cs' := 1) (sl' := 3) dX8_init_6 rfl (by decide) (by decide) w_286 zk_194 (by decide) (by decide) (by decide) rfl rfl rfl (by decide) (by decide) ?_
  refine y_putF (Y := mX8_init) (pc := 8) dX8_init_8 ff_8_9 zk_193 rfl (by decide) rfl ?_
  refine z_aload_n (Y := mX8_init) (pc := 11) 0 dX8_init_11 rfl rfl ?_
  refine z_iconst (Y := mX8_init) (pc := 12) (v := (4 : Int32)) dX8_init_12 (by decide) ?_
  refine y_newA (Y := mX8_init) (pc := 13) (t := 20) (N := 4) (n' := 196) (cs' := 2) (sl' := 7) dX8_init_13 rfl (by decide) (by decide) w_286 zk_195 (by decide) (by decide) (by decide) rfl rfl rfl (by decide) (by decide) ?_
  refine y_putF (Y := mX8_init) (pc := 15) dX8_init_15 ff_8_15 zk_193 rfl (by decide) rfl ?_
  refine z_aload_n (Y := mX8_init) (pc := 18) 0 dX8_init_18 rfl rfl ?_
  refine z_bipush (Y := mX8_init) (pc := 19) (v := (8 : Int32)) dX8_init_19 (by decide) ?_
  refine y_newA (Y := mX8_init) (pc := 21) (t := 20) (N := 8) (n' := 197) (cs' := 3) (sl' := 15) dX8_init_21 rfl (by decide) (by decide) w_286 zk_196 (by decide) (by decide) (by decide) rfl rfl rfl (by decide) (by decide) ?_
  refine y_putF (Y := mX8_init) (pc := 23) dX8_init_23 ff_8_18 zk_193 rfl (by decide) rfl ?_
  refine z_aload_n (Y := mX8_init) (pc := 26) 0 dX8_init_26 rfl rfl ?_
  refine z_bipush (Y := mX8_init) (pc := 27) (v := (8 : Int32)) dX8_init_27 (by decide) ?_
  refine y_newA (Y := mX8_init) (pc := 29) (t := 20) (N := 8) (n' := 198) (cs' := 4) (sl' := 23) dX8_init_29 rfl (by decide) (by decide) w_286 zk_197 (by decide) (by decide) (by decide) rfl rfl rfl (by decide) (by decide) ?_
  refine y_putF (Y := mX8_init) (pc := 31) dX8_init_31 ff_8_21 zk_193 rfl (by decide) rfl ?_
  refine z_aload_n (Y := mX8_init) (pc := 34) 0 dX8_init_34 rfl rfl ?_
  refine z_bipush (Y := mX8_init) (pc := 35) (v := (8 : Int32)) dX8_init_35 (by decide) ?_
  refine y_newA (Y := mX8_init) (pc := 37) (t := 20) (N := 8) (n' := 199) (cs' := 5) (sl' := 31) dX8_init_37 rfl (by decide) (by decide) w_286 zk_198 (by decide) (by decide) (by decide) rfl rfl rfl (by decide) (by decide) ?_
  refine y_putF (Y := mX8_init) (pc := 39) dX8_init_39 ff_8_24 zk_193 rfl (by decide) rfl ?_
  refine z_aload_n (Y := mX8_init) (pc := 42) 0 dX8_init_42 rfl rfl ?_
  refine y_getR (Y := mX8_init) (pc := 43) (r := 196) dX8_init_43 fl_8_18 zk_193 rfl (by decide) rfl rfl ?_
  refine z_iconst (Y := mX8_init) (pc := 46) (v := (-1 : Int32)) dX8_init_46 (by decide) ?_
  refine y_callS (Y := mX8_init) (pc := 47) (as := [.ref 196, .int (-1 : Int32)]) (st := []) dX8_init_47 lk_8_27 (kF (-1 : Int32) I J ((193, 5, 198) :: ((193, 4, 197) :: ((193, 3, 196) :: ((193, 2, 195) :: ((193, 1, 194) :: R))))) zk_196 (by decide) (by decide)) (by decide) (by decide) (by decide) rfl (by decide) rfl ?_
  refine z_aload_n (Y := mX8_init) (pc := 50) 0 dX8_init_50 rfl rfl ?_
  refine y_getR (Y := mX8_init) (pc := 51) (r := 198) dX8_init_51 fl_8_24 zk_193 rfl (by decide) rfl rfl ?_
  refine z_iconst (Y := mX8_init) (pc := 54) (v := (-1 : Int32)) dX8_init_54 (by decide) ?_
  refine y_callS (Y := mX8_init) (pc := 55) (as := [.ref 198, .int (-1 : Int32)]) (st := []) dX8_init_55 lk_8_27 (kF (-1 : Int32) (fillL 196 (-1 : Int32) 8 I) J ((193, 5, 198) :: ((193, 4, 197) :: ((193, 3, 196) :: ((193, 2, 195) :: ((193, 1, 194) :: R))))) zk_198 (by decide) (by decide)) (by decide) (by decide) (by decide) rfl (by decide) rfl ?_
  exact z_vret (Y := mX8_init) (pc := 58) dX8_init_58 rfl (by decide) (by decide)
theorem kX8_init_199 (I : List (Nat × Nat × Int32)) (J : List (Nat × Nat × Int64)) (R : List (Nat × Nat × Nat)) : z_K mX8_init 1 5 31 [.ref 199] (aM 200 I J R) none (aM 205 (fillL 204 (-1 : Int32) 8 (fillL 202 (-1 : Int32) 8 I)) J ((199, 5, 204) :: ((199, 4, 203) :: ((199, 3, 202) :: ((199, 2, 201) :: ((199, 1, 200) :: R)))))) := by
  refine z_K.of (by decide +kernel) (by show _ ≤ _; first | decide | exact Nat.le_of_ble_eq_true rfl) (lv := [(0, .ref 199)]) rfl ?_
  refine z_aload_n (Y := mX8_init) (pc := 0) 0 dX8_init_0 rfl rfl ?_
  refine z_obj (Y := mX8_init) (pc := 1) dX8_init_1 w_408 w_180 w_181 (by decide) ?_
  refine z_aload_n (Y := mX8_init) (pc := 4) 0 dX8_init_4 rfl rfl ?_
  refine z_iconst (Y := mX8_init) (pc := 5) (v := (3 : Int32)) dX8_init_5 (by decide) ?_
  refine y_newA (Y := mX8_init) (pc := 6) (t := 20) (N := 3) (n' := 201) (cs' := 1) (sl' := 3) dX8_init_6 rfl (by decide) (by decide) w_286 zk_200 (by decide) (by decide) (by decide) rfl rfl rfl (by decide) (by decide) ?_
  refine y_putF (Y := mX8_init) (pc := 8) dX8_init_8 ff_8_9 zk_199 rfl (by decide) rfl ?_
  refine z_aload_n (Y := mX8_init) (pc := 11) 0 dX8_init_11 rfl rfl ?_
  refine z_iconst (Y := mX8_init) (pc := 12) (v := (4 : Int32)) dX8_init_12 (by decide) ?_
  refine y_newA (Y := mX8_init) (pc := 13) (t := 20) (N := 4) (n' := 202) (cs' := 2) (sl' := 7) dX8_init_13 rfl (by decide) (by decide) w_286 zk_201 (by decide) (by decide) (by decide) rfl rfl rfl (by decide) (by decide) ?_
  refine y_putF (Y := mX8_init) (pc := 15) dX8_init_15 ff_8_15 zk_199 rfl (by decide) rfl ?_
  refine z_aload_n (Y := mX8_init) (pc := 18) 0 dX8_init_18 rfl rfl ?_
  refine z_bipush (Y := mX8_init) (pc := 19) (v := (8 : Int32)) dX8_init_19 (by decide) ?_
  refine y_newA (Y := mX8_init) (pc := 21) (t := 20) (N := 8) (n' := 203) (cs' := 3) (sl' := 15) dX8_init_21 rfl (by decide) (by decide) w_286 zk_202 (by decide) (by decide) (by decide) rfl rfl rfl (by decide) (by decide) ?_
  refine y_putF (Y := mX8_init) (pc := 23) dX8_init_23 ff_8_18 zk_199 rfl (by decide) rfl ?_
  refine z_aload_n (Y := mX8_init) (pc := 26) 0 dX8_init_26 rfl rfl ?_
  refine z_bipush (Y := mX8_init) (pc := 27) (v := (8 : Int32)) dX8_init_27 (by decide) ?_
  refine y_newA (Y := mX8_init) (pc := 29) (t := 20) (N := 8) (n' := 204) (cs' := 4) (sl' := 23) dX8_init_29 rfl (by decide) (by decide) w_286 zk_203 (by decide) (by decide) (by decide) rfl rfl rfl (by decide) (by decide) ?_
  refine y_putF (Y := mX8_init) (pc := 31) dX8_init_31 ff_8_21 zk_199 rfl (by decide) rfl ?_
  refine z_aload_n (Y := mX8_init) (pc := 34) 0 dX8_init_34 rfl rfl ?_
  refine z_bipush (Y := mX8_init) (pc := 35) (v := (8 : Int32)) dX8_init_35 (by decide) ?_
  refine y_newA (Y := mX8_init) (pc := 37) (t := 20) (N := 8) (n' := 205) (cs' := 5) (sl' := 31) dX8_init_37 rfl (by decide) (by decide) w_286 zk_204 (by decide) (by decide) (by decide) rfl rfl rfl (by decide) (by decide) ?_
  refine y_putF (Y := mX8_init) (pc := 39) dX8_init_39 ff_8_24 zk_199 rfl (by decide) rfl ?_
  refine z_aload_n (Y := mX8_init) (pc := 42) 0 dX8_init_42 rfl rfl ?_
  refine y_getR (Y := mX8_init) (pc := 43) (r := 202) dX8_init_43 fl_8_18 zk_199 rfl (by decide) rfl rfl ?_
  refine z_iconst (Y := mX8_init) (pc := 46) (v := (-1 : Int32)) dX8_init_46 (by decide) ?_
  refine y_callS (Y := mX8_init) (pc := 47) (as := [.ref 202, .int (-1 : Int32)]) (st := []) dX8_init_47 lk_8_27 (kF (-1 : Int32) I J ((199, 5, 204) :: ((199, 4, 203) :: ((199, 3, 202) :: ((199, 2, 201) :: ((199, 1, 200) :: R))))) zk_202 (by decide) (by decide)) (by decide) (by decide) (by decide) rfl (by decide) rfl ?_
  refine z_aload_n (Y := mX8_init) (pc := 50) 0 dX8_init_50 rfl rfl ?_
  refine y_getR (Y := mX8_init) (pc := 51) (r := 204) dX8_init_51 fl_8_24 zk_199 rfl (by decide) rfl rfl ?_
  refine z_iconst (Y := mX8_init) (pc := 54) (v := (-1 : Int32)) dX8_init_54 (by decide) ?_
  refine y_callS (Y := mX8_init) (pc := 55) (as := [.ref 204, .int (-1 : Int32)]) (st := []) dX8_init_55 lk_8_27 (kF (-1 : Int32) (fillL 202 (-1 : Int32) 8 I) J ((199, 5, 204) :: ((199, 4, 203) :: ((199, 3, 202) :: ((199, 2, 201) :: ((199, 1, 200) :: R))))) zk_204 (by decide) (by decide)) (by decide) (by decide) (by decide) rfl (by decide) rfl ?_
  exact z_vret (Y := mX8_init) (pc := 58) dX8_init_58 rfl (by decide) (by decide)
theorem kX8_init_205 (I : List (Nat × Nat × Int32)) (J : List (Nat × Nat × Int64)) (R : List (Nat × Nat × Nat)) : z_K mX8_init 1 5 31 [.ref 205] (aM 206 I J R) none (aM 211 (fillL 210 (-1 : Int32) 8 (fillL 208 (-1 : Int32) 8 I)) J ((205, 5, 210) :: ((205, 4, 209) :: ((205, 3, 208) :: ((205, 2, 207) :: ((205, 1, 206) :: R)))))) := by
  refine z_K.of (by decide +kernel) (by show _ ≤ _; first | decide | exact Nat.le_of_ble_eq_true rfl) (lv := [(0, .ref 205)]) rfl ?_
  refine z_aload_n (Y := mX8_init) (pc := 0) 0 dX8_init_0 rfl rfl ?_
  refine z_obj (Y := mX8_init) (pc := 1) dX8_init_1 w_408 w_180 w_181 (by decide) ?_
  refine z_aload_n (Y := mX8_init) (pc := 4) 0 dX8_init_4 rfl rfl ?_
  refine z_iconst (Y := mX8_init) (pc := 5) (v := (3 : Int32)) dX8_init_5 (by decide) ?_
  refine y_newA (Y := mX8_init) (pc := 6) (t := 20) (N := 3) (n' := 207) (cs' := 1) (sl' := 3) dX8_init_6 rfl (by decide) (by decide) w_286 zk_206 (by decide) (by decide) (by decide) rfl rfl rfl (by decide) (by decide) ?_
  refine y_putF (Y := mX8_init) (pc := 8) dX8_init_8 ff_8_9 zk_205 rfl (by decide) rfl ?_
  refine z_aload_n (Y := mX8_init) (pc := 11) 0 dX8_init_11 rfl rfl ?_
  refine z_iconst (Y := mX8_init) (pc := 12) (v := (4 : Int32)) dX8_init_12 (by decide) ?_
  refine y_newA (Y := mX8_init) (pc := 13) (t := 20) (N := 4) (n' := 208) (cs' := 2) (sl' := 7) dX8_init_13 rfl (by decide) (by decide) w_286 zk_207 (by decide) (by decide) (by decide) rfl rfl rfl (by decide) (by decide) ?_
  refine y_putF (Y := mX8_init) (pc := 15) dX8_init_15 ff_8_15 zk_205 rfl (by decide) rfl ?_
  refine z_aload_n (Y := mX8_init) (pc := 18) 0 dX8_init_18 rfl rfl ?_
  refine z_bipush (Y := mX8_init) (pc := 19) (v := (8 : Int32)) dX8_init_19 (by decide) ?_
  refine y_newA (Y := mX8_init) (pc := 21) (t := 20) (N := 8) (n' := 209) (cs' := 3) (sl' := 15) dX8_init_21 rfl (by decide) (by decide) w_286 zk_208 (by decide) (by decide) (by decide) rfl rfl rfl (by decide) (by decide) ?_
  refine y_putF (Y := mX8_init) (pc := 23) dX8_init_23 ff_8_18 zk_205 rfl (by decide) rfl ?_
  refine z_aload_n (Y := mX8_init) (pc := 26) 0 dX8_init_26 rfl rfl ?_
  refine z_bipush (Y := mX8_init) (pc := 27) (v := (8 : Int32)) dX8_init_27 (by decide) ?_
  refine y_newA (Y := mX8_init) (pc := 29) (t := 20) (N := 8) (n' := 210) (cs' := 4) (sl' := 23) dX8_init_29 rfl (by decide) (by decide) w_286 zk_209 (by decide) (by decide) (by decide) rfl rfl rfl (by decide) (by decide) ?_
  refine y_putF (Y := mX8_init) (pc := 31) dX8_init_31 ff_8_21 zk_205 rfl (by decide) rfl ?_
  refine z_aload_n (Y := mX8_init) (pc := 34) 0 dX8_init_34 rfl rfl ?_
  refine z_bipush (Y := mX8_init) (pc := 35) (v := (8 : Int32)) dX8_init_35 (by decide) ?_
  refine y_newA (Y := mX8_init) (pc := 37) (t := 20) (N := 8) (n' := 211) (cs' := 5) (sl' := 31) dX8_init_37 rfl (by decide) (by decide) w_286 zk_210 (by decide) (by decide) (by decide) rfl rfl rfl (by decide) (by decide) ?_
  refine y_putF (Y := mX8_init) (pc := 39) dX8_init_39 ff_8_24 zk_205 rfl (by decide) rfl ?_
  refine z_aload_n (Y := mX8_init) (pc := 42) 0 dX8_init_42 rfl rfl ?_
  refine y_getR (Y := mX8_init) (pc := 43) (r := 208) dX8_init_43 fl_8_18 zk_205 rfl (by decide) rfl rfl ?_
  refine z_iconst (Y := mX8_init) (pc := 46) (v := (-1 : Int32)) dX8_init_46 (by decide) ?_
  refine y_callS (Y := mX8_init) (pc := 47) (as := [.ref 208, .int (-1 : Int32)]) (st := []) dX8_init_47 lk_8_27 (kF (-1 : Int32) I J ((205, 5, 210) :: ((205, 4, 209) :: ((205, 3, 208) :: ((205, 2, 207) :: ((205, 1, 206) :: R))))) zk_208 (by decide) (by decide)) (by decide) (by decide) (by decide) rfl (by decide) rfl ?_
  refine z_aload_n (Y := mX8_init) (pc := 50) 0 dX8_init_50 rfl rfl ?_
  refine y_getR (Y := mX8_init) (pc := 51) (r := 210) dX8_init_51 fl_8_24 zk_205 rfl (by decide) rfl rfl ?_
  refine z_iconst (Y := mX8_init) (pc := 54) (v := (-1 : Int32)) dX8_init_54 (by decide) ?_
  refine y_callS (Y := mX8_init) (pc := 55) (as := [.ref 210, .int (-1 : Int32)]) (st := []) dX8_init_55 lk_8_27 (kF (-1 : Int32) (fillL 208 (-1 : Int32) 8 I) J ((205, 5, 210) :: ((205, 4, 209) :: ((205, 3, 208) :: ((205, 2, 207) :: ((205, 1, 206) :: R))))) zk_210 (by decide) (by decide)) (by decide) (by decide) (by decide) rfl (by decide) rfl ?_
  exact z_vret (Y := mX8_init) (pc := 58) dX8_init_58 rfl (by decide) (by decide)
theorem kX8_init_211 (I : List (Nat × Nat × Int32)) (J : List (Nat × Nat × Int64)) (R : List (Nat × Nat × Nat)) : z_K mX8_init 1 5 31 [.ref 211] (aM 212 I J R) none (aM 217 (fillL 216 (-1 : Int32) 8 (fillL 214 (-1 : Int32) 8 I)) J ((211, 5, 216) :: ((211, 4, 215) :: ((211, 3, 214) :: ((211, 2, 213) :: ((211, 1, 212) :: R)))))) := by
  refine z_K.of (by decide +kernel) (by show _ ≤ _; first | decide | exact Nat.le_of_ble_eq_true rfl) (lv := [(0, .ref 211)]) rfl ?_
  refine z_aload_n (Y := mX8_init) (pc := 0) 0 dX8_init_0 rfl rfl ?_
  refine z_obj (Y := mX8_init) (pc := 1) dX8_init_1 w_408 w_180 w_181 (by decide) ?_
  refine z_aload_n (Y := mX8_init) (pc := 4) 0 dX8_init_4 rfl rfl ?_
  refine z_iconst (Y := mX8_init) (pc := 5) (v := (3 : Int32)) dX8_init_5 (by decide) ?_
  refine y_newA (Y := mX8_init) (pc := 6) (t := 20) (N := 3) (n' := 213) (cs' := 1) (sl' := 3) dX8_init_6 rfl (by decide) (by decide) w_286 zk_212 (by decide) (by decide) (by decide) rfl rfl rfl (by decide) (by decide) ?_
  refine y_putF (Y := mX8_init) (pc := 8) dX8_init_8 ff_8_9 zk_211 rfl (by decide) rfl ?_
  refine z_aload_n (Y := mX8_init) (pc := 11) 0 dX8_init_11 rfl rfl ?_
  refine z_iconst (Y := mX8_init) (pc := 12) (v := (4 : Int32)) dX8_init_12 (by decide) ?_
  refine y_newA (Y := mX8_init) (pc := 13) (t := 20) (N := 4) (n' := 214) (cs' := 2) (sl' := 7) dX8_init_13 rfl (by decide) (by decide) w_286 zk_213 (by decide) (by decide) (by decide) rfl rfl rfl (by decide) (by decide) ?_
  refine y_putF (Y := mX8_init) (pc := 15) dX8_init_15 ff_8_15 zk_211 rfl (by decide) rfl ?_
  refine z_aload_n (Y := mX8_init) (pc := 18) 0 dX8_init_18 rfl rfl ?_
  refine z_bipush (Y := mX8_init) (pc := 19) (v := (8 : Int32)) dX8_init_19 (by decide) ?_
  refine y_newA (Y := mX8_init) (pc := 21) (t := 20) (N := 8) (n' := 215) (cs' := 3) (sl' := 15) dX8_init_21 rfl (by decide) (by decide) w_286 zk_214 (by decide) (by decide) (by decide) rfl rfl rfl (by decide) (by decide) ?_
  refine y_putF (Y := mX8_init) (pc := 23) dX8_init_23 ff_8_18 zk_211 rfl (by decide) rfl ?_
  refine z_aload_n (Y := mX8_init) (pc := 26) 0 dX8_init_26 rfl rfl ?_
  refine z_bipush (Y := mX8_init) (pc := 27) (v := (8 : Int32)) dX8_init_27 (by decide) ?_
  refine y_newA (Y := mX8_init) (pc := 29) (t := 20) (N := 8) (n' := 216) (cs' := 4) (sl' := 23) dX8_init_29 rfl (by decide) (by decide) w_286 zk_215 (by decide) (by decide) (by decide) rfl rfl rfl (by decide) (by decide) ?_
  refine y_putF (Y := mX8_init) (pc := 31) dX8_init_31 ff_8_21 zk_211 rfl (by decide) rfl ?_
  refine z_aload_n (Y := mX8_init) (pc := 34) 0 dX8_init_34 rfl rfl ?_
  refine z_bipush (Y := mX8_init) (pc := 35) (v := (8 : Int32)) dX8_init_35 (by decide) ?_
  refine y_newA (Y := mX8_init) (pc := 37) (t := 20) (N := 8) (n' := 217) (cs' := 5) (sl' := 31) dX8_init_37 rfl (by decide) (by decide) w_286 zk_216 (by decide) (by decide) (by decide) rfl rfl rfl (by decide) (by decide) ?_
  refine y_putF (Y := mX8_init) (pc := 39) dX8_init_39 ff_8_24 zk_211 rfl (by decide) rfl ?_
  refine z_aload_n (Y := mX8_init) (pc := 42) 0 dX8_init_42 rfl rfl ?_
  refine y_getR (Y := mX8_init) (pc := 43) (r := 214) dX8_init_43 fl_8_18 zk_211 rfl (by decide) rfl rfl ?_
  refine z_iconst (Y := mX8_init) (pc := 46) (v := (-1 : Int32)) dX8_init_46 (by decide) ?_
  refine y_callS (Y := mX8_init) (pc := 47) (as := [.ref 214, .int (-1 : Int32)]) (st := []) dX8_init_47 lk_8_27 (kF (-1 : Int32) I J ((211, 5, 216) :: ((211, 4, 215) :: ((211, 3, 214) :: ((211, 2, 213) :: ((211, 1, 212) :: R))))) zk_214 (by decide) (by decide)) (by decide) (by decide) (by decide) rfl (by decide) rfl ?_
  refine z_aload_n (Y := mX8_init) (pc := 50) 0 dX8_init_50 rfl rfl ?_
  refine y_getR (Y := mX8_init) (pc := 51) (r := 216) dX8_init_51 fl_8_24 zk_211 rfl (by decide) rfl rfl ?_
  refine z_iconst (Y := mX8_init) (pc := 54) (v := (-1 : Int32)) dX8_init_54 (by decide) ?_
  refine y_callS (Y := mX8_init) (pc := 55) (as := [.ref 216, .int (-1 : Int32)]) (st := []) dX8_init_55 lk_8_27 (kF (-1 : Int32) (fillL 214 (-1 : Int32) 8 I) J ((211, 5, 216) :: ((211, 4, 215) :: ((211, 3, 214) :: ((211, 2, 213) :: ((211, 1, 212) :: R))))) zk_216 (by decide) (by decide)) (by decide) (by decide) (by decide) rfl (by decide) rfl ?_
  exact z_vret (Y := mX8_init) (pc := 58) dX8_init_58 rfl (by decide) (by decide)
theorem kX8_init_217 (I : List (Nat × Nat × Int32)) (J : List (Nat × Nat × Int64)) (R : List (Nat × Nat × Nat)) : z_K mX8_init 1 5 31 [.ref 217] (aM 218 I J R) none (aM 223 (fillL 222 (-1 : Int32) 8 (fillL 220 (-1 : Int32) 8 I)) J ((217, 5, 222) :: ((217, 4, 221) :: ((217, 3, 220) :: ((217, 2, 219) :: ((217, 1, 218) :: R)))))) := by
  refine z_K.of (by decide +kernel) (by show _ ≤ _; first | decide | exact Nat.le_of_ble_eq_true rfl) (lv := [(0, .ref 217)]) rfl ?_
  refine z_aload_n (Y := mX8_init) (pc := 0) 0 dX8_init_0 rfl rfl ?_
  refine z_obj (Y := mX8_init) (pc := 1) dX8_init_1 w_408 w_180 w_181 (by decide) ?_
  refine z_aload_n (Y := mX8_init) (pc := 4) 0 dX8_init_4 rfl rfl ?_
  refine z_iconst (Y := mX8_init) (pc := 5) (v := (3 : Int32)) dX8_init_5 (by decide) ?_
  refine y_newA (Y := mX8_init) (pc := 6) (t := 20) (N := 3) (n' := 219) (cs' := 1) (sl' := 3) dX8_init_6 rfl (by decide) (by decide) w_286 zk_218 (by decide) (by decide) (by decide) rfl rfl rfl (by decide) (by decide) ?_
  refine y_putF (Y := mX8_init) (pc := 8) dX8_init_8 ff_8_9 zk_217 rfl (by decide) rfl ?_
  refine z_aload_n (Y := mX8_init) (pc := 11) 0 dX8_init_11 rfl rfl ?_
  refine z_iconst (Y := mX8_init) (pc := 12) (v := (4 : Int32)) dX8_init_12 (by decide) ?_
  refine y_newA (Y := mX8_init) (pc := 13) (t := 20) (N := 4) (n' := 220) (cs' := 2) (sl' := 7) dX8_init_13 rfl (by decide) (by decide) w_286 zk_219 (by decide) (by decide) (by decide) rfl rfl rfl (by decide) (by decide) ?_
  refine y_putF (Y := mX8_init) (pc := 15) dX8_init_15 ff_8_15 zk_217 rfl (by decide) rfl ?_
  refine z_aload_n (Y := mX8_init) (pc := 18) 0 dX8_init_18 rfl rfl ?_
  refine z_bipush (Y := mX8_init) (pc := 19) (v := (8 : Int32)) dX8_init_19 (by decide) ?_
  refine y_newA (Y := mX8_init) (pc := 21) (t := 20) (N := 8) (n' := 221) (cs' := 3) (sl' := 15) dX8_init_21 rfl (by decide) (by decide) w_286 zk_220 (by decide) (by decide) (by decide) rfl rfl rfl (by decide) (by decide) ?_
  refine y_putF (Y := mX8_init) (pc := 23) dX8_init_23 ff_8_18 zk_217 rfl (by decide) rfl ?_
  refine z_aload_n (Y := mX8_init) (pc := 26) 0 dX8_init_26 rfl rfl ?_
  refine z_bipush (Y := mX8_init) (pc := 27) (v := (8 : Int32)) dX8_init_27 (by decide) ?_
  refine y_newA (Y := mX8_init) (pc := 29) (t := 20) (N := 8) (n' := 222) (cs' := 4) (sl' := 23) dX8_init_29 rfl (by decide) (by decide) w_286 zk_221 (by decide) (by decide) (by decide) rfl rfl rfl (by decide) (by decide) ?_
  refine y_putF (Y := mX8_init) (pc := 31) dX8_init_31 ff_8_21 zk_217 rfl (by decide) rfl ?_
  refine z_aload_n (Y := mX8_init) (pc := 34) 0 dX8_init_34 rfl rfl ?_
  refine z_bipush (Y := mX8_init) (pc := 35) (v := (8 : Int32)) dX8_init_35 (by decide) ?_
  refine y_newA (Y := mX8_init) (pc := 37) (t := 20) (N := 8) (n' := 223) (cs' := 5) (sl' := 31) dX8_init_37 rfl (by decide) (by decide) w_286 zk_222 (by decide) (by decide) (by decide) rfl rfl rfl (by decide) (by decide) ?_
  refine y_putF (Y := mX8_init) (pc := 39) dX8_init_39 ff_8_24 zk_217 rfl (by decide) rfl ?_
  refine z_aload_n (Y := mX8_init) (pc := 42) 0 dX8_init_42 rfl rfl ?_
  refine y_getR (Y := mX8_init) (pc := 43) (r := 220) dX8_init_43 fl_8_18 zk_217 rfl (by decide) rfl rfl ?_
  refine z_iconst (Y := mX8_init) (pc := 46) (v := (-1 : Int32)) dX8_init_46 (by decide) ?_
  refine y_callS (Y := mX8_init) (pc := 47) (as := [.ref 220, .int (-1 : Int32)]) (st := []) dX8_init_47 lk_8_27 (kF (-1 : Int32) I J ((217, 5, 222) :: ((217, 4, 221) :: ((217, 3, 220) :: ((217, 2, 219) :: ((217, 1, 218) :: R))))) zk_220 (by decide) (by decide)) (by decide) (by decide) (by decide) rfl (by decide) rfl ?_
  refine z_aload_n (Y := mX8_init) (pc := 50) 0 dX8_init_50 rfl rfl ?_
  refine y_getR (Y := mX8_init) (pc := 51) (r := 222) dX8_init_51 fl_8_24 zk_217 rfl (by decide) rfl rfl ?_
  refine z_iconst (Y := mX8_init) (pc := 54) (v := (-1 : Int32)) dX8_init_54 (by decide) ?_
  refine y_callS (Y := mX8_init) (pc := 55) (as := [.ref 222, .int (-1 : Int32)]) (st := []) dX8_init_55 lk_8_27 (kF (-1 : Int32) (fillL 220 (-1 : Int32) 8 I) J ((217, 5, 222) :: ((217, 4, 221) :: ((217, 3, 220) :: ((217, 2, 219) :: ((217, 1, 218) :: R))))) zk_222 (by decide) (by decide)) (by decide) (by decide) (by decide) rfl (by decide) rfl ?_
  exact z_vret (Y := mX8_init) (pc := 58) dX8_init_58 rfl (by decide) (by decide)
theorem kX8_init_223 (I : List (Nat × Nat × Int32)) (J : List (Nat × Nat × Int64)) (R : List (Nat × Nat × Nat)) : z_K mX8_init 1 5 31 [.ref 223] (aM 224 I J R) none (aM 229 (fillL 228 (-1 : Int32) 8 (fillL 226 (-1 : Int32) 8 I)) J ((223, 5, 228) :: ((223, 4, 227) :: ((223, 3, 226) :: ((223, 2, 225) :: ((223, 1, 224) :: R)))))) := by
  refine z_K.of (by decide +kernel) (by show _ ≤ _; first | decide | exact Nat.le_of_ble_eq_true rfl) (lv := [(0, .ref 223)]) rfl ?_
  refine z_aload_n (Y := mX8_init) (pc := 0) 0 dX8_init_0 rfl rfl ?_
  refine z_obj (Y := mX8_init) (pc := 1) dX8_init_1 w_408 w_180 w_181 (by decide) ?_
  refine z_aload_n (Y := mX8_init) (pc := 4) 0 dX8_init_4 rfl rfl ?_
  refine z_iconst (Y := mX8_init) (pc := 5) (v := (3 : Int32)) dX8_init_5 (by decide) ?_
  refine y_newA (Y := mX8_init) (pc := 6) (t := 20) (N := 3) (n' := 225) (cs' := 1) (sl' := 3) dX8_init_6 rfl (by decide) (by decide) w_286 zk_224 (by decide) (by decide) (by decide) rfl rfl rfl (by decide) (by decide) ?_
  refine y_putF (Y := mX8_init) (pc := 8) dX8_init_8 ff_8_9 zk_223 rfl (by decide) rfl ?_
  refine z_aload_n (Y := mX8_init) (pc := 11) 0 dX8_init_11 rfl rfl ?_
  refine z_iconst (Y := mX8_init) (pc := 12) (v := (4 : Int32)) dX8_init_12 (by decide) ?_
  refine y_newA (Y := mX8_init) (pc := 13) (t := 20) (N := 4) (n' := 226) (cs' := 2) (sl' := 7) dX8_init_13 rfl (by decide) (by decide) w_286 zk_225 (by decide) (by decide) (by decide) rfl rfl rfl (by decide) (by decide) ?_
  refine y_putF (Y := mX8_init) (pc := 15) dX8_init_15 ff_8_15 zk_223 rfl (by decide) rfl ?_
  refine z_aload_n (Y := mX8_init) (pc := 18) 0 dX8_init_18 rfl rfl ?_
  refine z_bipush (Y := mX8_init) (pc := 19) (v := (8 : Int32)) dX8_init_19 (by decide) ?_
  refine y_newA (Y := mX8_init) (pc := 21) (t := 20) (N := 8) (n' := 227) (cs' := 3) (sl' := 15) dX8_init_21 rfl (by decide) (by decide) w_286 zk_226 (by decide) (by decide) (by decide) rfl rfl rfl (by decide) (by decide) ?_
  refine y_putF (Y := mX8_init) (pc := 23) dX8_init_23 ff_8_18 zk_223 rfl (by decide) rfl ?_
  refine z_aload_n (Y := mX8_init) (pc := 26) 0 dX8_init_26 rfl rfl ?_
  refine z_bipush (Y := mX8_init) (pc := 27) (v := (8 : Int32)) dX8_init_27 (by decide) ?_
  refine y_newA (Y := mX8_init) (pc := 29) (t := 20) (N := 8) (n' := 228) (cs' := 4) (sl' := 23) dX8_init_29 rfl (by decide) (by decide) w_286 zk_227 (by decide) (by decide) (by decide) rfl rfl rfl (by decide) (by decide) ?_
  refine y_putF (Y := mX8_init) (pc := 31) dX8_init_31 ff_8_21 zk_223 rfl (by decide) rfl ?_
  refine z_aload_n (Y := mX8_init) (pc := 34) 0 dX8_init_34 rfl rfl ?_
  refine z_bipush (Y := mX8_init) (pc := 35) (v := (8 : Int32)) dX8_init_35 (by decide) ?_
  refine y_newA (Y := mX8_init) (pc := 37) (t := 20) (N := 8) (n' := 229) (cs' := 5) (sl' := 31) dX8_init_37 rfl (by decide) (by decide) w_286 zk_228 (by decide) (by decide) (by decide) rfl rfl rfl (by decide) (by decide) ?_
  refine y_putF (Y := mX8_init) (pc := 39) dX8_init_39 ff_8_24 zk_223 rfl (by decide) rfl ?_
  refine z_aload_n (Y := mX8_init) (pc := 42) 0 dX8_init_42 rfl rfl ?_
  refine y_getR (Y := mX8_init) (pc := 43) (r := 226) dX8_init_43 fl_8_18 zk_223 rfl (by decide) rfl rfl ?_
  refine z_iconst (Y := mX8_init) (pc := 46) (v := (-1 : Int32)) dX8_init_46 (by decide) ?_
  refine y_callS (Y := mX8_init) (pc := 47) (as := [.ref 226, .int (-1 : Int32)]) (st := []) dX8_init_47 lk_8_27 (kF (-1 : Int32) I J ((223, 5, 228) :: ((223, 4, 227) :: ((223, 3, 226) :: ((223, 2, 225) :: ((223, 1, 224) :: R))))) zk_226 (by decide) (by decide)) (by decide) (by decide) (by decide) rfl (by decide) rfl ?_
  refine z_aload_n (Y := mX8_init) (pc := 50) 0 dX8_init_50 rfl rfl ?_
  refine y_getR (Y := mX8_init) (pc := 51) (r := 228) dX8_init_51 fl_8_24 zk_223 rfl (by decide) rfl rfl ?_
  refine z_iconst (Y := mX8_init) (pc := 54) (v := (-1 : Int32)) dX8_init_54 (by decide) ?_
  refine y_callS (Y := mX8_init) (pc := 55) (as := [.ref 228, .int (-1 : Int32)]) (st := []) dX8_init_55 lk_8_27 (kF (-1 : Int32) (fillL 226 (-1 : Int32) 8 I) J ((223, 5, 228) :: ((223, 4, 227) :: ((223, 3, 226) :: ((223, 2, 225) :: ((223, 1, 224) :: R))))) zk_228 (by decide) (by decide)) (by decide) (by decide) (by decide) rfl (by decide) rfl ?_
  exact z_vret (Y := mX8_init) (pc := 58) dX8_init_58 rfl (by decide) (by decide)
theorem kX8_init_229 (I : List (Nat × Nat × Int32)) (J : List (Nat × Nat × Int64)) (R : List (Nat × Nat × Nat)) : z_K mX8_init 1 5 31 [.ref 229] (aM 230 I J R) none (aM 235 (fillL 234 (-1 : Int32) 8 (fillL 232 (-1 : Int32) 8 I)) J ((229, 5, 234) :: ((229, 4, 233) :: ((229, 3, 232) :: ((229, 2, 231) :: ((229, 1, 230) :: R)))))) := by
  refine z_K.of (by decide +kernel) (by show _ ≤ _; first | decide | exact Nat.le_of_ble_eq_true rfl) (lv := [(0, .ref 229)]) rfl ?_
  refine z_aload_n (Y := mX8_init) (pc := 0) 0 dX8_init_0 rfl rfl ?_
  refine z_obj (Y := mX8_init) (pc := 1) dX8_init_1 w_408 w_180 w_181 (by decide) ?_
  refine z_aload_n (Y := mX8_init) (pc := 4) 0 dX8_init_4 rfl rfl ?_
  refine z_iconst (Y := mX8_init) (pc := 5) (v := (3 : Int32)) dX8_init_5 (by decide) ?_
  refine y_newA (Y := mX8_init) (pc := 6) (t := 20) (N := 3) (n' := 231) (cs' := 1) (sl' := 3) dX8_init_6 rfl (by decide) (by decide) w_286 zk_230 (by decide) (by decide) (by decide) rfl rfl rfl (by decide) (by decide) ?_
  refine y_putF (Y := mX8_init) (pc := 8) dX8_init_8 ff_8_9 zk_229 rfl (by decide) rfl ?_
  refine z_aload_n (Y := mX8_init) (pc := 11) 0 dX8_init_11 rfl rfl ?_
  refine z_iconst (Y := mX8_init) (pc := 12) (v := (4 : Int32)) dX8_init_12 (by decide) ?_
  refine y_newA (Y := mX8_init) (pc := 13) (t := 20) (N := 4) (n' := 232) (cs' := 2) (sl' := 7) dX8_init_13 rfl (by decide) (by decide) w_286 zk_231 (by decide) (by decide) (by decide) rfl rfl rfl (by decide) (by decide) ?_
  refine y_putF (Y := mX8_init) (pc := 15) dX8_init_15 ff_8_15 zk_229 rfl (by decide) rfl ?_
  refine z_aload_n (Y := mX8_init) (pc := 18) 0 dX8_init_18 rfl rfl ?_
  refine z_bipush (Y := mX8_init) (pc := 19) (v := (8 : Int32)) dX8_init_19 (by decide) ?_
  refine y_newA (Y := mX8_init) (pc := 21) (t := 20) (N := 8) (n' := 233) (cs' := 3) (sl' := 15) dX8_init_21 rfl (by decide) (by decide) w_286 zk_232 (by decide) (by decide) (by decide) rfl rfl rfl (by decide) (by decide) ?_
  refine y_putF (Y := mX8_init) (pc := 23) dX8_init_23 ff_8_18 zk_229 rfl (by decide) rfl ?_
  refine z_aload_n (Y := mX8_init) (pc := 26) 0 dX8_init_26 rfl rfl ?_
  refine z_bipush (Y := mX8_init) (pc := 27) (v := (8 : Int32)) dX8_init_27 (by decide) ?_
  refine y_newA (Y := mX8_init) (pc := 29) (t := 20) (N := 8) (n' := 234) (cs' := 4) (sl' := 23) dX8_init_29 rfl (by decide) (by decide) w_286 zk_233 (by decide) (by decide) (by decide) rfl rfl rfl (by decide) (by decide) ?_
  refine y_putF (Y := mX8_init) (pc := 31) dX8_init_31 ff_8_21 zk_229 rfl (by decide) rfl ?_
  refine z_aload_n (Y := mX8_init) (pc := 34) 0 dX8_init_34 rfl rfl ?_
  refine z_bipush (Y := mX8_init) (pc := 35) (v := (8 : Int32)) dX8_init_35 (by decide) ?_
  refine y_newA (Y := mX8_init) (pc := 37) (t := 20) (N := 8) (n' := 235) (cs' := 5) (sl' := 31) dX8_init_37 rfl (by decide) (by decide) w_286 zk_234 (by decide) (by decide) (by decide) rfl rfl rfl (by decide) (by decide) ?_
  refine y_putF (Y := mX8_init) (pc := 39) dX8_init_39 ff_8_24 zk_229 rfl (by decide) rfl ?_
  refine z_aload_n (Y := mX8_init) (pc := 42) 0 dX8_init_42 rfl rfl ?_
  refine y_getR (Y := mX8_init) (pc := 43) (r := 232) dX8_init_43 fl_8_18 zk_229 rfl (by decide) rfl rfl ?_
  refine z_iconst (Y := mX8_init) (pc := 46) (v := (-1 : Int32)) dX8_init_46 (by decide) ?_
  refine y_callS (Y := mX8_init) (pc := 47) (as := [.ref 232, .int (-1 : Int32)]) (st := []) dX8_init_47 lk_8_27 (kF (-1 : Int32) I J ((229, 5, 234) :: ((229, 4, 233) :: ((229, 3, 232) :: ((229, 2, 231) :: ((229, 1, 230) :: R))))) zk_232 (by decide) (by decide)) (by decide) (by decide) (by decide) rfl (by decide) rfl ?_
  refine z_aload_n (Y := mX8_init) (pc := 50) 0 dX8_init_50 rfl rfl ?_
  refine y_getR (Y := mX8_init) (pc := 51) (r := 234) dX8_init_51 fl_8_24 zk_229 rfl (by decide) rfl rfl ?_
  refine z_iconst (Y := mX8_init) (pc := 54) (v := (-1 : Int32)) dX8_init_54 (by decide) ?_
  refine y_callS (Y := mX8_init) (pc := 55) (as := [.ref 234, .int (-1 : Int32)]) (st := []) dX8_init_55 lk_8_27 (kF (-1 : Int32) (fillL 232 (-1 : Int32) 8 I) J ((229, 5, 234) :: ((229, 4, 233) :: ((229, 3, 232) :: ((229, 2, 231) :: ((229, 1, 230) :: R))))) zk_234 (by decide) (by decide)) (by decide) (by decide) (by decide) rfl (by decide) rfl ?_
  exact z_vret (Y := mX8_init) (pc := 58) dX8_init_58 rfl (by decide) (by decide)
theorem kX8_init_235 (I : List (Nat × Nat × Int32)) (J : List (Nat × Nat × Int64)) (R : List (Nat × Nat × Nat)) : z_K mX8_init 1 5 31 [.ref 235] (aM 236 I J R) none (aM 241 (fillL 240 (-1 : Int32) 8 (fillL 238 (-1 : Int32) 8 I)) J ((235, 5, 240) :: ((235, 4, 239) :: ((235, 3, 238) :: ((235, 2, 237) :: ((235, 1, 236) :: R)))))) := by
  refine z_K.of (by decide +kernel) (by show _ ≤ _; first | decide | exact Nat.le_of_ble_eq_true rfl) (lv := [(0, .ref 235)]) rfl ?_
  refine z_aload_n (Y := mX8_init) (pc := 0) 0 dX8_init_0 rfl rfl ?_
  refine z_obj (Y := mX8_init) (pc := 1) dX8_init_1 w_408 w_180 w_181 (by decide) ?_
  refine z_aload_n (Y := mX8_init) (pc := 4) 0 dX8_init_4 rfl rfl ?_
  refine z_iconst (Y := mX8_init) (pc := 5) (v := (3 : Int32)) dX8_init_5 (by decide) ?_
  refine y_newA (Y := mX8_init) (pc := 6) (t := 20) (N := 3) (n' := 237) (cs' := 1) (sl' := 3) dX8_init_6 rfl (by decide) (by decide) w_286 zk_236 (by decide) (by decide) (by decide) rfl rfl rfl (by decide) (by decide) ?_
  refine y_putF (Y := mX8_init) (pc := 8) dX8_init_8 ff_8_9 zk_235 rfl (by decide) rfl ?_
  refine z_aload_n (Y := mX8_init) (pc := 11) 0 dX8_init_11 rfl rfl ?_
  refine z_iconst (Y := mX8_init) (pc := 12) (v := (4 : Int32)) dX8_init_12 (by decide) ?_
  refine y_newA (Y := mX8_init) (pc := 13) (t := 20) (N := 4) (n' := 238) (cs' := 2) (sl' := 7) dX8_init_13 rfl (by decide) (by decide) w_286 zk_237 (by decide) (by decide) (by decide) rfl rfl rfl (by decide) (by decide) ?_
  refine y_putF (Y := mX8_init) (pc := 15) dX8_init_15 ff_8_15 zk_235 rfl (by decide) rfl ?_
  refine z_aload_n (Y := mX8_init) (pc := 18) 0 dX8_init_18 rfl rfl ?_
  refine z_bipush (Y := mX8_init) (pc := 19) (v := (8 : Int32)) dX8_init_19 (by decide) ?_
  refine y_newA (Y := mX8_init) (pc := 21) (t := 20) (N := 8) (n' := 239) (cs' := 3) (sl' := 15) dX8_init_21 rfl (by decide) (by decide) w_286 zk_238 (by decide) (by decide) (by decide) rfl rfl rfl (by decide) (by decide) ?_
  refine y_putF (Y := mX8_init) (pc := 23) dX8_init_23 ff_8_18 zk_235 rfl (by decide) rfl ?_
  refine z_aload_n (Y := mX8_init) (pc := 26) 0 dX8_init_26 rfl rfl ?_
  refine z_bipush (Y := mX8_init) (pc := 27) (v := (8 : Int32)) dX8_init_27 (by decide) ?_
  refine y_newA (Y := mX8_init) (pc := 29) (t := 20) (N := 8) (n' := 240) (cs' := 4) (sl' := 23) dX8_init_29 rfl (by decide) (by decide) w_286 zk_239 (by decide) (by decide) (by decide) rfl rfl rfl (by decide) (by decide) ?_
  refine y_putF (Y := mX8_init) (pc := 31) dX8_init_31 ff_8_21 zk_235 rfl (by decide) rfl ?_
  refine z_aload_n (Y := mX8_init) (pc := 34) 0 dX8_init_34 rfl rfl ?_
  refine z_bipush (Y := mX8_init) (pc := 35) (v := (8 : Int32)) dX8_init_35 (by decide) ?_
  refine y_newA (Y := mX8_init) (pc := 37) (t := 20) (N := 8) (n' := 241) (cs' := 5) (sl' := 31) dX8_init_37 rfl (by decide) (by decide) w_286 zk_240 (by decide) (by decide) (by decide) rfl rfl rfl (by decide) (by decide) ?_
  refine y_putF (Y := mX8_init) (pc := 39) dX8_init_39 ff_8_24 zk_235 rfl (by decide) rfl ?_
  refine z_aload_n (Y := mX8_init) (pc := 42) 0 dX8_init_42 rfl rfl ?_
  refine y_getR (Y := mX8_init) (pc := 43) (r := 238) dX8_init_43 fl_8_18 zk_235 rfl (by decide) rfl rfl ?_
  refine z_iconst (Y := mX8_init) (pc := 46) (v := (-1 : Int32)) dX8_init_46 (by decide) ?_
  refine y_callS (Y := mX8_init) (pc := 47) (as := [.ref 238, .int (-1 : Int32)]) (st := []) dX8_init_47 lk_8_27 (kF (-1 : Int32) I J ((235, 5, 240) :: ((235, 4, 239) :: ((235, 3, 238) :: ((235, 2, 237) :: ((235, 1, 236) :: R))))) zk_238 (by decide) (by decide)) (by decide) (by decide) (by decide) rfl (by decide) rfl ?_
  refine z_aload_n (Y := mX8_init) (pc := 50) 0 dX8_init_50 rfl rfl ?_
  refine y_getR (Y := mX8_init) (pc := 51) (r := 240) dX8_init_51 fl_8_24 zk_235 rfl (by decide) rfl rfl ?_
  refine z_iconst (Y := mX8_init) (pc := 54) (v := (-1 : Int32)) dX8_init_54 (by decide) ?_
  refine y_callS (Y := mX8_init) (pc := 55) (as := [.ref 240, .int (-1 : Int32)]) (st := []) dX8_init_55 lk_8_27 (kF (-1 : Int32) (fillL 238 (-1 : Int32) 8 I) J ((235, 5, 240) :: ((235, 4, 239) :: ((235, 3, 238) :: ((235, 2, 237) :: ((235, 1, 236) :: R))))) zk_240 (by decide) (by decide)) (by decide) (by decide) (by decide) rfl (by decide) rfl ?_
  exact z_vret (Y := mX8_init) (pc := 58) dX8_init_58 rfl (by decide) (by decide)
theorem kX8_init_241 (I : List (Nat × Nat × Int32)) (J : List (Nat × Nat × Int64)) (R : List (Nat × Nat × Nat)) : z_K mX8_init 1 5 31 [.ref 241] (aM 242 I J R) none (aM 247 (fillL 246 (-1 : Int32) 8 (fillL 244 (-1 : Int32) 8 I)) J ((241, 5, 246) :: ((241, 4, 245) :: ((241, 3, 244) :: ((241, 2, 243) :: ((241, 1, 242) :: R)))))) := by
  refine z_K.of (by decide +kernel) (by show _ ≤ _; first | decide | exact Nat.le_of_ble_eq_true rfl) (lv := [(0, .ref 241)]) rfl ?_
  refine z_aload_n (Y := mX8_init) (pc := 0) 0 dX8_init_0 rfl rfl ?_
  refine z_obj (Y := mX8_init) (pc := 1) dX8_init_1 w_408 w_180 w_181 (by decide) ?_
  refine z_aload_n (Y := mX8_init) (pc := 4) 0 dX8_init_4 rfl rfl ?_
  refine z_iconst (Y := mX8_init) (pc := 5) (v := (3 : Int32)) dX8_init_5 (by decide) ?_
  refine y_newA (Y := mX8_init) (pc := 6) (t := 20) (N := 3) (n' := 243) (cs' := 1) (sl' := 3) dX8_init_6 rfl (by decide) (by decide) w_286 zk_242 (by decide) (by decide) (by decide) rfl rfl rfl (by decide) (by decide) ?_
  refine y_putF (Y := mX8_init) (pc := 8) dX8_init_8 ff_8_9 zk_241 rfl (by decide) rfl ?_
  refine z_aload_n (Y := mX8_init) (pc := 11) 0 dX8_init_11 rfl rfl ?_
  refine z_iconst (Y := mX8_init) (pc := 12) (v := (4 : Int32)) dX8_init_12 (by decide) ?_
  refine y_newA (Y := mX8_init) (pc := 13) (t := 20) (N := 4) (n' := 244) (cs' := 2) (sl' := 7) dX8_init_13 rfl (by decide) (by decide) w_286 zk_243 (by decide) (by decide) (by decide) rfl rfl rfl (by decide) (by decide) ?_
  refine y_putF (Y := mX8_init) (pc := 15) dX8_init_15 ff_8_15 zk_241 rfl (by decide) rfl ?_
  refine z_aload_n (Y := mX8_init) (pc := 18) 0 dX8_init_18 rfl rfl ?_
  refine z_bipush (Y := mX8_init) (pc := 19) (v := (8 : Int32)) dX8_init_19 (by decide) ?_
  refine y_newA (Y := mX8_init) (pc := 21) (t := 20) (N := 8) (n' := 245) (cs' := 3) (sl' := 15) dX8_init_21 rfl (by decide) (by decide) w_286 zk_244 (by decide) (by decide) (by decide) rfl rfl rfl (by decide) (by decide) ?_
  refine y_putF (Y := mX8_init) (pc := 23) dX8_init_23 ff_8_18 zk_241 rfl (by decide) rfl ?_
  refine z_aload_n (Y := mX8_init) (pc := 26) 0 dX8_init_26 rfl rfl ?_
  refine z_bipush (Y := mX8_init) (pc := 27) (v := (8 : Int32)) dX8_init_27 (by decide) ?_
  refine y_newA (Y := mX8_init) (pc := 29) (t := 20) (N := 8) (n' := 246) (cs' := 4) (sl' := 23) dX8_init_29 rfl (by decide) (by decide) w_286 zk_245 (by decide) (by decide) (by decide) rfl rfl rfl (by decide) (by decide) ?_
  refine y_putF (Y := mX8_init) (pc := 31) dX8_init_31 ff_8_21 zk_241 rfl (by decide) rfl ?_
  refine z_aload_n (Y := mX8_init) (pc := 34) 0 dX8_init_34 rfl rfl ?_
  refine z_bipush (Y := mX8_init) (pc := 35) (v := (8 : Int32)) dX8_init_35 (by decide) ?_
  refine y_newA (Y := mX8_init) (pc := 37) (t := 20) (N := 8) (n' := 247) (cs' := 5) (sl' := 31) dX8_init_37 rfl (by decide) (by decide) w_286 zk_246 (by decide) (by decide) (by decide) rfl rfl rfl (by decide) (by decide) ?_
  refine y_putF (Y := mX8_init) (pc := 39) dX8_init_39 ff_8_24 zk_241 rfl (by decide) rfl ?_
  refine z_aload_n (Y := mX8_init) (pc := 42) 0 dX8_init_42 rfl rfl ?_
  refine y_getR (Y := mX8_init) (pc := 43) (r := 244) dX8_init_43 fl_8_18 zk_241 rfl (by decide) rfl rfl ?_
  refine z_iconst (Y := mX8_init) (pc := 46) (v := (-1 : Int32)) dX8_init_46 (by decide) ?_
  refine y_callS (Y := mX8_init) (pc := 47) (as := [.ref 244, .int (-1 : Int32)]) (st := []) dX8_init_47 lk_8_27 (kF (-1 : Int32) I J ((241, 5, 246) :: ((241, 4, 245) :: ((241, 3, 244) :: ((241, 2, 243) :: ((241, 1, 242) :: R))))) zk_244 (by decide) (by decide)) (by decide) (by decide) (by decide) rfl (by decide) rfl ?_
  refine z_aload_n (Y := mX8_init) (pc := 50) 0 dX8_init_50 rfl rfl ?_
  refine y_getR (Y := mX8_init) (pc := 51) (r := 246) dX8_init_51 fl_8_24 zk_241 rfl (by decide) rfl rfl ?_
  refine z_iconst (Y := mX8_init) (pc := 54) (v := (-1 : Int32)) dX8_init_54 (by decide) ?_
  refine y_callS (Y := mX8_init) (pc := 55) (as := [.ref 246, .int (-1 : Int32)]) (st := []) dX8_init_55 lk_8_27 (kF (-1 : Int32) (fillL 244 (-1 : Int32) 8 I) J ((241, 5, 246) :: ((241, 4, 245) :: ((241, 3, 244) :: ((241, 2, 243) :: ((241, 1, 242) :: R))))) zk_246 (by decide) (by decide)) (by decide) (by decide) (by decide) rfl (by decide) rfl ?_
  exact z_vret (Y := mX8_init) (pc := 58) dX8_init_58 rfl (by decide) (by decide)
theorem kX8_init_247 (I : List (Nat × Nat × Int32)) (J : List (Nat × Nat × Int64)) (R : List (Nat × Nat × Nat)) : z_K mX8_init 1 5 31 [.ref 247] (aM 248 I J R) none (aM 253 (fillL 252 (-1 : Int32) 8 (fillL 250 (-1 : Int32) 8 I)) J ((247, 5, 252) :: ((247, 4, 251) :: ((247, 3, 250) :: ((247, 2, 249) :: ((247, 1, 248) :: R)))))) := by
  refine z_K.of (by decide +kernel) (by show _ ≤ _; first | decide | exact Nat.le_of_ble_eq_true rfl) (lv := [(0, .ref 247)]) rfl ?_
  refine z_aload_n (Y := mX8_init) (pc := 0) 0 dX8_init_0 rfl rfl ?_
  refine z_obj (Y := mX8_init) (pc := 1) dX8_init_1 w_408 w_180 w_181 (by decide) ?_
  refine z_aload_n (Y := mX8_init) (pc := 4) 0 dX8_init_4 rfl rfl ?_
  refine z_iconst (Y := mX8_init) (pc := 5) (v := (3 : Int32)) dX8_init_5 (by decide) ?_
  refine y_newA (Y := mX8_init) (pc := 6) (t := 20) (N := 3) (n' := 249) (cs' := 1) (sl' := 3) dX8_init_6 rfl (by decide) (by decide) w_286 zk_248 (by decide) (by decide) (by decide) rfl rfl rfl (by decide) (by decide) ?_
  refine y_putF (Y := mX8_init) (pc := 8) dX8_init_8 ff_8_9 zk_247 rfl (by decide) rfl ?_
  refine z_aload_n (Y := mX8_init) (pc := 11) 0 dX8_init_11 rfl rfl ?_
  refine z_iconst (Y := mX8_init) (pc := 12) (v := (4 : Int32)) dX8_init_12 (by decide) ?_
  refine y_newA (Y := mX8_init) (pc := 13) (t := 20) (N := 4) (n' := 250) (cs' := 2) (sl' := 7) dX8_init_13 rfl (by decide) (by decide) w_286 zk_249 (by decide) (by decide) (by decide) rfl rfl rfl (by decide) (by decide) ?_
  refine y_putF (Y := mX8_init) (pc := 15) dX8_init_15 ff_8_15 zk_247 rfl (by decide) rfl ?_
  refine z_aload_n (Y := mX8_init) (pc := 18) 0 dX8_init_18 rfl rfl ?_
  refine z_bipush (Y := mX8_init) (pc := 19) (v := (8 : Int32)) dX8_init_19 (by decide) ?_
  refine y_newA (Y := mX8_init) (pc := 21) (t := 20) (N := 8) (n' := 251) (cs' := 3) (sl' := 15) dX8_init_21 rfl (by decide) (by decide) w_286 zk_250 (by decide) (by decide) (by decide) rfl rfl rfl (by decide) (by decide) ?_
  refine y_putF (Y := mX8_init) (pc := 23) dX8_init_23 ff_8_18 zk_247 rfl (by decide) rfl ?_
  refine z_aload_n (Y := mX8_init) (pc := 26) 0 dX8_init_26 rfl rfl ?_
  refine z_bipush (Y := mX8_init) (pc := 27) (v := (8 : Int32)) dX8_init_27 (by decide) ?_
  refine y_newA (Y := mX8_init) (pc := 29) (t := 20) (N := 8) (n' := 252) (cs' := 4) (sl' := 23) dX8_init_29 rfl (by decide) (by decide) w_286 zk_251 (by decide) (by decide) (by decide) rfl rfl rfl (by decide) (by decide) ?_
  refine y_putF (Y := mX8_init) (pc := 31) dX8_init_31 ff_8_21 zk_247 rfl (by decide) rfl ?_
  refine z_aload_n (Y := mX8_init) (pc := 34) 0 dX8_init_34 rfl rfl ?_
  refine z_bipush (Y := mX8_init) (pc := 35) (v := (8 : Int32)) dX8_init_35 (by decide) ?_
  refine y_newA (Y := mX8_init) (pc := 37) (t := 20) (N := 8) (n' := 253) (cs' := 5) (sl' := 31) dX8_init_37 rfl (by decide) (by decide) w_286 zk_252 (by decide) (by decide) (by decide) rfl rfl rfl (by decide) (by decide) ?_
  refine y_putF (Y := mX8_init) (pc := 39) dX8_init_39 ff_8_24 zk_247 rfl (by decide) rfl ?_
  refine z_aload_n (Y := mX8_init) (pc := 42) 0 dX8_init_42 rfl rfl ?_
  refine y_getR (Y := mX8_init) (pc := 43) (r := 250) dX8_init_43 fl_8_18 zk_247 rfl (by decide) rfl rfl ?_
  refine z_iconst (Y := mX8_init) (pc := 46) (v := (-1 : Int32)) dX8_init_46 (by decide) ?_
  refine y_callS (Y := mX8_init) (pc := 47) (as := [.ref 250, .int (-1 : Int32)]) (st := []) dX8_init_47 lk_8_27 (kF (-1 : Int32) I J ((247, 5, 252) :: ((247, 4, 251) :: ((247, 3, 250) :: ((247, 2, 249) :: ((247, 1, 248) :: R))))) zk_250 (by decide) (by decide)) (by decide) (by decide) (by decide) rfl (by decide) rfl ?_
  refine z_aload_n (Y := mX8_init) (pc := 50) 0 dX8_init_50 rfl rfl ?_
  refine y_getR (Y := mX8_init) (pc := 51) (r := 252) dX8_init_51 fl_8_24 zk_247 rfl (by decide) rfl rfl ?_
  refine z_iconst (Y := mX8_init) (pc := 54) (v := (-1 : Int32)) dX8_init_54 (by decide) ?_
  refine y_callS (Y := mX8_init) (pc := 55) (as := [.ref 252, .int (-1 : Int32)]) (st := []) dX8_init_55 lk_8_27 (kF (-1 : Int32) (fillL 250 (-1 : Int32) 8 I) J ((247, 5, 252) :: ((247, 4, 251) :: ((247, 3, 250) :: ((247, 2, 249) :: ((247, 1, 248) :: R))))) zk_252 (by decide) (by decide)) (by decide) (by decide) (by decide) rfl (by decide) rfl ?_
  exact z_vret (Y := mX8_init) (pc := 58) dX8_init_58 rfl (by decide) (by decide)
