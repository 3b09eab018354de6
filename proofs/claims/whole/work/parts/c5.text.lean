/-! the constructor of Text: the class' own words, packed -/
/-- six places of five bits, from place i on, letters before place t -/
def zs_pk : Nat → Nat → Nat → Int32 → Int32
  | 0, _, _, acc => acc
  | r + 1, i, t, acc => zs_pk r (i + 1) t (32 * acc + (if i < t then zs_by.getD i 0 - 97 + 1 else 0))
theorem kP_loop {M : z_M} {a t : Nat} (ha : a ≤ 200) (ht : t ≤ 179) : ∀ (r i : Nat) (acc : Int32), i + r = a + 6 → z_G mX10_packedConstant 6 0 0 (some (.int (zs_pk r i t acc))) M 4 [(0, .int (nI a)), (1, .int (nI t)), (2, .int acc), (3, .int (nI i))] [] 0 0 M
  | 0, i, acc, h => by
    refine z_iload_n (pc := 4) 3 dX10_packedConstant_4 rfl rfl ?_
    refine z_iload_n (pc := 5) 0 dX10_packedConstant_5 rfl rfl ?_
    refine z_bipush (pc := 6) (v := nI 6) dX10_packedConstant_6 (by decide) ?_
    refine z_iadd (pc := 8) dX10_packedConstant_8 ?_
    rw [nI_add]
    refine z_icmp_ge (pc := 9) (tgt := 44) dX10_packedConstant_9 (by decide) (fun _ => ?_) (fun hc => absurd (nI_le (by omega) (by omega)) hc)
    refine z_iload_n (pc := 44) 2 dX10_packedConstant_44 rfl rfl ?_
    exact z_iret (pc := 45) dX10_packedConstant_45 rfl (Nat.le_refl _) (Nat.le_refl _)
  | r + 1, i, acc, h => by
    refine z_iload_n (pc := 4) 3 dX10_packedConstant_4 rfl rfl ?_
    refine z_iload_n (pc := 5) 0 dX10_packedConstant_5 rfl rfl ?_
    refine z_bipush (pc := 6) (v := nI 6) dX10_packedConstant_6 (by decide) ?_
    refine z_iadd (pc := 8) dX10_packedConstant_8 ?_
    rw [nI_add]
    refine z_icmp_ge (pc := 9) (tgt := 44) dX10_packedConstant_9 (by decide) (fun hc => absurd hc (nI_ge (by omega) (by omega))) (fun _ => ?_)
    refine z_bipush (pc := 12) (v := 32) dX10_packedConstant_12 (by decide) ?_
    refine z_iload_n (pc := 14) 2 dX10_packedConstant_14 rfl rfl ?_
    refine z_imul (pc := 15) dX10_packedConstant_15 ?_
    refine z_iload_n (pc := 16) 3 dX10_packedConstant_16 rfl rfl ?_
    refine z_iload_n (pc := 17) 1 dX10_packedConstant_17 rfl rfl ?_
    have tl : ∀ x : Int32, (if i < t then zs_by.getD i 0 - 97 + 1 else 0) = x → z_G mX10_packedConstant 6 0 0 (some (.int (zs_pk (r + 1) i t acc))) M 36 [(0, .int (nI a)), (1, .int (nI t)), (2, .int acc), (3, .int (nI i))] [.int x, .int (32 * acc)] 0 0 M := by
      intro x hx
      refine z_iadd (pc := 36) dX10_packedConstant_36 ?_
      refine z_istore_n (pc := 37) (lv' := [(2, .int (32 * acc + x)), (0, .int (nI a)), (1, .int (nI t)), (3, .int (nI i))]) dX10_packedConstant_37 rfl (by decide) rfl ?_
      refine z_iinc (pc := 38) (v := nI (i + 1)) (lv' := [(3, .int (nI (i + 1))), (2, .int (32 * acc + x)), (0, .int (nI a)), (1, .int (nI t))]) 3 dX10_packedConstant_38 rfl (by rw [nI_succ]; rfl) (by decide) rfl ?_
      refine z_goto (pc := 41) (tgt := 4) dX10_packedConstant_41 (by decide) ?_
      refine z_sub (lv' := [(0, .int (nI a)), (1, .int (nI t)), (2, .int (32 * acc + x)), (3, .int (nI (i + 1)))]) [2, 3, 1, 0] rfl ?_
      have h1 := kP_loop (M := M) ha ht r (i + 1) (32 * acc + x) (by omega)
      rw [← hx] at h1 ⊢
      exact h1
    refine z_icmp_ge (pc := 18) (tgt := 35) dX10_packedConstant_18 (by decide) (fun hc => ?_) (fun hc => ?_)
    · have hge : ¬ i < t := fun q => nI_ge q (by omega) hc
      refine z_iconst (pc := 35) (v := 0) dX10_packedConstant_35 (by decide) ?_
      exact tl 0 (if_neg hge)
    · have hlt : i < t := by
        rcases Nat.lt_or_ge i t with q | q
        · exact q
        · exact absurd (nI_le q (by omega)) hc
      refine zt_char (Y := mX10_packedConstant) (pc := 21) (i := i) (k := 3) (j' := 3) rfl dX10_packedConstant_21 dX10_packedConstant_23 rfl rfl dX10_packedConstant_24 (by omega) (by decide) (by decide) (by decide) (Nat.le_of_ble_eq_true rfl) ?_
      refine z_bipush (pc := 27) (v := 97) dX10_packedConstant_27 (by decide) ?_
      refine z_isub (pc := 29) dX10_packedConstant_29 ?_
      refine z_iconst (pc := 30) (v := 1) dX10_packedConstant_30 (by decide) ?_
      refine z_iadd (pc := 31) dX10_packedConstant_31 ?_
      refine z_goto (pc := 32) (tgt := 36) dX10_packedConstant_32 (by decide) ?_
      exact tl _ (if_pos hlt)
theorem kP (M : z_M) {a t : Nat} (ha : a ≤ 200) (ht : t ≤ 179) : z_K mX10_packedConstant 6 0 0 [.int (nI a), .int (nI t)] M (some (.int (zs_pk 6 a t 0))) M := by
  refine z_K.of (by decide +kernel) (by show _ ≤ _; first | decide | exact Nat.le_of_ble_eq_true rfl) (lv := [(0, .int (nI a)), (1, .int (nI t))]) rfl ?_
  refine z_iconst (pc := 0) (v := (0 : Int32)) dX10_packedConstant_0 (by decide) ?_
  refine z_istore_n (pc := 1) (lv' := [(2, .int (0 : Int32)), (0, .int (nI a)), (1, .int (nI t))]) dX10_packedConstant_1 rfl (by decide) rfl ?_
  refine z_iload_n (pc := 2) 1 dX10_packedConstant_2 rfl rfl ?_
  refine z_istore_n (pc := 3) (lv' := [(3, .int (nI a)), (2, .int (0 : Int32)), (0, .int (nI a)), (1, .int (nI t))]) dX10_packedConstant_3 rfl (by decide) rfl ?_
  refine z_sub (lv' := [(0, .int (nI a)), (1, .int (nI t)), (2, .int (0 : Int32)), (3, .int (nI a))]) [2, 3, 1, 0] rfl ?_
  exact kP_loop ha ht 6 a 0 rfl
/-- what the loop over the text leaves: at place i, w words found, the next begins at st -/
def zs_run : Nat → Nat → Nat → Nat → List (Nat × Nat × Int32) → List (Nat × Nat × Int32)
  | 0, _, _, _, I => I
  | r + 1, i, w, st, I => if 34 ≤ w then I else if i = 179 ∨ zs_by.getD i 0 = 32 then zs_run r (i + 1) (w + 1) (i + 1) ((3, w, zs_pk 6 st i 0) :: I) else zs_run r (i + 1) w st I
theorem kT_loop {J : List (Nat × Nat × Int64)} {R : List (Nat × Nat × Nat)} (hR : ar R 1 10 = some 3) : ∀ (r i w st : Nat) (I : List (Nat × Nat × Int32)), i + r = 180 → w ≤ i → st ≤ i → z_G mX10_init 8 2 1634 none (aM 4 (zs_run r i w st I) J R) 32 [(0, .ref 1), (1, .int (nI w)), (2, .int (nI st)), (3, .int (nI i))] [] 2 1634 (aM 4 I J R)
  | 0, i, w, st, I, h, hw, hs => by
    have hi : i = 180 := by omega
    subst hi
    refine z_iload_n (pc := 32) 3 dX10_init_32 rfl rfl ?_
    refine zt_len (Y := mX10_init) (pc := 33) rfl dX10_init_33 dX10_init_35 (by decide) (by decide) (by decide) (Nat.le_of_ble_eq_true rfl) ?_
    refine z_icmp_gt (pc := 38) (tgt := 94) dX10_init_38 (by decide) (fun _ => ?_) (fun hc => absurd (by decide) hc)
    exact z_vret (pc := 94) dX10_init_94 rfl (by decide) (by decide)
  | r + 1, i, w, st, I, h, hw, hs => by
    have hi : i ≤ 179 := by omega
    refine z_iload_n (pc := 32) 3 dX10_init_32 rfl rfl ?_
    refine zt_len (Y := mX10_init) (pc := 33) rfl dX10_init_33 dX10_init_35 (by decide) (by decide) (by decide) (Nat.le_of_ble_eq_true rfl) ?_
    refine z_icmp_gt (pc := 38) (tgt := 94) dX10_init_38 (by decide) (fun hc => absurd hc (show ¬ nI 179 < nI i from nI_nlt hi (by omega))) (fun _ => ?_)
    refine z_iload_n (pc := 41) 1 dX10_init_41 rfl rfl ?_
    refine z_aload_n (pc := 42) 0 dX10_init_42 rfl rfl ?_
    refine y_getR (Y := mX10_init) (pc := 43) (r := 3) dX10_init_43 fl_10_19 zk_1 rfl (by decide) rfl hR ?_
    refine y_alen (Y := mX10_init) (pc := 46) (x := nI 34) dX10_init_46 zk_3 (by decide) (by decide) (by decide) rfl ?_
    refine z_icmp_ge (pc := 47) (tgt := 94) dX10_init_47 (by decide) (fun hc => ?_) (fun hc => ?_)
    · have h34 : 34 ≤ w := (nI_leI (by omega) (by omega)).mp hc
      rw [show zs_run (r + 1) i w st I = I from if_pos h34]
      exact z_vret (pc := 94) dX10_init_94 rfl (by decide) (by decide)
    · have h34 : ¬ 34 ≤ w := fun q => hc (nI_le q (by omega))
      have tl : ∀ (w' st' : Nat) (I' : List (Nat × Nat × Int32)), w' ≤ i + 1 → st' ≤ i + 1 → zs_run (r + 1) i w st I = zs_run r (i + 1) w' st' I' → z_G mX10_init 8 2 1634 none (aM 4 (zs_run (r + 1) i w st I) J R) 88 [(0, .ref 1), (1, .int (nI w')), (2, .int (nI st')), (3, .int (nI i))] [] 2 1634 (aM 4 I' J R) := by
        intro w' st' I' hw' hs' he
        rw [he]
        refine z_iinc (pc := 88) (v := nI (i + 1)) (lv' := [(3, .int (nI (i + 1))), (0, .ref 1), (1, .int (nI w')), (2, .int (nI st'))]) 3 dX10_init_88 rfl (by rw [nI_succ]; rfl) (by decide) rfl ?_
        refine z_goto (pc := 91) (tgt := 32) dX10_init_91 (by decide) ?_
        refine z_sub (lv' := [(0, .ref 1), (1, .int (nI w')), (2, .int (nI st')), (3, .int (nI (i + 1)))]) [1, 2, 3, 0] rfl ?_
        exact kT_loop hR r (i + 1) w' st' I' (by omega) hw' hs'
      have yes : (i = 179 ∨ zs_by.getD i 0 = 32) → z_G mX10_init 8 2 1634 none (aM 4 (zs_run (r + 1) i w st I) J R) 70 [(0, .ref 1), (1, .int (nI w)), (2, .int (nI st)), (3, .int (nI i))] [] 2 1634 (aM 4 I J R) := by
        intro hy
        refine z_aload_n (pc := 70) 0 dX10_init_70 rfl rfl ?_
        refine y_getR (Y := mX10_init) (pc := 71) (r := 3) dX10_init_71 fl_10_19 zk_1 rfl (by decide) rfl hR ?_
        refine z_iload_n (pc := 74) 1 dX10_init_74 rfl rfl ?_
        refine z_iload_n (pc := 75) 2 dX10_init_75 rfl rfl ?_
        refine z_iload_n (pc := 76) 3 dX10_init_76 rfl rfl ?_
        refine z_callS (Y := mX10_init) (pc := 77) (as := [.int (nI st), .int (nI i)]) (st := [.int (nI w), .ref 3]) dX10_init_77 lk_10_34 (kP _ (by omega) hi) (by decide) (by decide) (by decide) rfl (Nat.le_of_ble_eq_true rfl) rfl ?_
        refine y_iast (Y := mX10_init) (pc := 80) (k := w) dX10_init_80 zk_3 (by decide) (vp_in_nI (by omega) (by omega)) (nI_clamp (by omega)) ?_
        refine z_iinc (pc := 81) (v := nI (w + 1)) (lv' := [(1, .int (nI (w + 1))), (0, .ref 1), (2, .int (nI st)), (3, .int (nI i))]) 1 dX10_init_81 rfl (by rw [nI_succ]; rfl) (by decide) rfl ?_
        refine z_iload_n (pc := 84) 3 dX10_init_84 rfl rfl ?_
        refine z_iconst (pc := 85) (v := 1) dX10_init_85 (by decide) ?_
        refine z_iadd (pc := 86) dX10_init_86 ?_
        rw [nI_1]
        refine z_istore_n (pc := 87) (lv' := [(2, .int (nI (i + 1))), (1, .int (nI (w + 1))), (0, .ref 1), (3, .int (nI i))]) dX10_init_87 rfl (by decide) rfl ?_
        refine z_sub (lv' := [(0, .ref 1), (1, .int (nI (w + 1))), (2, .int (nI (i + 1))), (3, .int (nI i))]) [2, 1, 0, 3] rfl ?_
        exact tl (w + 1) (i + 1) _ (by omega) (by omega) ((if_neg h34).trans (if_pos hy))
      refine z_iload_n (pc := 50) 3 dX10_init_50 rfl rfl ?_
      refine zt_len (Y := mX10_init) (pc := 51) rfl dX10_init_51 dX10_init_53 (by decide) (by decide) (by decide) (Nat.le_of_ble_eq_true rfl) ?_
      refine z_icmp_eq (pc := 56) (tgt := 70) dX10_init_56 (by decide) (fun hc => ?_) (fun hc => ?_)
      · exact yes (Or.inl ((nI_eq (b := 179) (by omega) (by decide)).mp hc))
      · have h179 : i ≠ 179 := fun q => hc (by rw [q]; rfl)
        refine zt_char (Y := mX10_init) (pc := 59) (i := i) (k := 3) (j' := 3) rfl dX10_init_59 dX10_init_61 rfl rfl dX10_init_62 (by omega) (by decide) (by decide) (by decide) (Nat.le_of_ble_eq_true rfl) ?_
        refine z_bipush (pc := 65) (v := 32) dX10_init_65 (by decide) ?_
        refine z_icmp_ne (pc := 67) (tgt := 88) dX10_init_67 (by decide) (fun hb => ?_) (fun hb => ?_)
        · exact tl w st I (by omega) (by omega) ((if_neg h34).trans (if_neg (fun q => q.elim h179 hb)))
        · exact yes (Or.inr hb)
def zt_I (I : List (Nat × Nat × Int32)) : List (Nat × Nat × Int32) := zs_run 180 0 0 0 ((1, 3, (-1 : Int32)) :: I)
def zt_R (R : List (Nat × Nat × Nat)) : List (Nat × Nat × Nat) := (1, 10, 3) :: (1, 0, 2) :: R
theorem kT (I : List (Nat × Nat × Int32)) (J : List (Nat × Nat × Int64)) (R : List (Nat × Nat × Nat)) : z_K mX10_init 8 2 1634 [.ref 1] (aM 2 I J R) none (aM 4 (zt_I I) J (zt_R R)) := by
  refine z_K.of (by decide +kernel) (by show _ ≤ _; first | decide | exact Nat.le_of_ble_eq_true rfl) (lv := [(0, .ref 1)]) rfl ?_
  refine z_aload_n (pc := 0) 0 dX10_init_0 rfl rfl ?_
  refine z_obj (Y := mX10_init) (pc := 1) dX10_init_1 w_187 w_180 w_181 (by decide) ?_
  refine z_aload_n (pc := 4) 0 dX10_init_4 rfl rfl ?_
  refine z_sipush (pc := 5) (v := 1600) dX10_init_5 (by decide) ?_
  refine y_newA (Y := mX10_init) (pc := 8) (t := 20) (N := 1600) (n' := 3) (cs' := 1) (sl' := 1600) dX10_init_8 rfl (by decide) (by decide) w_286 zk_2 (by decide) (by decide) (by decide) rfl rfl rfl (by decide) (by decide) ?_
  refine y_putF (Y := mX10_init) (pc := 10) dX10_init_10 ff_10_9 zk_1 rfl (by decide) rfl ?_
  refine z_aload_n (pc := 13) 0 dX10_init_13 rfl rfl ?_
  refine z_iconst (pc := 14) (v := (-1 : Int32)) dX10_init_14 (by decide) ?_
  refine y_putI (Y := mX10_init) (pc := 15) dX10_init_15 fl_10_15 zk_1 rfl (by decide) rfl rfl ?_
  refine z_aload_n (pc := 18) 0 dX10_init_18 rfl rfl ?_
  refine z_bipush (pc := 19) (v := 34) dX10_init_19 (by decide) ?_
  refine y_newA (Y := mX10_init) (pc := 21) (t := 20) (N := 34) (n' := 4) (cs' := 2) (sl' := 1634) dX10_init_21 rfl (by decide) (by decide) w_286 zk_3 (by decide) (by decide) (by decide) rfl rfl rfl (by decide) (by decide) ?_
  refine y_putF (Y := mX10_init) (pc := 23) dX10_init_23 ff_10_19 zk_1 rfl (by decide) rfl ?_
  refine z_iconst (pc := 26) (v := nI 0) dX10_init_26 (by decide) ?_
  refine z_istore_n (pc := 27) (lv' := [(1, .int (nI 0)), (0, .ref 1)]) dX10_init_27 rfl (by decide) rfl ?_
  refine z_iconst (pc := 28) (v := nI 0) dX10_init_28 (by decide) ?_
  refine z_istore_n (pc := 29) (lv' := [(2, .int (nI 0)), (1, .int (nI 0)), (0, .ref 1)]) dX10_init_29 rfl (by decide) rfl ?_
  refine z_iconst (pc := 30) (v := nI 0) dX10_init_30 (by decide) ?_
  refine z_istore_n (pc := 31) (lv' := [(3, .int (nI 0)), (2, .int (nI 0)), (1, .int (nI 0)), (0, .ref 1)]) dX10_init_31 rfl (by decide) rfl ?_
  refine z_sub (lv' := [(0, .ref 1), (1, .int (nI 0)), (2, .int (nI 0)), (3, .int (nI 0))]) [3, 2, 1, 0] rfl ?_
  exact kT_loop (R := zt_R R) rfl 180 0 0 0 _ rfl (Nat.le_refl _) (Nat.le_refl _)
