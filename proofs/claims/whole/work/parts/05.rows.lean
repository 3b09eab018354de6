section ZR
variable {Y : z_Y} {d mc ms : Nat} {rv : Option Value} {M' M : z_M} {pc cs sl : Nat} {lv lv' : List (Nat × Value)} {st : List Value}
theorem z_iconst {n : Int} {v : Int32} (hd : decode Y.2.1 pc = .ok (.iconst n, 1)) (hv : Int32.ofInt n = v) (k : z_G Y d mc ms rv M' (pc + 1) lv (.int v :: st) cs sl M) : z_G Y d mc ms rv M' pc lv st cs sl M :=
  fun p l e s m args below meth c b D cA H ls locs C hW hS hl => lv_iconst C.1 C.2.1 hd hv (k p l e s m args below meth c b D cA H ls locs C hW hS hl)
theorem z_bipush {n : Int} {v : Int32} (hd : decode Y.2.1 pc = .ok (.bipush n, 2)) (hv : (Int8.ofInt n).toInt32 = v) (k : z_G Y d mc ms rv M' (pc + 2) lv (.int v :: st) cs sl M) : z_G Y d mc ms rv M' pc lv st cs sl M :=
  fun p l e s m args below meth c b D cA H ls locs C hW hS hl => lv_bipush C.1 C.2.1 hd hv (k p l e s m args below meth c b D cA H ls locs C hW hS hl)
theorem z_sipush {n : Int} {v : Int32} (hd : decode Y.2.1 pc = .ok (.sipush n, 3)) (hv : (Int16.ofInt n).toInt32 = v) (k : z_G Y d mc ms rv M' (pc + 3) lv (.int v :: st) cs sl M) : z_G Y d mc ms rv M' pc lv st cs sl M :=
  fun p l e s m args below meth c b D cA H ls locs C hW hS hl => lv_sipush C.1 C.2.1 hd hv (k p l e s m args below meth c b D cA H ls locs C hW hS hl)
theorem z_lconst {n : Fin 2} {v : Int64} (hd : decode Y.2.1 pc = .ok (.lconst n, 1)) (hv : Int64.ofNat (n : Nat) = v) (k : z_G Y d mc ms rv M' (pc + 1) lv (.long v :: st) cs sl M) : z_G Y d mc ms rv M' pc lv st cs sl M :=
  fun p l e s m args below meth c b D cA H ls locs C hW hS hl => lv_lconst C.1 C.2.1 hd hv (k p l e s m args below meth c b D cA H ls locs C hW hS hl)
theorem z_ldc {idx : Nat} {v : Int32} (hd : decode Y.2.1 pc = .ok (.ldc idx, 2)) (hw : Cond.constant Y.1.cls idx v ∈ z_tbl) (k : z_G Y d mc ms rv M' (pc + 2) lv (.int v :: st) cs sl M) : z_G Y d mc ms rv M' pc lv st cs sl M :=
  fun p l e s m args below meth c b D cA H ls locs C hW hS hl => lv_ldc C.1 C.2.1 C.2.2.2.2.1 (C.2.2.2.2.2.1 _ hw) hd (k p l e s m args below meth c b D cA H ls locs C hW hS hl)
theorem z_ldc2 {idx : Nat} {v : Int64} (hd : decode Y.2.1 pc = .ok (.ldc2_w idx, 3)) (hw : Cond.constantLong Y.1.cls idx v ∈ z_tbl) (k : z_G Y d mc ms rv M' (pc + 3) lv (.long v :: st) cs sl M) : z_G Y d mc ms rv M' pc lv st cs sl M :=
  fun p l e s m args below meth c b D cA H ls locs C hW hS hl => lv_ldc2 C.1 C.2.1 C.2.2.2.2.1 (C.2.2.2.2.2.1 _ hw) hd (k p l e s m args below meth c b D cA H ls locs C hW hS hl)
theorem z_lvat {ls : Array Slot} {nL b k i : Nat} {v : Value} (hl : lv_has ls nL (lv.map (z_e b))) (hk : lv[k]? = some (i, v)) : ls[i]? = some (.val (z_v b v)) := lv_at hl k (by rw [List.getElem?_map, hk]; rfl)
theorem z_iload {j : Nat} (k : Nat) {x : Int32} (hd : decode Y.2.1 pc = .ok (.iload j, 2)) (hk : lv[k]? = some (j, .int x)) (kk : z_G Y d mc ms rv M' (pc + 2) lv (.int x :: st) cs sl M) : z_G Y d mc ms rv M' pc lv st cs sl M :=
  fun p l e s m args below meth c b D cA H ls locs C hW hS hl => lv_iload C.1 C.2.1 hd (z_lvat hl hk) (kk p l e s m args below meth c b D cA H ls locs C hW hS hl)
theorem z_iload_n {j : Fin 4} (k : Nat) {i : Nat} {x : Int32} (hd : decode Y.2.1 pc = .ok (.iload_n j, 1)) (hi : (j : Nat) = i) (hk : lv[k]? = some (i, .int x)) (kk : z_G Y d mc ms rv M' (pc + 1) lv (.int x :: st) cs sl M) : z_G Y d mc ms rv M' pc lv st cs sl M :=
  fun p l e s m args below meth c b D cA H ls locs C hW hS hl => lv_iload_n C.1 C.2.1 hd hi (z_lvat hl hk) (kk p l e s m args below meth c b D cA H ls locs C hW hS hl)
theorem z_lload {j : Nat} (k : Nat) {x : Int64} (hd : decode Y.2.1 pc = .ok (.lload j, 2)) (hk : lv[k]? = some (j, .long x)) (kk : z_G Y d mc ms rv M' (pc + 2) lv (.long x :: st) cs sl M) : z_G Y d mc ms rv M' pc lv st cs sl M :=
  fun p l e s m args below meth c b D cA H ls locs C hW hS hl => lv_lload C.1 C.2.1 hd (z_lvat hl hk) (kk p l e s m args below meth c b D cA H ls locs C hW hS hl)
theorem z_lload_n {j : Fin 4} (k : Nat) {i : Nat} {x : Int64} (hd : decode Y.2.1 pc = .ok (.lload_n j, 1)) (hi : (j : Nat) = i) (hk : lv[k]? = some (i, .long x)) (kk : z_G Y d mc ms rv M' (pc + 1) lv (.long x :: st) cs sl M) : z_G Y d mc ms rv M' pc lv st cs sl M :=
  fun p l e s m args below meth c b D cA H ls locs C hW hS hl => lv_lload_n C.1 C.2.1 hd hi (z_lvat hl hk) (kk p l e s m args below meth c b D cA H ls locs C hW hS hl)
theorem z_aload {j : Nat} (k : Nat) {x : Nat} (hd : decode Y.2.1 pc = .ok (.aload j, 2)) (hk : lv[k]? = some (j, .ref x)) (kk : z_G Y d mc ms rv M' (pc + 2) lv (.ref x :: st) cs sl M) : z_G Y d mc ms rv M' pc lv st cs sl M :=
  fun p l e s m args below meth c b D cA H ls locs C hW hS hl => lv_aload C.1 C.2.1 hd (z_lvat hl hk) (kk p l e s m args below meth c b D cA H ls locs C hW hS hl)
theorem z_aload_n {j : Fin 4} (k : Nat) {i : Nat} {x : Nat} (hd : decode Y.2.1 pc = .ok (.aload_n j, 1)) (hi : (j : Nat) = i) (hk : lv[k]? = some (i, .ref x)) (kk : z_G Y d mc ms rv M' (pc + 1) lv (.ref x :: st) cs sl M) : z_G Y d mc ms rv M' pc lv st cs sl M :=
  fun p l e s m args below meth c b D cA H ls locs C hW hS hl => lv_aload_n C.1 C.2.1 hd hi (z_lvat hl hk) (kk p l e s m args below meth c b D cA H ls locs C hW hS hl)
def z_st1 (i : Nat) (v : Value) (lv : List (Nat × Value)) : List (Nat × Value) := (i, v) :: lv.filter (fun q => !(q.1 == i) && !(q.1 + 1 == i && q.2.category == 2))
def z_st2 (i : Nat) (v : Value) (lv : List (Nat × Value)) : List (Nat × Value) := (i, v) :: lv.filter (fun q => !(q.1 == i) && (!(q.1 == i + 1) && !(q.1 + 1 == i && q.2.category == 2)))
theorem z_st1_map (b i : Nat) (v : Value) (lv : List (Nat × Value)) : (i, z_v b v) :: (lv.map (z_e b)).filter (fun q => !(q.1 == i) && !(q.1 + 1 == i && q.2.category == 2)) = (z_st1 i v lv).map (z_e b) := by
  show _ = (i, z_v b v) :: _
  congr 1
  rw [List.filter_map]
  congr 1
  apply List.filter_congr
  intro q _
  show (!(q.1 == i) && !(q.1 + 1 == i && (z_v b q.2).category == 2)) = _
  rw [z_v_cat]
theorem z_st2_map (b i : Nat) (v : Value) (lv : List (Nat × Value)) : (i, z_v b v) :: (lv.map (z_e b)).filter (fun q => !(q.1 == i) && (!(q.1 == i + 1) && !(q.1 + 1 == i && q.2.category == 2))) = (z_st2 i v lv).map (z_e b) := by
  show _ = (i, z_v b v) :: _
  congr 1
  rw [List.filter_map]
  congr 1
  apply List.filter_congr
  intro q _
  show (!(q.1 == i) && (!(q.1 == i + 1) && !(q.1 + 1 == i && (z_v b q.2).category == 2))) = _
  rw [z_v_cat]
theorem z_istore {i : Nat} {x : Int32} (hd : decode Y.2.1 pc = .ok (.istore i, 2)) (hn : i < Y.2.2.1) (hl' : z_st1 i (.int x) lv = lv') (k : z_G Y d mc ms rv M' (pc + 2) lv' st cs sl M) : z_G Y d mc ms rv M' pc lv (.int x :: st) cs sl M :=
  fun p l e s m args below meth c b D cA H ls locs C hW hS hl => lv_istore C.1 C.2.1 hd hl hn ((z_st1_map b i (.int x) lv).trans (by rw [hl'])) (fun ls' h' => k p l e s m args below meth c b D cA H ls' locs C hW hS h')
theorem z_istore_n {j : Fin 4} {i : Nat} {x : Int32} (hd : decode Y.2.1 pc = .ok (.istore_n j, 1)) (hi : (j : Nat) = i) (hn : i < Y.2.2.1) (hl' : z_st1 i (.int x) lv = lv') (k : z_G Y d mc ms rv M' (pc + 1) lv' st cs sl M) : z_G Y d mc ms rv M' pc lv (.int x :: st) cs sl M :=
  fun p l e s m args below meth c b D cA H ls locs C hW hS hl => lv_istore_n C.1 C.2.1 hd hi hl hn ((z_st1_map b i (.int x) lv).trans (by rw [hl'])) (fun ls' h' => k p l e s m args below meth c b D cA H ls' locs C hW hS h')
theorem z_astore {i x : Nat} (hd : decode Y.2.1 pc = .ok (.astore i, 2)) (hn : i < Y.2.2.1) (hl' : z_st1 i (.ref x) lv = lv') (k : z_G Y d mc ms rv M' (pc + 2) lv' st cs sl M) : z_G Y d mc ms rv M' pc lv (.ref x :: st) cs sl M :=
  fun p l e s m args below meth c b D cA H ls locs C hW hS hl => lv_astore C.1 C.2.1 hd hl hn ((z_st1_map b i (.ref x) lv).trans (by rw [hl'])) (fun ls' h' => k p l e s m args below meth c b D cA H ls' locs C hW hS h')
theorem z_astore_n {j : Fin 4} {i x : Nat} (hd : decode Y.2.1 pc = .ok (.astore_n j, 1)) (hi : (j : Nat) = i) (hn : i < Y.2.2.1) (hl' : z_st1 i (.ref x) lv = lv') (k : z_G Y d mc ms rv M' (pc + 1) lv' st cs sl M) : z_G Y d mc ms rv M' pc lv (.ref x :: st) cs sl M :=
  fun p l e s m args below meth c b D cA H ls locs C hW hS hl => lv_astore_n C.1 C.2.1 hd hi hl hn ((z_st1_map b i (.ref x) lv).trans (by rw [hl'])) (fun ls' h' => k p l e s m args below meth c b D cA H ls' locs C hW hS h')
theorem z_lstore {i : Nat} {x : Int64} (hd : decode Y.2.1 pc = .ok (.lstore i, 2)) (hn : i + 1 < Y.2.2.1) (hl' : z_st2 i (.long x) lv = lv') (k : z_G Y d mc ms rv M' (pc + 2) lv' st cs sl M) : z_G Y d mc ms rv M' pc lv (.long x :: st) cs sl M :=
  fun p l e s m args below meth c b D cA H ls locs C hW hS hl => lv_lstore C.1 C.2.1 hd hl hn ((z_st2_map b i (.long x) lv).trans (by rw [hl'])) (fun ls' h' => k p l e s m args below meth c b D cA H ls' locs C hW hS h')
theorem z_lstore_n {j : Fin 4} {i : Nat} {x : Int64} (hd : decode Y.2.1 pc = .ok (.lstore_n j, 1)) (hi : (j : Nat) = i) (hn : i + 1 < Y.2.2.1) (hl' : z_st2 i (.long x) lv = lv') (k : z_G Y d mc ms rv M' (pc + 1) lv' st cs sl M) : z_G Y d mc ms rv M' pc lv (.long x :: st) cs sl M :=
  fun p l e s m args below meth c b D cA H ls locs C hW hS hl => lv_lstore_n C.1 C.2.1 hd hi hl hn ((z_st2_map b i (.long x) lv).trans (by rw [hl'])) (fun ls' h' => k p l e s m args below meth c b D cA H ls' locs C hW hS h')
theorem z_iinc {i : Nat} (k : Nat) {n : Int} {x v : Int32} (hd : decode Y.2.1 pc = .ok (.iinc i n, 3)) (hk : lv[k]? = some (i, .int x)) (hv : x + Int32.ofInt n = v) (hn : i < Y.2.2.1) (hl' : z_st1 i (.int v) lv = lv') (kk : z_G Y d mc ms rv M' (pc + 3) lv' st cs sl M) : z_G Y d mc ms rv M' pc lv st cs sl M :=
  fun p l e s m args below meth c b D cA H ls locs C hW hS hl => lv_iinc C.1 C.2.1 hd hl (k := k) (by rw [List.getElem?_map, hk]; rfl) hv hn ((z_st1_map b i (.int v) lv).trans (by rw [hl'])) (fun ls' h' => kk p l e s m args below meth c b D cA H ls' locs C hW hS h')
/-- fewer locals, or in another order -/
theorem z_sub (ks : List Nat) (hl' : lv_pick lv ks = lv') (k : z_G Y d mc ms rv M' pc lv' st cs sl M) : z_G Y d mc ms rv M' pc lv st cs sl M :=
  fun p l e s m args below meth c b D cA H ls locs C hW hS hl => k p l e s m args below meth c b D cA H ls locs C hW hS (by
    rw [← hl']
    refine lv_sub hl ks ?_
    unfold lv_pick
    rw [List.map_filterMap]
    simp only [List.getElem?_map])
end ZR
