/-! the one String constant: its length, its chars -/
/-- the constant lies at a, its bytes at v -/
def zq_S (b a v : Nat) (U : State) : Prop := va_O "java/lang/String" a (z_A b) U U.heap ∧ va_OF "java/lang/String" "coder" "B" (.int 0) a (z_A b) U U.heap ∧ va_OF "java/lang/String" "value" "[B" (.ref v) a (z_A b) U U.heap ∧ va_T .byte v 179 (fun j => .int (zs_by.getD j 0)) (z_A b) U U.heap ∧ va_Z "java/lang/String" "COMPACT_STRINGS" "Z" (.int 1) (z_A b) U U.heap ∧ va_Zq "jdk/internal/util/Preconditions" "SIOOBE_FORMATTER" "Ljava/util/function/BiFunction;" (z_A b) U U.heap
theorem zq_S.moved {b a v : Nat} {s U : State} {H : Heap} {locs : List Loc} (hW : s.WarmedH U.vm) (hH : U.heap = H) (hS : va_S (z_A b) s.heap H locs) (h : zq_S b a v s) : zq_S b a v U := by
  obtain ⟨h1, h2, h3, h4, h5, h6⟩ := h
  have hk : ∀ a : Nat, a < s.heap.size → ¬ z_A b a → U.heap[a]? = s.heap[a]? := fun a g1 g2 => by rw [hH]; exact hS.2.1 a g1 g2
  exact ⟨(h1.moved hW.alike).kept hk, (h2.moved hW.alike).kept hk, (h3.moved hW.alike).kept hk, (h4.moved hW.alike).kept hk, (h5.moved hW.alike).kept hk, (h6.moved hW.alike).kept hk⟩
theorem zq_S.same {b a v : Nat} {u U : State} (hv : u.vm = U.vm) (hh : U.heap = u.heap) (h : zq_S b a v u) : zq_S b a v U := by
  obtain ⟨h1, h2, h3, h4, h5, h6⟩ := h
  have hal : u.vm.Alike U.vm := by rw [hv]; exact Vm.Alike.refl _
  unfold zq_S
  rw [hh]
  exact ⟨h1.moved hal, h2.moved hal, h3.moved hal, h4.moved hal, h5.moved hal, h6.moved hal⟩
theorem zq_E {b : Nat} {s : State} (h : z_E b s) : ∃ a v : Nat, vk_R "DearLetters$Text" 22 zs_tx a s ∧ zq_S b a v s := by
  obtain ⟨_, -, -, -, -, -, hc, hq, aK, aV, hr, hv⟩ := h.2.2.2.2.2.2.2
  obtain ⟨g1, g2, g3, g4⟩ := hv.1 0 (by decide)
  exact ⟨aK 0, aV 0, hr, g1, g2, g3, g4, hc, hq⟩
def zq_Cx (Y : z_Y) (p : Program) (s : State) (m : MethodId) (args : Array Value) (meth : Method) (c : Code) (b a v : Nat) (H : Heap) (locs : List Loc) : Prop :=
  p.tables.exec = Jvm.exec ∧ c.code = Y.2.1 ∧ meth.sig.returnType = Y.2.2.2 ∧ c.maxLocals = Y.2.2.1 ∧ s.vm.findClass Y.1.cls = some m.cls ∧ (∀ w ∈ z_tbl, w.before args s = true) ∧ zq_S b a v s ∧ meth.locks = false ∧ va_S (z_A b) s.heap H locs
def zq_P (b a v : Nat) (as : List Value) : Array Value → State → Prop := fun w U => w = as.toArray ∧ zq_S b a v U
def zq_Q (r : Option Value) : Array Value → State → Outcome → State → Prop := fun _ st oc t => oc = .returned r ∧ t.heap = st.heap
def zq_K (Y : z_Y) (d b a v : Nat) (as : List Value) (r : Option Value) : Prop := ∀ l : Launch, Met l Y.1 (z_w Y) (z_rm d 0 0) (zq_P b a v as) (zq_Q r) 0 0 (z_A b)
theorem zq_blind (b a v : Nat) (as : List Value) : FrameBlind (zq_P b a v as) := fun w U g mk q => ⟨q.1, zq_S.same (u := U) (U := U.calling g mk w) rfl rfl q.2⟩
theorem zq_K.of {Y : z_Y} {d b a v : Nat} {as : List Value} {r : Option Value} (hy : plainFor Y.1 = true) (hlen : (lg_sl as).length ≤ Y.2.2.1) {lv : List (Nat × Value)} (hlv : lv_args 0 as = lv)
    (h : ∀ (p : Program) (l : Launch) (e : Env) (s : State) (m : MethodId) (args : Array Value) (below : List Frame) (meth : Method) (c : Code) (ls : Array Slot), zq_Cx Y p s m args meth c b a v s.heap [] → lv_has ls Y.2.2.1 lv → W p l e (z_rm d 0 0) s m args below meth c s.heap [] 0 0 (MQ below (zq_Q r) args s 0 0 (z_A b)) (F0 m 0 ls [])) : zq_K Y d b a v as r := by
  intro l
  refine va_MetF (cc := Y.2.1) (maxL := Y.2.2.1) (ret := Y.2.2.2) hy rfl ?_
  intro p e s m args below meth c s₁ B hml hv
  obtain ⟨rfl, hS⟩ := hv
  have hts := atoms_spec (ws := z_w Y) B.pre
  have hl := lv_entry as (n := Y.2.2.1) hlen
  rw [lg_entry_eq]
  rw [hlv] at hl
  exact h p l e s m _ below meth c _ ⟨B.exec, B.bytes, B.returns, hml, findClass_of_methodNamed B.named, fun w hw => hts w (List.mem_cons_of_mem _ hw), hS, B.notSynchronized, va_S.rf⟩ hl
def zq_LV (own : String) (idx : Nat) (Y' : z_Y) (n : Nat) : Prop := z_LB own idx Y' n ∧ Cond.instanceMethod Y'.1 ∈ z_tbl ∧ Cond.selects "java/lang/String" Y'.1 Y'.1 ∈ z_tbl
section ZQ
variable {Y : z_Y} {p : Program} {l : Launch} {e : Env} {s : State} {m : MethodId} {args : Array Value} {below : List Frame} {meth : Method} {c : Code} {b a v : Nat} {H : Heap} {locs : List Loc} {d mc ms cs sl pc : Nat} {Q : State → Prop} {ls : Array Slot} {lv : List (Nat × Value)} {st : List Value}
theorem zq_after {mc' ms' : Nat} {r : Option Value} {st0 : List Value} {w : Array Value} (C : zq_Cx Y p s m args meth c b a v H locs) (hr : va_Run p l e (z_rm d mc ms) s m args below meth c H locs cs sl 0 0 (F0 m pc ls st0) st (zq_Q r w) (z_A b))
    (kk : ∀ locs', zq_Cx Y p s m args meth c b a v H locs' → W p l e (z_rm d mc ms) s m args below meth c H locs' cs sl Q (F0 m (pc + 3) ls (r.toList ++ st))) : W p l e (z_rm d mc ms) s m args below meth c H locs cs sl Q (F0 m pc ls st0) := by
  intro T hT X
  obtain ⟨x, st₀, t, T', L, h0, X', hL, e1, e2, ⟨hv, hh⟩, hst⟩ := hr T hT X
  have hv : x = r := by cases hv; rfl
  subst hv
  have hS := C.2.2.2.2.2.2.2.2
  have hH : T'.heap = H := by rw [e1, hh, h0]
  have hS1 : va_S (z_A b) s.heap H (locs ++ L) := ⟨hS.1, hS.2.1, fun q hq => by
    rcases List.mem_append.mp hq with h | h
    · exact hS.2.2 q h
    · exact hL q h⟩
  obtain ⟨t2, a1, b1⟩ := kk (locs ++ L) ⟨C.1, C.2.1, C.2.2.1, C.2.2.2.1, C.2.2.2.2.1, C.2.2.2.2.2.1, C.2.2.2.2.2.2.1, C.2.2.2.2.2.2.2.1, hS1⟩ T' hH X'
  exact ⟨t2, hst t2 a1, b1⟩
theorem zq_callS {idx n d' : Nat} {as : List Value} {Y' : z_Y} {r : Option Value} {st0 : List Value} (C : zq_Cx Y p s m args meth c b a v H locs) (hl : lv_has ls Y.2.2.1 lv) (hd : decode Y.2.1 pc = .ok (.invokestatic idx, 3)) (hL : z_LS Y.1.cls idx Y' n) (hK : zq_K Y' d' b a v as r) (hdd : d' + 1 ≤ d) (hcs : cs ≤ mc) (hsl : sl ≤ ms) (hn : as.length = n) (hst : (st.map (fun v => v.category)).sum ≤ 8) (he : as.reverse ++ st = st0)
    (kk : ∀ locs', zq_Cx Y p s m args meth c b a v H locs' → W p l e (z_rm d mc ms) s m args below meth c H locs' cs sl Q (F0 m (pc + 3) ls (r.toList ++ st))) : W p l e (z_rm d mc ms) s m args below meth c H locs cs sl Q (F0 m pc ls st0) := by
  have hts := C.2.2.2.2.2.1
  exact zq_after (mc' := 0) (ms' := 0) C (va_runS (As := as) (rest := st) ⟨C.1, C.2.1, C.2.2.2.1, C.2.2.2.2.1, hts⟩ (hK l) ⟨z_cb hts hL.1 hdd, hts _ hL.2⟩ ⟨zq_blind b a v as, fun U hU hw => ⟨rfl, zq_S.moved hw hU C.2.2.2.2.2.2.2.2 C.2.2.2.2.2.2.1⟩⟩ rfl hn hl.1 (by show st0 = _; rw [← he]) (lv_room hst) hd ⟨hcs, hsl⟩) kk
theorem zq_callV {idx n d' : Nat} {as : List Value} {Y' : z_Y} {r : Option Value} {st0 : List Value} (C : zq_Cx Y p s m args meth c b a v H locs) (hl : lv_has ls Y.2.2.1 lv) (hd : decode Y.2.1 pc = .ok (.invokevirtual idx, 3)) (hL : zq_LV Y.1.cls idx Y' n) (hK : zq_K Y' d' b a v (.ref a :: as) r) (hdd : d' + 1 ≤ d) (hcs : cs ≤ mc) (hsl : sl ≤ ms) (hn : as.length = n) (hst : (st.map (fun v => v.category)).sum ≤ 8) (he : as.reverse ++ .ref a :: st = st0)
    (kk : ∀ locs', zq_Cx Y p s m args meth c b a v H locs' → W p l e (z_rm d mc ms) s m args below meth c H locs' cs sl Q (F0 m (pc + 3) ls (r.toList ++ st))) : W p l e (z_rm d mc ms) s m args below meth c H locs cs sl Q (F0 m pc ls st0) := by
  have hts := C.2.2.2.2.2.1
  have hS := C.2.2.2.2.2.2.2.2
  obtain ⟨cell, q1, q2, q3, -⟩ := C.2.2.2.2.2.2.1.1.kept hS.2.1
  exact zq_after (mc' := 0) (ms' := 0) C (va_runV (b := a) (C := "java/lang/String") (As := as) (rest := st) ⟨C.1, C.2.1, C.2.2.2.1, C.2.2.2.2.1, hts⟩ (hK l) ⟨z_cb hts hL.1 hdd, hts _ hL.2.1, hts _ hL.2.2⟩ ⟨zq_blind b a v _, ⟨cell, q1, q2, q3⟩, fun U hU hw => ⟨rfl, zq_S.moved hw hU hS C.2.2.2.2.2.2.1⟩⟩ rfl hn hl.1 (by show st0 = _; rw [← he]) (lv_room hst) hd ⟨hcs, hsl⟩) kk
theorem zq_ret {x : Int32} {ty : FieldType} (C : zq_Cx Y p s m args meth c b a v s.heap locs) (hd : decode Y.2.1 pc = .ok (.ireturn, 1)) (hr : Y.2.2.2 = some ty) (hx : narrow ty (.int x) = .int x) : W p l e (z_rm d 0 0) s m args below meth c s.heap locs 0 0 (MQ below (zq_Q (some (.int x))) args s 0 0 (z_A b)) (F0 m pc ls [.int x]) :=
  W.zret (ty := ty) C.1 C.2.1 (C.2.2.1.trans hr) hx (fun t ht hw => ⟨rfl, ht⟩) C.2.2.2.2.2.2.2.2.2.2 hd C.2.2.2.2.2.2.2.1
end ZQ
theorem zq_coder (b a v : Nat) : zq_K mJ0_coder_7d493 0 b a v [.ref a] (some (.int 0)) := by
  refine zq_K.of (by decide +kernel) (by show _ ≤ _; first | decide | exact Nat.le_of_ble_eq_true rfl) (lv := [(0, .ref a)]) rfl ?_
  intro p l e s m args below meth c ls C hl
  have hts := C.2.2.2.2.2.1
  obtain ⟨h1, h2, h3, h4, h5, h6⟩ := C.2.2.2.2.2.2.1
  have hS := C.2.2.2.2.2.2.2.2
  refine va_gets C.1 C.2.1 h5 hS C.2.2.2.2.1 (hts _ w_197) (fun _ h => h) dJ0_coder_7d493_0 ?_
  refine lv_if_eq (pc := 3) (tgt := 13) C.1 C.2.1 dJ0_coder_7d493_3 (by decide) (fun h => absurd h (by decide)) (fun _ => ?_)
  refine lv_aload_n (pc := 6) C.1 C.2.1 dJ0_coder_7d493_6 rfl (lv_at hl 0 rfl) ?_
  refine vk_getf (pc := 7) C.1 C.2.1 h2 hS C.2.2.2.2.1 (hts _ w_2209) (fun _ h => h) dJ0_coder_7d493_7 ?_
  refine lv_goto (pc := 10) (tgt := 14) C.1 C.2.1 dJ0_coder_7d493_10 (by decide) ?_
  exact zq_ret (ty := .byte) C dJ0_coder_7d493_14 rfl (by decide)
theorem zq_latin (b a v : Nat) : zq_K mJ0_isLatin1_aae02 0 b a v [.ref a] (some (.int 1)) := by
  refine zq_K.of (by decide +kernel) (by show _ ≤ _; first | decide | exact Nat.le_of_ble_eq_true rfl) (lv := [(0, .ref a)]) rfl ?_
  intro p l e s m args below meth c ls C hl
  have hts := C.2.2.2.2.2.1
  obtain ⟨h1, h2, h3, h4, h5, h6⟩ := C.2.2.2.2.2.2.1
  have hS := C.2.2.2.2.2.2.2.2
  refine va_gets C.1 C.2.1 h5 hS C.2.2.2.2.1 (hts _ w_197) (fun _ h => h) dJ0_isLatin1_aae02_0 ?_
  refine lv_if_eq (pc := 3) (tgt := 17) C.1 C.2.1 dJ0_isLatin1_aae02_3 (by decide) (fun h => absurd h (by decide)) (fun _ => ?_)
  refine lv_aload_n (pc := 6) C.1 C.2.1 dJ0_isLatin1_aae02_6 rfl (lv_at hl 0 rfl) ?_
  refine vk_getf (pc := 7) C.1 C.2.1 h2 hS C.2.2.2.2.1 (hts _ w_2209) (fun _ h => h) dJ0_isLatin1_aae02_7 ?_
  refine lv_if_ne (pc := 10) (tgt := 17) C.1 C.2.1 dJ0_isLatin1_aae02_10 (by decide) (fun h => absurd rfl h) (fun _ => ?_)
  refine lv_iconst (pc := 13) (v := 1) C.1 C.2.1 dJ0_isLatin1_aae02_13 (by decide) ?_
  refine lv_goto (pc := 14) (tgt := 18) C.1 C.2.1 dJ0_isLatin1_aae02_14 (by decide) ?_
  exact zq_ret (ty := .boolean) C dJ0_isLatin1_aae02_18 rfl (by decide)
theorem lkq_335 : zq_LV "java/lang/String" 335 mJ0_coder_7d493 0 := ⟨⟨w_193, w_156, w_196, ⟨by decide, by decide, by decide +kernel⟩, by decide⟩, w_194, w_195⟩
theorem lkq_492 : zq_LV "java/lang/String" 492 mJ0_isLatin1_aae02 0 := ⟨⟨w_203, w_156, w_206, ⟨by decide, by decide, by decide +kernel⟩, by decide⟩, w_204, w_205⟩
theorem lkq_495 : z_LS "java/lang/String" 495 mJ1_charAt_3b067 2 := ⟨⟨w_207, w_157, w_209, ⟨by decide, by decide, by decide +kernel⟩, by decide⟩, w_208⟩
theorem lkq_9 : z_LS "java/lang/StringLatin1" 9 mJ0_checkIndex_df160 2 := ⟨⟨w_210, w_156, w_212, ⟨by decide, by decide, by decide +kernel⟩, by decide⟩, w_211⟩
theorem lkq_1059 : z_LS "java/lang/String" 1059 mJ3_checkIndex_8e157 3 := ⟨⟨w_215, w_158, w_217, ⟨by decide, by decide, by decide +kernel⟩, by decide⟩, w_216⟩
theorem lkq_24 : zq_LV "DearLetters$Text" 24 mJ0_length_8abf5 0 := ⟨⟨w_189, w_156, w_192, ⟨by decide, by decide, by decide +kernel⟩, by decide⟩, w_190, w_191⟩
theorem lkq_30 : zq_LV "DearLetters$Text" 30 mJ0_charAt_5068e 1 := ⟨⟨w_199, w_156, w_202, ⟨by decide, by decide, by decide +kernel⟩, by decide⟩, w_200, w_201⟩
theorem zq_length (b a v : Nat) : zq_K mJ0_length_8abf5 1 b a v [.ref a] (some (.int 179)) := by
  refine zq_K.of (by decide +kernel) (by show _ ≤ _; first | decide | exact Nat.le_of_ble_eq_true rfl) (lv := [(0, .ref a)]) rfl ?_
  intro p l e s m args below meth c ls C hl
  have hts := C.2.2.2.2.2.1
  obtain ⟨h1, h2, h3, h4, h5, h6⟩ := C.2.2.2.2.2.2.1
  have hS := C.2.2.2.2.2.2.2.2
  refine lv_aload_n (pc := 0) C.1 C.2.1 dJ0_length_8abf5_0 rfl (lv_at hl 0 rfl) ?_
  refine vk_getf (pc := 1) C.1 C.2.1 h3 hS C.2.2.2.2.1 (hts _ w_2208) (fun _ h => h) dJ0_length_8abf5_1 ?_
  refine va_tlen (pc := 4) (v := 179) C.1 C.2.1 h4 hS (by decide) dJ0_length_8abf5_4 ?_
  refine lv_aload_n (pc := 5) C.1 C.2.1 dJ0_length_8abf5_5 rfl (lv_at hl 0 rfl) ?_
  refine zq_callV (pc := 6) (as := []) (st := [.int 179]) C hl dJ0_length_8abf5_6 lkq_335 (zq_coder b a v) (by decide) (by decide) (by decide) rfl (by decide) rfl (fun locs C => ?_)
  refine lv_ishr (pc := 9) (x := 179) (y := 0) C.1 C.2.1 dJ0_length_8abf5_9 ?_
  exact zq_ret (ty := .int) C dJ0_length_8abf5_10 rfl rfl
theorem zq_check3 (b a v : Nat) {i n : Nat} (w : Value) (hw : w = .null ∨ ∃ t, w = .ref t) (hi : i < n) (hn : n < 2 ^ 31) : zq_K mJ3_checkIndex_8e157 0 b a v [.int (nI i), .int (nI n), w] (some (.int (nI i))) := by
  have hc : w.category = 1 := by rcases hw with rfl | ⟨t, rfl⟩ <;> rfl
  refine zq_K.of (by decide +kernel) (by rcases hw with rfl | ⟨t, rfl⟩ <;> exact Nat.le_of_ble_eq_true rfl) (lv := [(0, .int (nI i)), (1, .int (nI n)), (2, w)]) (by rcases hw with rfl | ⟨t, rfl⟩ <;> rfl) ?_
  intro p l e s m args below meth c ls C hl
  refine lv_iload_n (pc := 0) C.1 C.2.1 dJ3_checkIndex_8e157_0 rfl (lv_at hl 0 rfl) ?_
  refine lv_if_lt (pc := 1) (tgt := 9) C.1 C.2.1 dJ3_checkIndex_8e157_1 (by decide) (fun h => absurd h (nI_pos (by omega))) (fun _ => ?_)
  refine lv_iload_n (pc := 4) C.1 C.2.1 dJ3_checkIndex_8e157_4 rfl (lv_at hl 0 rfl) ?_
  refine lv_iload_n (pc := 5) C.1 C.2.1 dJ3_checkIndex_8e157_5 rfl (lv_at hl 1 rfl) ?_
  refine lv_icmp_lt (pc := 6) (tgt := 16) C.1 C.2.1 dJ3_checkIndex_8e157_6 (by decide) (fun _ => ?_) (fun h => absurd (nI_lt hi hn) h)
  refine lv_iload_n (pc := 16) C.1 C.2.1 dJ3_checkIndex_8e157_16 rfl (lv_at hl 0 rfl) ?_
  exact zq_ret (ty := .int) C dJ3_checkIndex_8e157_17 rfl rfl
theorem zq_check (b a v : Nat) {i n : Nat} (hi : i < n) (hn : n < 2 ^ 31) : zq_K mJ0_checkIndex_df160 1 b a v [.int (nI i), .int (nI n)] none := by
  refine zq_K.of (by decide +kernel) (by exact Nat.le_of_ble_eq_true rfl) (lv := [(0, .int (nI i)), (1, .int (nI n))]) rfl ?_
  intro p l e s m args below meth c ls C hl
  have hts := C.2.2.2.2.2.1
  obtain ⟨h1, h2, h3, h4, h5, h6⟩ := C.2.2.2.2.2.2.1
  have hS := C.2.2.2.2.2.2.2.2
  obtain ⟨w, hw, hz⟩ : ∃ w : Value, (w = .null ∨ ∃ t, w = .ref t) ∧ va_Z "jdk/internal/util/Preconditions" "SIOOBE_FORMATTER" "Ljava/util/function/BiFunction;" w (z_A b) s s.heap := by
    rcases h6 with h | ⟨t, h⟩
    · exact ⟨.null, Or.inl rfl, h⟩
    · exact ⟨.ref t, Or.inr ⟨t, rfl⟩, h⟩
  refine lv_iload_n (pc := 0) C.1 C.2.1 dJ0_checkIndex_df160_0 rfl (lv_at hl 0 rfl) ?_
  refine lv_iload_n (pc := 1) C.1 C.2.1 dJ0_checkIndex_df160_1 rfl (lv_at hl 1 rfl) ?_
  refine va_gets (pc := 2) C.1 C.2.1 hz hS C.2.2.2.2.1 (hts _ w_213) (fun _ h => h) dJ0_checkIndex_df160_2 ?_
  refine zq_callS (pc := 5) (as := [.int (nI i), .int (nI n), w]) (st := []) C hl dJ0_checkIndex_df160_5 lkq_1059 (zq_check3 b a v w hw hi hn) (by decide) (by decide) (by decide) rfl (by decide) rfl (fun locs C => ?_)
  refine lv_pop (pc := 8) C.1 C.2.1 dJ0_checkIndex_df160_8 rfl ?_
  exact W.vret C.1 C.2.1 C.2.2.1 (fun t ht hw => ⟨rfl, ht⟩) C.2.2.2.2.2.2.2.2.2.2 dJ0_checkIndex_df160_9 C.2.2.2.2.2.2.2.1
/-- the chars are letters and blanks -/
theorem zs_ok : ∀ i, i < 179 → ((zs_by.getD i 0 &&& 255).toUInt32 % 65536).toInt32 = zs_by.getD i 0 ∧ narrow .char (.int (zs_by.getD i 0)) = .int (zs_by.getD i 0) := by decide +kernel
theorem zq_latinAt (b a v : Nat) {i : Nat} (hi : i < 179) : zq_K mJ1_charAt_3b067 2 b a v [.ref v, .int (nI i)] (some (.int (zs_by.getD i 0))) := by
  refine zq_K.of (by decide +kernel) (by exact Nat.le_of_ble_eq_true rfl) (lv := [(0, .ref v), (1, .int (nI i))]) rfl ?_
  intro p l e s m args below meth c ls C hl
  have hts := C.2.2.2.2.2.1
  obtain ⟨h1, h2, h3, h4, h5, h6⟩ := C.2.2.2.2.2.2.1
  have hS := C.2.2.2.2.2.2.2.2
  refine lv_iload_n (pc := 0) C.1 C.2.1 dJ1_charAt_3b067_0 rfl (lv_at hl 1 rfl) ?_
  refine lv_aload_n (pc := 1) C.1 C.2.1 dJ1_charAt_3b067_1 rfl (lv_at hl 0 rfl) ?_
  refine va_tlen (pc := 2) (v := nI 179) C.1 C.2.1 h4 hS rfl dJ1_charAt_3b067_2 ?_
  refine zq_callS (pc := 3) (as := [.int (nI i), .int (nI 179)]) (st := []) C hl dJ1_charAt_3b067_3 lkq_9 (zq_check b a v hi (by decide)) (by decide) (by decide) (by decide) rfl (by decide) rfl (fun locs C => ?_)
  have hS := C.2.2.2.2.2.2.2.2
  refine lv_aload_n (pc := 6) C.1 C.2.1 dJ1_charAt_3b067_6 rfl (lv_at hl 0 rfl) ?_
  refine lv_iload_n (pc := 7) C.1 C.2.1 dJ1_charAt_3b067_7 rfl (lv_at hl 1 rfl) ?_
  refine va_tb (pc := 8) (v := .int (zs_by.getD i 0)) C.1 C.2.1 h4 hS (vp_in_nI hi (by decide)) (by rw [nI_clamp (by omega)]) dJ1_charAt_3b067_8 ?_
  refine lv_sipush (pc := 9) (v := 255) C.1 C.2.1 dJ1_charAt_3b067_9 (by decide) ?_
  refine lv_iand (pc := 12) C.1 C.2.1 dJ1_charAt_3b067_12 ?_
  refine lv_i2c (pc := 13) (v := zs_by.getD i 0) C.1 C.2.1 dJ1_charAt_3b067_13 (zs_ok i hi).1 ?_
  exact zq_ret (ty := .char) C dJ1_charAt_3b067_14 rfl (zs_ok i hi).2
theorem zq_charAt (b a v : Nat) {i : Nat} (hi : i < 179) : zq_K mJ0_charAt_5068e 3 b a v [.ref a, .int (nI i)] (some (.int (zs_by.getD i 0))) := by
  refine zq_K.of (by decide +kernel) (by exact Nat.le_of_ble_eq_true rfl) (lv := [(0, .ref a), (1, .int (nI i))]) rfl ?_
  intro p l e s m args below meth c ls C hl
  have hts := C.2.2.2.2.2.1
  obtain ⟨h1, h2, h3, h4, h5, h6⟩ := C.2.2.2.2.2.2.1
  refine lv_aload_n (pc := 0) C.1 C.2.1 dJ0_charAt_5068e_0 rfl (lv_at hl 0 rfl) ?_
  refine zq_callV (pc := 1) (as := []) (st := []) C hl dJ0_charAt_5068e_1 lkq_492 (zq_latin b a v) (by decide) (by decide) (by decide) rfl (by decide) rfl (fun locs C => ?_)
  have hS := C.2.2.2.2.2.2.2.2
  refine lv_if_eq (pc := 4) (x := 1) (tgt := 16) C.1 C.2.1 dJ0_charAt_5068e_4 (by decide) (fun h => absurd h (by decide)) (fun _ => ?_)
  refine lv_aload_n (pc := 7) C.1 C.2.1 dJ0_charAt_5068e_7 rfl (lv_at hl 0 rfl) ?_
  refine vk_getf (pc := 8) C.1 C.2.1 h3 hS C.2.2.2.2.1 (hts _ w_2208) (fun _ h => h) dJ0_charAt_5068e_8 ?_
  refine lv_iload_n (pc := 11) C.1 C.2.1 dJ0_charAt_5068e_11 rfl (lv_at hl 1 rfl) ?_
  refine zq_callS (pc := 12) (as := [.ref v, .int (nI i)]) (st := []) C hl dJ0_charAt_5068e_12 lkq_495 (zq_latinAt b a v hi) (by decide) (by decide) (by decide) rfl (by decide) rfl (fun locs C => ?_)
  exact zq_ret (ty := .char) C dJ0_charAt_5068e_15 rfl (zs_ok i hi).2
/-! in the class' own methods: 'ldc; length()' and 'ldc; i; charAt(i)' -/
section ZT
variable {Y : z_Y} {d mc ms : Nat} {rv : Option Value} {M' M : z_M} {pc cs sl : Nat} {lv lv' : List (Nat × Value)} {st : List Value}
theorem zq_ofC {p : Program} {s : State} {m : MethodId} {args : Array Value} {meth : Method} {c : Code} {b a v : Nat} {D : va_G} {cA : Nat → ClassId} {H : Heap} {locs : List Loc} (C : z_Cx Y p s m args meth c b D cA) (hs : zq_S b a v s) (hS : va_S (z_A b) s.heap H locs) : zq_Cx Y p s m args meth c b a v H locs :=
  ⟨C.1, C.2.1, C.2.2.1, C.2.2.2.1, C.2.2.2.2.1, C.2.2.2.2.2.1, hs, C.2.2.2.2.2.2.2.2.1, hS⟩
theorem zt_len (hown : Y.1.cls = "DearLetters$Text") (hd : decode Y.2.1 pc = .ok (.ldc 22, 2)) (hd2 : decode Y.2.1 (pc + 2) = .ok (.invokevirtual 24, 3)) (hdd : 2 ≤ d) (hcs : cs ≤ mc) (hsl : sl ≤ ms) (hst : (st.map (fun v => v.category)).sum ≤ 8) (kk : z_G Y d mc ms rv M' (pc + 5) lv (.int 179 :: st) cs sl M) : z_G Y d mc ms rv M' pc lv st cs sl M := by
  intro p l e s m args below meth c b D cA H ls locs C hW hS hl
  obtain ⟨a, v, hr, hs⟩ := zq_E C.2.2.2.2.2.2.2.1
  have hcat : ((st.map (z_v b)).map (fun v => v.category)).sum ≤ 8 := by
    have : (st.map (z_v b)).map (fun v => v.category) = st.map (fun v => v.category) := by rw [List.map_map]; exact List.map_congr_left (fun v _ => z_v_cat b v)
    rw [this]; exact hst
  refine va_ldcS C.1 C.2.1 (own := "DearLetters$Text") (hown ▸ C.2.2.2.2.1) hr hd ?_
  refine zq_callV (Y := Y) (lv := lv.map (z_e b)) (as := []) (st := st.map (z_v b)) (zq_ofC C hs hS) hl hd2 (hown ▸ lkq_24) (zq_length b a v) hdd hcs hsl rfl hcat rfl (fun locs' C' => ?_)
  exact kk p l e s m args below meth c b D cA H ls locs' C hW C'.2.2.2.2.2.2.2.2 hl
theorem zt_char {i : Nat} {j : Fin 4} {k j' : Nat} (hown : Y.1.cls = "DearLetters$Text") (hd : decode Y.2.1 pc = .ok (.ldc 22, 2)) (hd1 : decode Y.2.1 (pc + 2) = .ok (.iload_n j, 1)) (hj : (j : Nat) = j') (hk : lv[k]? = some (j', .int (nI i))) (hd2 : decode Y.2.1 (pc + 3) = .ok (.invokevirtual 30, 3)) (hi : i < 179) (hdd : 4 ≤ d) (hcs : cs ≤ mc) (hsl : sl ≤ ms) (hst : (st.map (fun v => v.category)).sum ≤ 8) (kk : z_G Y d mc ms rv M' (pc + 6) lv (.int (zs_by.getD i 0) :: st) cs sl M) : z_G Y d mc ms rv M' pc lv st cs sl M := by
  intro p l e s m args below meth c b D cA H ls locs C hW hS hl
  obtain ⟨a, v, hr, hs⟩ := zq_E C.2.2.2.2.2.2.2.1
  have hcat : ((st.map (z_v b)).map (fun v => v.category)).sum ≤ 8 := by
    have : (st.map (z_v b)).map (fun v => v.category) = st.map (fun v => v.category) := by rw [List.map_map]; exact List.map_congr_left (fun v _ => z_v_cat b v)
    rw [this]; exact hst
  refine va_ldcS C.1 C.2.1 (own := "DearLetters$Text") (hown ▸ C.2.2.2.2.1) hr hd ?_
  refine lv_iload_n C.1 C.2.1 hd1 hj (z_lvat hl hk) ?_
  refine zq_callV (Y := Y) (lv := lv.map (z_e b)) (as := [.int (nI i)]) (st := st.map (z_v b)) (zq_ofC C hs hS) hl hd2 (hown ▸ lkq_30) (zq_charAt b a v hi) hdd hcs hsl rfl hcat rfl (fun locs' C' => ?_)
  exact kk p l e s m args below meth c b D cA H ls locs' C hW C'.2.2.2.2.2.2.2.2 hl
end ZT
