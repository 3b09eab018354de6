theorem z_E.same {b : Nat} {u U : State} (hv : u.vm = U.vm) (hh : U.heap = u.heap) (h : z_E b u) : z_E b U := by
  obtain ⟨a1, a2, a3, a4, a5, a6, a7, t, hz, ht, ho, hi, hj, hc, hq, aK, aV, hr, hw⟩ := h
  have hal : u.vm.Alike U.vm := by rw [hv]; exact Vm.Alike.refl _
  refine ⟨a1.same rfl hv, a2.same rfl hv, a3.same rfl hv, a4.same rfl hv, a5.same rfl hv, a6.same rfl hv, a7.same rfl hv, t, ?_, ?_, ho.moved hal, over_moved hal hi, over_moved hal hj, ?_, ?_, aK, aV, hr.same hv.symm, ?_⟩
  · rw [hh]; exact hz.moved hal
  · rw [hh]; exact ht.moved hal
  · rw [hh]; exact hc.moved hal
  · rw [hh]; exact hq.moved hal
  · rw [hh]; exact hw.moved hal
theorem z_blind (b : Nat) (D : va_G) (cA : Nat → ClassId) (as : List Value) (M : z_M) : FrameBlind (z_Pc b D cA as M) := fun a U g mk q => ⟨q.1, q.2.1, va_K.moved (u := U) (U := U.calling g mk a) (Vm.Alike.refl U.vm) q.2.2.1, z_E.same (u := U) (U := U.calling g mk a) rfl rfl q.2.2.2⟩
def z_LB (own : String) (idx : Nat) (Y' : z_Y) (n : Nat) : Prop := Cond.methodLink own idx Y'.1 ∈ z_tbl ∧ Cond.initialized Y'.1.cls ∈ z_tbl ∧ Cond.code Y'.1 Y'.2.1 Y'.2.2.1 Y'.2.2.2 ∈ z_tbl ∧ (Y'.1.cls ≠ "java/lang/invoke/MethodHandle" ∧ Y'.1.cls ≠ "java/lang/invoke/VarHandle" ∧ (parseMethodDescriptor Y'.1.desc).map (fun d => d.parameters.length) = some n) ∧ Y'.2.2.1 ≤ 40
def z_LV (own : String) (idx ci : Nat) (Y' : z_Y) (n : Nat) : Prop := z_LB own idx Y' n ∧ ci < 13 ∧ Cond.instanceMethod Y'.1 ∈ z_tbl ∧ Cond.selects (z_C ci) Y'.1 Y'.1 ∈ z_tbl
def z_LS (own : String) (idx : Nat) (Y' : z_Y) (n : Nat) : Prop := z_LB own idx Y' n ∧ Cond.static Y'.1 ∈ z_tbl
def z_LI (own : String) (idx : Nat) (Y' : z_Y) (n : Nat) : Prop := z_LB own idx Y' n ∧ Y'.1.name = "<init>" ∧ Y'.2.2.2 = none ∧ Cond.instanceMethod Y'.1 ∈ z_tbl
theorem z_w_good (Y' : z_Y) (h : Cond.code Y'.1 Y'.2.1 Y'.2.2.1 Y'.2.2.2 ∈ z_tbl) : GoodIn z_tbl (z_w Y') := fun w hw => by
  rcases List.mem_cons.mp hw with rfl | hw
  · exact z_tbl_good _ h
  · exact z_tbl_good _ hw
section ZC
variable {Y : z_Y} {d mc ms : Nat} {rv : Option Value} {M' M : z_M} {pc cs sl : Nat} {lv lv' : List (Nat × Value)} {st : List Value}
theorem z_iret {x : Int32} (hd : decode Y.2.1 pc = .ok (.ireturn, 1)) (hr : Y.2.2.2 = some .int) (h1 : cs ≤ mc) (h2 : sl ≤ ms) : z_G Y d mc ms (some (.int x)) M pc lv [.int x] cs sl M :=
  fun p l e s m args below meth c b D cA H ls locs C hW hS hl => W.widen h1 h2 (W.iret C.1 C.2.1 (C.2.2.1.trans hr) (fun t ht hw => ⟨rfl, by rw [ht]; exact hW, hS.F ht⟩) hS.2.2 hd C.2.2.2.2.2.2.2.2.1)
theorem z_zret {x : Int32} (hd : decode Y.2.1 pc = .ok (.ireturn, 1)) (hr : Y.2.2.2 = some .boolean) (hx : narrow .boolean (.int x) = .int x) (h1 : cs ≤ mc) (h2 : sl ≤ ms) : z_G Y d mc ms (some (.int x)) M pc lv [.int x] cs sl M :=
  fun p l e s m args below meth c b D cA H ls locs C hW hS hl => W.widen h1 h2 (W.zret (ty := .boolean) C.1 C.2.1 (C.2.2.1.trans hr) hx (fun t ht hw => ⟨rfl, by rw [ht]; exact hW, hS.F ht⟩) hS.2.2 hd C.2.2.2.2.2.2.2.2.1)
theorem z_lret {x : Int64} (hd : decode Y.2.1 pc = .ok (.lreturn, 1)) (hr : Y.2.2.2 = some .long) (h1 : cs ≤ mc) (h2 : sl ≤ ms) : z_G Y d mc ms (some (.long x)) M pc lv [.long x] cs sl M :=
  fun p l e s m args below meth c b D cA H ls locs C hW hS hl => W.widen h1 h2 (W.lret C.1 C.2.1 (C.2.2.1.trans hr) (fun t ht hw => ⟨rfl, by rw [ht]; exact hW, hS.F ht⟩) hS.2.2 hd C.2.2.2.2.2.2.2.2.1)
theorem z_vret (hd : decode Y.2.1 pc = .ok (.return_, 1)) (hr : Y.2.2.2 = none) (h1 : cs ≤ mc) (h2 : sl ≤ ms) : z_G Y d mc ms none M pc lv [] cs sl M :=
  fun p l e s m args below meth c b D cA H ls locs C hW hS hl => W.widen h1 h2 (W.vret C.1 C.2.1 (C.2.2.1.trans hr) (fun t ht hw => ⟨rfl, by rw [ht]; exact hW, hS.F ht⟩) hS.2.2 hd C.2.2.2.2.2.2.2.2.1)
/-- behind a call -/
theorem z_after {p : Program} {l : Launch} {e : Env} {s : State} {m : MethodId} {args : Array Value} {below : List Frame} {meth : Method} {c : Code} {b : Nat} {D : va_G} {cA : Nat → ClassId} {H : Heap} {ls : Array Slot} {locs : List Loc} {mc' ms' : Nat} {r : Option Value} {M1 : z_M} {st0 : List Value} {a : Array Value} (C : z_Cx Y p s m args meth c b D cA) (hS : va_S (z_A b) s.heap H locs) (hl : lv_has ls Y.2.2.1 (lv.map (z_e b)))
    (hr : va_Run p l e (z_rm d mc ms) s m args below meth c H locs cs sl mc' ms' (F0 m pc ls st0) (st.map (z_v b)) (z_Q b D cA r M1 a) (z_A b)) (kk : z_G Y d mc ms rv M' (pc + 3) lv (r.toList ++ st) (cs + mc') (sl + ms') M1) : W p l e (z_rm d mc ms) s m args below meth c H locs cs sl (MQ below (z_Q b D cA rv M') args s mc ms (z_A b)) (F0 m pc ls st0) := by
  intro T hT X
  obtain ⟨v, st₀, t, T', L, h0, X', hL, e1, e2, ⟨hv, hW1, hz, hk⟩, hst⟩ := hr T hT X
  rw [h0] at hz hk
  have hv : v = r.map (z_v b) := by cases hv; rfl
  subst hv
  have hS1 : va_S (z_A b) s.heap T'.heap (locs ++ L) := ⟨Nat.le_trans hS.1 (by rw [e1]; exact hz), fun q h1 h2 => by rw [e1, hk q (Nat.lt_of_lt_of_le h1 hS.1) h2]; exact hS.2.1 q h1 h2, fun q hq => by
      rcases List.mem_append.mp hq with h | h
      · exact hS.2.2 q h
      · exact hL q h⟩
  obtain ⟨t2, a1, b1⟩ := kk p l e s m args below meth c b D cA T'.heap ls (locs ++ L) C (by rw [e1]; exact hW1) hS1 hl T' rfl X'
  refine ⟨t2, hst t2 ?_, b1⟩
  have he : (r.toList ++ st).map (z_v b) = (r.map (z_v b)).toList ++ st.map (z_v b) := by cases r <;> simp
  rw [he] at a1
  exact a1
theorem z_cb {own : String} {idx n d' mc' ms' : Nat} {Y' : z_Y} {s : State} {args : Array Value} (hts : ∀ w ∈ z_tbl, w.before args s = true) (hL : z_LB own idx Y' n) (hdd : d' + 1 ≤ d) : CallB (z_rm d mc ms) s args own idx Y'.1 Y'.2.1 Y'.2.2.1 Y'.2.2.2 (z_w Y') (z_rm d' mc' ms') mc' ms' n :=
  callB_of n hts (z_w_good Y' hL.2.2.1) rfl rfl rfl (hts _ hL.2.1) (hts _ hL.1) hL.2.2.2.1 ⟨by show d' + 2 + 1 ≤ d + 2; omega, by have := hL.2.2.2.2; show 8 + (Y'.2.2.1 + 11) + 64 * (d' + 2) ≤ 64 * (d + 2); omega⟩
theorem z_callV {idx o n ci d' mc' ms' : Nat} {as : List Value} {Y' : z_Y} {r : Option Value} {M1 : z_M} (hd : decode Y.2.1 pc = .ok (.invokevirtual idx, 3)) (hL : z_LV Y.1.cls idx ci Y' n) (hK : z_K Y' d' mc' ms' (.ref o :: as) M r M1) (hk : (z_kind o).1 = ci) (ho : o < M.1) (hdd : d' + 1 ≤ d) (hcs : cs + mc' ≤ mc) (hsl : sl + ms' ≤ ms) (hn : as.length = n) (hst : (st.map (fun v => v.category)).sum ≤ 8) {st0 : List Value} (he : as.reverse ++ .ref o :: st = st0)
    (kk : z_G Y d mc ms rv M' (pc + 3) lv (r.toList ++ st) (cs + mc') (sl + ms') M1) : z_G Y d mc ms rv M' pc lv st0 cs sl M := by
  intro p l e s m args below meth c b D cA H ls locs C hW hS hl
  obtain ⟨hB, h13, hi, hs⟩ := hL
  have hts := C.2.2.2.2.2.1
  subst hk
  obtain ⟨cell, q1, q2, q3, q4⟩ := (hW.2.1 o ho).1 h13
  obtain ⟨hS', hfc, kC, hkC, hkind⟩ := C.2.2.2.2.2.2.1.1 _ _ (z_cl _ h13)
  have hcat : ((st.map (z_v b)).map (fun v => v.category)).sum ≤ 8 := by
    have : (st.map (z_v b)).map (fun v => v.category) = st.map (fun v => v.category) := by rw [List.map_map]; exact List.map_congr_left (fun v _ => z_v_cat b v)
    rw [this]; exact hst
  refine z_after C hS hl (va_runV (b := b + o) (As := as.map (z_v b)) (rest := st.map (z_v b)) ⟨C.1, C.2.1, C.2.2.2.1, C.2.2.2.2.1, hts⟩ (hK l b D cA) ⟨z_cb hts hB hdd, hts _ hi, hts _ hs⟩ ⟨z_blind b D cA _ M, ⟨cell, q1, by rw [q3]; rfl, by rw [q2]; exact hfc⟩, fun U hU hw => ⟨rfl, by rw [hU]; exact hW, va_K.moved hw.alike C.2.2.2.2.2.2.1, z_E.moved hw hU hS C.2.2.2.2.2.2.2.1⟩⟩ rfl (by rw [List.length_map]; exact hn) hl.1 (by show List.map (z_v b) st0 = _; rw [← he, List.map_append, List.map_reverse]; rfl) (lv_room hcat) hd ⟨hcs, hsl⟩) kk
theorem z_callS {idx n d' mc' ms' : Nat} {as : List Value} {Y' : z_Y} {r : Option Value} {M1 : z_M} (hd : decode Y.2.1 pc = .ok (.invokestatic idx, 3)) (hL : z_LS Y.1.cls idx Y' n) (hK : z_K Y' d' mc' ms' as M r M1) (hdd : d' + 1 ≤ d) (hcs : cs + mc' ≤ mc) (hsl : sl + ms' ≤ ms) (hn : as.length = n) (hst : (st.map (fun v => v.category)).sum ≤ 8) {st0 : List Value} (he : as.reverse ++ st = st0)
    (kk : z_G Y d mc ms rv M' (pc + 3) lv (r.toList ++ st) (cs + mc') (sl + ms') M1) : z_G Y d mc ms rv M' pc lv st0 cs sl M := by
  intro p l e s m args below meth c b D cA H ls locs C hW hS hl
  obtain ⟨hB, hi⟩ := hL
  have hts := C.2.2.2.2.2.1
  have hcat : ((st.map (z_v b)).map (fun v => v.category)).sum ≤ 8 := by
    have : (st.map (z_v b)).map (fun v => v.category) = st.map (fun v => v.category) := by rw [List.map_map]; exact List.map_congr_left (fun v _ => z_v_cat b v)
    rw [this]; exact hst
  refine z_after C hS hl (va_runS (As := as.map (z_v b)) (rest := st.map (z_v b)) ⟨C.1, C.2.1, C.2.2.2.1, C.2.2.2.2.1, hts⟩ (hK l b D cA) ⟨z_cb hts hB hdd, hts _ hi⟩ ⟨z_blind b D cA _ M, fun U hU hw => ⟨rfl, by rw [hU]; exact hW, va_K.moved hw.alike C.2.2.2.2.2.2.1, z_E.moved hw hU hS C.2.2.2.2.2.2.2.1⟩⟩ rfl (by rw [List.length_map]; exact hn) hl.1 (by show List.map (z_v b) st0 = _; rw [← he, List.map_append, List.map_reverse]) (lv_room hcat) hd ⟨hcs, hsl⟩) kk
theorem z_callI {idx o n d' mc' ms' : Nat} {as : List Value} {Y' : z_Y} {r : Option Value} {M1 : z_M} (hd : decode Y.2.1 pc = .ok (.invokespecial idx, 3)) (hL : z_LI Y.1.cls idx Y' n) (hK : z_K Y' d' mc' ms' (.ref o :: as) M r M1) (hdd : d' + 1 ≤ d) (hcs : cs + mc' ≤ mc) (hsl : sl + ms' ≤ ms) (hn : as.length = n) (hst : (st.map (fun v => v.category)).sum ≤ 8) {st0 : List Value} (he : as.reverse ++ .ref o :: st = st0)
    (kk : z_G Y d mc ms rv M' (pc + 3) lv (r.toList ++ st) (cs + mc') (sl + ms') M1) : z_G Y d mc ms rv M' pc lv st0 cs sl M := by
  intro p l e s m args below meth c b D cA H ls locs C hW hS hl
  obtain ⟨hB, hnm, hrt, hi⟩ := hL
  have hts := C.2.2.2.2.2.1
  have hcat : ((st.map (z_v b)).map (fun v => v.category)).sum ≤ 8 := by
    have : (st.map (z_v b)).map (fun v => v.category) = st.map (fun v => v.category) := by rw [List.map_map]; exact List.map_congr_left (fun v _ => z_v_cat b v)
    rw [this]; exact hst
  have hB' := z_cb (mc := mc) (ms := ms) (mc' := mc') (ms' := ms') hts hB hdd
  rw [hrt] at hB'
  refine z_after C hS hl (va_runI (b := b + o) (As := as.map (z_v b)) (rest := st.map (z_v b)) ⟨C.1, C.2.1, C.2.2.2.1, C.2.2.2.2.1, hts⟩ (hK l b D cA) ⟨hB', hnm, hts _ hi⟩ ⟨z_blind b D cA _ M, fun U hU hw => ⟨rfl, by rw [hU]; exact hW, va_K.moved hw.alike C.2.2.2.2.2.2.1, z_E.moved hw hU hS C.2.2.2.2.2.2.2.1⟩⟩ rfl (by rw [List.length_map]; exact hn) hl.1 (by show List.map (z_v b) st0 = _; rw [← he, List.map_append, List.map_reverse]; rfl) (lv_room hcat) hd ⟨hcs, hsl⟩) kk
theorem z_tswIn {dflt lo hi : Int} {offs : Array Int} {len : Nat} {x : Int32} {off : Int} {tgt : Nat} (hd : decode Y.2.1 pc = .ok (.tableswitch dflt lo hi offs, len)) (h1 : ¬ x.toInt < lo) (h2 : ¬ hi < x.toInt) (ho : offs[(x.toInt - lo).toNat]? = some off) (ht : (pc : Int) + off = (tgt : Int)) (k : z_G Y d mc ms rv M' tgt lv st cs sl M) : z_G Y d mc ms rv M' pc lv (.int x :: st) cs sl M :=
  fun p l e s m args below meth c b D cA H ls locs C hW hS hl => lv_tableIn C.1 C.2.1 hd h1 h2 ho ht (k p l e s m args below meth c b D cA H ls locs C hW hS hl)
theorem z_tswOut {dflt lo hi : Int} {offs : Array Int} {len : Nat} {x : Int32} {tgt : Nat} (hd : decode Y.2.1 pc = .ok (.tableswitch dflt lo hi offs, len)) (h : x.toInt < lo ∨ hi < x.toInt) (ht : (pc : Int) + dflt = (tgt : Int)) (k : z_G Y d mc ms rv M' tgt lv st cs sl M) : z_G Y d mc ms rv M' pc lv (.int x :: st) cs sl M :=
  fun p l e s m args below meth c b D cA H ls locs C hW hS hl => lv_tableOut C.1 C.2.1 hd h ht (k p l e s m args below meth c b D cA H ls locs C hW hS hl)
theorem z_lsw {dflt : Int} {ps : Array (Int × Int)} {len : Nat} {x : Int32} {off : Int} {tgt : Nat} (hd : decode Y.2.1 pc = .ok (.lookupswitch dflt ps, len)) (hp : (ps.toList.zip (ps.toList.drop 1)).all (fun (a, next) => a.1 < next.1) = true) (ho : Op.lookupswitch.offset ps.toList dflt x.toInt = off) (ht : (pc : Int) + off = (tgt : Int)) (k : z_G Y d mc ms rv M' tgt lv st cs sl M) : z_G Y d mc ms rv M' pc lv (.int x :: st) cs sl M :=
  fun p l e s m args below meth c b D cA H ls locs C hW hS hl => lv_lookup C.1 C.2.1 hd hp ho ht (k p l e s m args below meth c b D cA H ls locs C hW hS hl)
end ZC
