/-! the law's own rows -/
/-- its frame: the script, the class' object, the reference's, how many ints are read -/
def l_lv (b0 b i : Nat) : List (Nat × Value) := [(0, .ref b0), (1, .ref b), (2, .ref (b + 253)), (3, .int (nI i))]
def l_C (p : Program) (s : State) (m : MethodId) (meth : Method) (c : Code) (b0 L : Nat) (xs : Nat → Int32) (D : va_G) (cA : Nat → ClassId) : Prop := lw_At p s m meth c b0 L xs ∧ va_K D vwCl (z_tys cA) s ∧ z_E s.heap.size s
abbrev l_W (p : Program) (l : Launch) (e : Env) (s : State) (m : MethodId) (below : List Frame) (meth : Method) (c : Code) (b0 : Nat) (H : Heap) (locs : List Loc) (pc : Nat) (ls : Array Slot) (st : List Value) : Prop := W p l e room_1 s m #[Value.ref b0] below meth c H locs 334 22551 (lw_Z below #[Value.ref b0] s) (F0 m pc ls st)
theorem l_cmp (r : Int64) : lg_cmp r r = 0 := by
  unfold lg_cmp
  rw [if_neg (Int64.lt_irrefl), if_pos rfl]
theorem z_mm_swap (μ ν : z_S) : z_mm true μ ν = z_mm false ν μ := by
  have h : ∀ o, z_own true o = true ↔ ¬ z_own false o = true := fun o => by
    unfold z_own
    cases decide (o < 253) <;> simp
  unfold z_mm
  refine Prod.ext rfl (Prod.ext ?_ (Prod.ext ?_ rfl))
  · funext o j
    show (if z_own true o = true then μ.1 o j else ν.1 o j) = if z_own false o = true then ν.1 o j else μ.1 o j
    by_cases q : z_own false o = true
    · rw [if_pos q, if_neg (fun z => (h o).mp z q)]
    · rw [if_neg q, if_pos ((h o).mpr q)]
  · funext o j
    show (if z_own true o = true then μ.2.1 o j else ν.2.1 o j) = if z_own false o = true then ν.2.1 o j else μ.2.1 o j
    by_cases q : z_own false o = true
    · rw [if_pos q, if_neg (fun z => (h o).mp z q)]
    · rw [if_neg q, if_pos ((h o).mpr q)]
theorem l_swap {b : Nat} {D : va_G} {cA : Nat → ClassId} {μ ν : z_S} {H : Heap} (h : z_Wd b D cA (z_mm true μ ν) H) : z_Wd b D cA (z_mm false ν μ) H := by
  rw [← z_mm_swap]; exact h
theorem l_swap2 {b : Nat} {D : va_G} {cA : Nat → ClassId} {μ ν : z_S} {H : Heap} (h : z_Wd b D cA (z_mm false ν μ) H) : z_Wd b D cA (z_mm true μ ν) H := by
  rw [z_mm_swap]; exact h
section LR
variable {p : Program} {l : Launch} {e : Env} {s : State} {m : MethodId} {below : List Frame} {meth : Method} {c : Code} {b0 L i : Nat} {xs : Nat → Int32} {D : va_G} {cA : Nat → ClassId} {H : Heap} {locs : List Loc} {ls : Array Slot} {pc : Nat} {st : List Value}
theorem l_tbl (C : l_C p s m meth c b0 L xs D cA) : ∀ w ∈ z_tbl, w.before #[Value.ref b0] s = true := fun w hw => C.1.2.2.2.2.2.1 w (List.mem_filter.mp hw).1
/-- the k-th int behind the one that tells the call -/
theorem l_arg {k : Nat} {n : Int} (C : l_C p s m meth c b0 L xs D cA) (hS : va_S (z_A s.heap.size) s.heap H locs) (hl : lv_has ls 4 (l_lv b0 s.heap.size i)) (hi : i + 6 ≤ L) (hL : L ≤ 3072) (hk : k < 6) (hn : Int32.ofInt n = nI k) (hd0 : decode code pc = .ok (.aload_n 0, 1)) (hd1 : decode code (pc + 1) = .ok (.iload_n 3, 1)) (hd2 : decode code (pc + 2) = .ok (.iconst n, 1)) (hd3 : decode code (pc + 3) = .ok (.iadd, 1)) (hd4 : decode code (pc + 4) = .ok (.iaload, 1)) (kk : l_W p l e s m below meth c b0 H locs (pc + 5) ls (.int (xs (i + k)) :: st)) : l_W p l e s m below meth c b0 H locs pc ls st := by
  obtain ⟨hx, hb, hr, hml, hown, hts, hX, hbl, hlocks, hgv⟩ := C.1
  have hbA : ¬ z_A s.heap.size b0 := Nat.not_le.mpr hbl
  refine lv_aload_n hx hb hd0 rfl (lv_at hl 0 rfl) ?_
  refine lv_iload_n hx hb hd1 rfl (lv_at hl 3 rfl) ?_
  refine lv_iconst hx hb hd2 hn ?_
  refine lv_iadd hx hb hd3 ?_
  rw [nI_add]
  refine va_sld hx hb hX hbl hbA hS (vp_in_nI (by omega) (by omega)) hd4 ?_
  rw [nI_clamp (by omega)]
  exact kk
theorem l_call {idx o n ci d' : Nat} {as : List Value} {Y' : z_Y} {r : Option Value} {M M1 : z_M} {st0 : List Value} {lv : List (Nat × Value)} (C : l_C p s m meth c b0 L xs D cA) (hW : z_Wd s.heap.size D cA M H) (hS : va_S (z_A s.heap.size) s.heap H locs) (hl : lv_has ls 4 lv) (hd : decode code pc = .ok (.invokevirtual idx, 3)) (hL : z_LV "DearLettersLaw" idx ci Y' n) (hK : z_K Y' d' 0 0 (.ref o :: as) M r M1) (hk : (z_kind o).1 = ci) (ho : o < M.1) (hdd : d' ≤ 1200) (hn : as.length = n) (hst : (st.map (fun v => v.category)).sum ≤ 8) (he : (as.map (z_v s.heap.size)).reverse ++ .ref (s.heap.size + o) :: st = st0)
    (kk : ∀ (H1 : Heap) (locs1 : List Loc), z_Wd s.heap.size D cA M1 H1 → va_S (z_A s.heap.size) s.heap H1 locs1 → l_W p l e s m below meth c b0 H1 locs1 (pc + 3) ls ((r.map (z_v s.heap.size)).toList ++ st)) : l_W p l e s m below meth c b0 H locs pc ls st0 := by
  have hts := l_tbl C
  obtain ⟨⟨hx, hb, hr, hml, hown, hts0, hX, hbl, hlocks, hgv⟩, hKn, hE⟩ := C
  obtain ⟨hB, h13, hi, hs⟩ := hL
  subst hk
  obtain ⟨cell, q1, q2, q3, q4⟩ := (hW.2.1 o ho).1 h13
  obtain ⟨hS', hfc, kC, hkC, hkind⟩ := hKn.1 _ _ (z_cl _ h13)
  have hcb : CallB room_1 s #[Value.ref b0] "DearLettersLaw" idx Y'.1 Y'.2.1 Y'.2.2.1 Y'.2.2.2 (z_w Y') (z_rm d' 0 0) 0 0 n := callB_of n hts (z_w_good Y' hB.2.2.1) rfl rfl rfl (hts _ hB.2.1) (hts _ hB.1) hB.2.2.2.1 ⟨by show d' + 2 + 1 ≤ 2048; omega, by have := hB.2.2.2.2; show 8 + (Y'.2.2.1 + 11) + 64 * (d' + 2) ≤ 84000; omega⟩
  intro T hT X
  obtain ⟨v, st₀, t, T', Lc, h0, X', hLc, e1, e2, ⟨hv, hW1, hz, hkk⟩, hstp⟩ := va_runV (b := s.heap.size + o) (As := as.map (z_v s.heap.size)) (rest := st) (g := F0 m pc ls st0) ⟨hx, hb, hml, hown, hts⟩ (hK l s.heap.size D cA) ⟨hcb, hts _ hi, hts _ hs⟩ ⟨z_blind _ D cA _ M, ⟨cell, q1, by rw [q3]; rfl, by rw [q2]; exact hfc⟩, fun U hU hw => ⟨rfl, by rw [hU]; exact hW, va_K.moved hw.alike hKn, z_E.moved hw hU hS hE⟩⟩ rfl (by rw [List.length_map]; exact hn) hl.1 (by show st0 = _; rw [← he]) (lv_room hst) hd ⟨by show 334 + 0 ≤ 600000; decide, by show 22551 + 0 ≤ 7302250; decide⟩ T hT X
  rw [h0] at hz hkk
  have hv : v = r.map (z_v s.heap.size) := by cases hv; rfl
  subst hv
  have hS1 : va_S (z_A s.heap.size) s.heap T'.heap (locs ++ Lc) := ⟨Nat.le_trans hS.1 (by rw [e1]; exact hz), fun q h1 h2 => by rw [e1, hkk q (Nat.lt_of_lt_of_le h1 hS.1) h2]; exact hS.2.1 q h1 h2, fun q hq => by
      rcases List.mem_append.mp hq with h | h
      · exact hS.2.2 q h
      · exact hLc q h⟩
  obtain ⟨t2, a1, b1⟩ := kk T'.heap (locs ++ Lc) (by rw [e1]; exact hW1) hS1 T' rfl X'
  exact ⟨t2, hstp t2 a1, b1⟩
theorem l_callI {idx o n ci d' : Nat} {as : List Value} {Y' : z_Y} {x : Int32} {M M1 : z_M} {st0 : List Value} {lv : List (Nat × Value)} (C : l_C p s m meth c b0 L xs D cA) (hW : z_Wd s.heap.size D cA M H) (hS : va_S (z_A s.heap.size) s.heap H locs) (hl : lv_has ls 4 lv) (hd : decode code pc = .ok (.invokevirtual idx, 3)) (hL : z_LV "DearLettersLaw" idx ci Y' n) (hK : z_K Y' d' 0 0 (.ref o :: as) M (some (.int x)) M1) (hk : (z_kind o).1 = ci) (ho : o < M.1) (hdd : d' ≤ 1200) (hn : as.length = n) (hst : (st.map (fun v => v.category)).sum ≤ 8) (he : (as.map (z_v s.heap.size)).reverse ++ .ref (s.heap.size + o) :: st = st0)
    (kk : ∀ (H1 : Heap) (locs1 : List Loc), z_Wd s.heap.size D cA M1 H1 → va_S (z_A s.heap.size) s.heap H1 locs1 → l_W p l e s m below meth c b0 H1 locs1 (pc + 3) ls (.int x :: st)) : l_W p l e s m below meth c b0 H locs pc ls st0 :=
  l_call C hW hS hl hd hL hK hk ho hdd hn hst he kk
theorem l_callJ {idx o n ci d' : Nat} {as : List Value} {Y' : z_Y} {x : Int64} {M M1 : z_M} {st0 : List Value} {lv : List (Nat × Value)} (C : l_C p s m meth c b0 L xs D cA) (hW : z_Wd s.heap.size D cA M H) (hS : va_S (z_A s.heap.size) s.heap H locs) (hl : lv_has ls 4 lv) (hd : decode code pc = .ok (.invokevirtual idx, 3)) (hL : z_LV "DearLettersLaw" idx ci Y' n) (hK : z_K Y' d' 0 0 (.ref o :: as) M (some (.long x)) M1) (hk : (z_kind o).1 = ci) (ho : o < M.1) (hdd : d' ≤ 1200) (hn : as.length = n) (hst : (st.map (fun v => v.category)).sum ≤ 8) (he : (as.map (z_v s.heap.size)).reverse ++ .ref (s.heap.size + o) :: st = st0)
    (kk : ∀ (H1 : Heap) (locs1 : List Loc), z_Wd s.heap.size D cA M1 H1 → va_S (z_A s.heap.size) s.heap H1 locs1 → l_W p l e s m below meth c b0 H1 locs1 (pc + 3) ls (.long x :: st)) : l_W p l e s m below meth c b0 H locs pc ls st0 :=
  l_call C hW hS hl hd hL hK hk ho hdd hn hst he kk
end LR
