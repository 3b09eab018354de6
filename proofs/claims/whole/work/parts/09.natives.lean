/-- a stretch of one row of ints goes into another -/
def z_cp (M : z_M) (o0 sp o1 dp n : Nat) : z_M := (M.1, fun a j => if a = o1 ∧ dp ≤ j ∧ j < dp + n then M.2.1 o0 (sp + (j - dp)) else M.2.1 a j, M.2.2.1, M.2.2.2)
/-- rows of ints that are lent to other rows: the world behind a change of one row of ints -/
theorem z_Wd.row {b : Nat} {D : va_G} {cA : Nat → ClassId} {M M1 : z_M} {H H1 : Heap} {o n : Nat} (h : z_Wd b D cA M H) (ho : o < M.1) (hk : z_kind o = (20, n)) (hn : M1.1 = M.1) (hI : ∀ a j, a ≠ o → M1.2.1 a j = M.2.1 a j) (hJ : M1.2.2.1 = M.2.2.1) (hR : M1.2.2.2 = M.2.2.2) (hz : H1.size = H.size) (hq : ∀ q, q ≠ b + o → H1[q]? = H[q]?) (hat : H1[b + o]? = some (arrV (cA 20) n (fun j => .int (M1.2.1 o j)))) : z_Wd b D cA M1 H1 := by
  refine ⟨by rw [hz, hn]; exact h.1, fun a ha => ?_, fun a ha j => ?_⟩
  · rw [hn] at ha
    by_cases hao : a = o
    · subst hao
      refine ⟨fun hc => absurd hc (by rw [hk]; show ¬ 20 < 13; decide), fun _ => ?_⟩
      rw [hk]
      exact hat
    · have hk' : H1[b + a]? = H[b + a]? := hq _ (by omega)
      have hv : ∀ j t, z_val b M1 a j t = z_val b M a j t := fun j t => by unfold z_val; rw [hI a j hao, hJ, hR]
      obtain ⟨g1, g2⟩ := h.2.1 a ha
      refine ⟨fun hc => ((g1 hc).kept hk').to (fun j _ => (hv j _).symm), fun hc => ?_⟩
      rw [hk', g2 hc]
      simp only [hv]
  · rw [hn] at ha
    rw [hI a j (by omega), hJ, hR]
    exact h.2.2 a ha j
section ZN
variable {Y : z_Y} {d mc ms : Nat} {rv : Option Value} {M' M : z_M} {pc cs sl : Nat} {lv lv' : List (Nat × Value)} {st : List Value}
def z_LC (own : String) (idx : Nat) : Prop := Cond.methodLink own idx arraycopyName ∈ z_tbl ∧ Cond.native arraycopyName ∈ z_tbl ∧ Cond.static arraycopyName ∈ z_tbl ∧ Cond.initialized "java/lang/System" ∈ z_tbl
theorem z_copy {idx o0 o1 n0 n1 : Nat} {sp dp n : Int32} (hd : decode Y.2.1 pc = .ok (.invokestatic idx, 3)) (hL : z_LC Y.1.cls idx) (hk0 : z_kind o0 = (20, n0)) (hk1 : z_kind o1 = (20, n1)) (ho0 : o0 < M.1) (ho1 : o1 < M.1) (h1 : ¬ sp < 0) (h2 : ¬ dp < 0) (h3 : ¬ n < 0) (h4 : sp.toNatClampNeg + n.toNatClampNeg ≤ n0) (h5 : dp.toNatClampNeg + n.toNatClampNeg ≤ n1) (hst : (st.map (fun v => v.category)).sum ≤ 8)
    (kk : z_G Y d mc ms rv M' (pc + 3) lv st cs sl (z_cp M o0 sp.toNatClampNeg o1 dp.toNatClampNeg n.toNatClampNeg)) : z_G Y d mc ms rv M' pc lv (.int n :: .int dp :: .ref o1 :: .int sp :: .ref o0 :: st) cs sl M := by
  intro p l e s m args below meth c b D cA H ls locs C hW hS hl
  have nn : ∀ z : Int32, ¬ z < 0 → z.toInt = (z.toNatClampNeg : Int) := by
    intro z hz
    have hz0 : (0 : Int) ≤ z.toInt := by
      have := Int32.not_lt.mp hz
      simpa using Int32.le_iff_toInt_le.mp this
    show z.toInt = ((z.toInt.toNat : Nat) : Int)
    omega
  have hts := C.2.2.2.2.2.1
  have hc0 : H[b + o0]? = some (arrV (cA 20) n0 (fun j => .int (M.2.1 o0 j))) := z_arr hW hk0 (by decide) ho0
  have hc1 : H[b + o1]? = some (arrV (cA 20) n1 (fun j => .int (M.2.1 o1 j))) := z_arr hW hk1 (by decide) ho1
  have hAr := z_aty C.2.2.2.2.2.2.1 (t := 20) (by decide) (by decide)
  obtain ⟨-, k0, hkk0, cm0, hkd0⟩ := hAr n0 (fun j => .int (M.2.1 o0 j))
  obtain ⟨-, k1, hkk1, cm1, hkd1⟩ := hAr n1 (fun j => .int (M.2.1 o1 j))
  have hcat : ((st.map (z_v b)).map (fun v => v.category)).sum ≤ 8 := by
    have : (st.map (z_v b)).map (fun v => v.category) = st.map (fun v => v.category) := by rw [List.map_map]; exact List.map_congr_left (fun v _ => z_v_cat b v)
    rw [this]; exact hst
  have hnw : nativeFrameWords "java/lang/System" "arraycopy" 5 + 11 ≤ 100 := by decide +kernel
  intro T hT X
  obtain ⟨vm', X', step⟩ := X.arraycopy C.1 C.2.2.2.2.1 (hts _ hL.1) (hts _ hL.2.1) (hts _ hL.2.2.1) (hts _ hL.2.2.2) (src := b + o0) (dst := b + o1) (cs := arrV (cA 20) n0 (fun j => .int (M.2.1 o0 j))) (cd := arrV (cA 20) n1 (fun j => .int (M.2.1 o1 j))) (srcPos := sp) (destPos := dp) (n := n) (by rw [hT]; exact hc0) (by rw [hT]; exact hc1)
    (fun _ h => by cases h) (fun _ h => by cases h) (fun h => by cases h) (fun h => by cases h) hkk0 hkk1 hkd0 hkd1 (by first | rfl | decide | simp [z_tA, refKind]) h1 h2 h3
    (by rw [nn sp h1, nn n h3, arrV_size]; omega)
    (by rw [nn dp h2, nn n h3, arrV_size]; omega)
    (fun vm₁ _ i hi => by
      have e : (arrV (cA 20) n0 (fun j => Value.int (M.2.1 o0 j))).slots.getD (sp.toNatClampNeg + i) .null = .int (M.2.1 o0 (sp.toNatClampNeg + i)) := by
        rw [Array.getD_eq_getD_getElem?, arrV_read _ _ (by omega)]
        rfl
      refine ⟨?_, ?_⟩
      · rw [e]; rfl
      · rw [e]; exact trivial)
    (g := F0 m pc ls (.int n :: .int dp :: .ref (b + o1) :: .int sp :: .ref (b + o0) :: st.map (z_v b))) rfl (by rw [C.2.2.2.1]; exact hl.1) (rest := st.map (z_v b)) rfl (by rw [C.2.1]; exact hd) (by show 1 ≤ d + 2; omega) (by show 2 * 0 + _ + _ ≤ 64 * (d + 2); omega)
  have e1 : copied (arrV (cA 20) n0 (fun j => .int (M.2.1 o0 j))) (arrV (cA 20) n1 (fun j => .int (M.2.1 o1 j))) sp dp n = arrV (cA 20) n1 (fun j => .int (va_cpy (M.2.1 o0) (M.2.1 o1) sp.toNatClampNeg dp.toNatClampNeg n.toNatClampNeg j)) := va_copied (fun z => .int z) (cA 20) (cA 20) (M.2.1 o0) (M.2.1 o1) h4
  rw [e1] at X' step
  have hlt : b + o1 < H.size := (Array.getElem?_eq_some_iff.mp hc1).1
  generalize hx : arrV (cA 20) n1 (fun j => Value.int (va_cpy (M.2.1 o0) (M.2.1 o1) sp.toNatClampNeg dp.toNatClampNeg n.toNatClampNeg j)) = x at X' step
  have hheap : ((T.setVm vm').setCell (b + o1) x).heap = H.setIfInBounds (b + o1) x := by rw [← hT]; rfl
  have oq : ∀ q : Nat, q ≠ b + o1 → (H.setIfInBounds (b + o1) x)[q]? = H[q]? := fun q hq => by simp [Array.getElem?_setIfInBounds, Ne.symm hq]
  have hW1 : z_Wd b D cA (z_cp M o0 sp.toNatClampNeg o1 dp.toNatClampNeg n.toNatClampNeg) (H.setIfInBounds (b + o1) x) := by
    refine hW.row ho1 hk1 rfl (fun a j ha => ?_) rfl rfl (by simp) oq ?_
    · show (if a = o1 ∧ _ ∧ _ then _ else _) = _
      rw [if_neg (fun q => ha q.1)]
    · rw [show (H.setIfInBounds (b + o1) x)[b + o1]? = some x by simp [Array.getElem?_setIfInBounds, hlt], ← hx]
      congr 2
      funext j
      congr 1
      show va_cpy _ _ _ _ _ _ = if o1 = o1 ∧ _ ∧ _ then _ else _
      unfold va_cpy
      by_cases hj : dp.toNatClampNeg ≤ j ∧ j < dp.toNatClampNeg + n.toNatClampNeg
      · rw [if_pos hj, if_pos ⟨rfl, hj⟩]
      · rw [if_neg hj, if_neg (fun q => hj q.2)]
  obtain ⟨t, a1, b1⟩ := kk p l e s m args below meth c b D cA (H.setIfInBounds (b + o1) x) ls _ C hW1 ⟨by simp; exact hS.1, fun q g1 g2 => by
      rw [oq q (fun e => g2 (by rw [e]; show b ≤ b + o1; omega))]
      exact hS.2.1 q g1 g2, fun q hq => by
      rcases List.mem_append.mp hq with h | h
      · exact hS.2.2 q h
      · obtain ⟨z, -, hz⟩ := List.mem_map.mp h
        rw [← hz]
        show b ≤ b + o1
        omega⟩ hl _ hheap X'
  exact ⟨t, step t a1, b1⟩
/-- KIND_MOST[i] -/
theorem z_kmi {idx j k : Nat} {i : Int32} (hd : decode Y.2.1 pc = .ok (.getstatic idx, 3)) (hw : ∀ b U, z_E b U → va_Nw (.fieldLinkNest Y.1.cls idx "DearLetters" "KIND_MOST" "[I" "DearLetters") U) (jf : Fin 4) (hj : (jf : Nat) = j) (hd2 : decode Y.2.1 (pc + 3) = .ok (.iload_n jf, 1)) (hk : lv[k]? = some (j, .int i)) (hd3 : decode Y.2.1 (pc + 4) = .ok (.iaload, 1)) (hin : vp_in i 10) (kk : z_G Y d mc ms rv M' (pc + 5) lv (.int (z_km i.toNatClampNeg) :: st) cs sl M) : z_G Y d mc ms rv M' pc lv st cs sl M := by
  intro p l e s m args below meth c b D cA H ls locs C hW hS hl
  have hE := C.2.2.2.2.2.2.2.1
  obtain ⟨t, hz, ht, -⟩ := hE.2.2.2.2.2.2.2
  refine va_getsN C.1 C.2.1 hz hS C.2.2.2.2.1 ((hw b s hE).use rfl) (fun _ h => h) hd ?_
  refine lv_iload_n C.1 C.2.1 hd2 hj (z_lvat hl hk) ?_
  exact va_ti C.1 C.2.1 ht hS hin rfl hd3 (kk p l e s m args below meth c b D cA H ls locs C hW hS hl)
/-- KIND_MOST.length -/
theorem z_kml {idx : Nat} (hd : decode Y.2.1 pc = .ok (.getstatic idx, 3)) (hw : ∀ b U, z_E b U → va_Nw (.fieldLinkNest Y.1.cls idx "DearLetters" "KIND_MOST" "[I" "DearLetters") U) (hd3 : decode Y.2.1 (pc + 3) = .ok (.arraylength, 1)) (kk : z_G Y d mc ms rv M' (pc + 4) lv (.int 10 :: st) cs sl M) : z_G Y d mc ms rv M' pc lv st cs sl M := by
  intro p l e s m args below meth c b D cA H ls locs C hW hS hl
  have hE := C.2.2.2.2.2.2.2.1
  obtain ⟨t, hz, ht, -⟩ := hE.2.2.2.2.2.2.2
  refine va_getsN C.1 C.2.1 hz hS C.2.2.2.2.1 ((hw b s hE).use rfl) (fun _ h => h) hd ?_
  exact va_tlen C.1 C.2.1 ht hS rfl hd3 (kk p l e s m args below meth c b D cA H ls locs C hW hS hl)
end ZN
