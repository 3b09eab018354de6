/-! LAYER 3: rows that make objects. -/
def z_dvv (t : Nat) : Value := match t with
  | 0 => .int 0
  | 1 => .long 0
  | _ => .null
def z_okT : FieldType → Bool
  | .float => false
  | .double => false
  | _ => true
theorem z_dv {t : FieldType} (h : z_okT t = true) : defaultValue t = z_dvv (z_code t) := by
  cases t <;> first | rfl | (simp [z_okT] at h)
theorem z_okT_all : ∀ ci, ci < 13 → ∀ j, j < z_nf ci → z_okT (z_ty ci j) = true := by
  have key : ∀ ci, ci < 13 → ((List.range (z_nf ci)).all (fun j => z_okT (z_ty ci j))) = true := by
    refine z_lt13 ?_ ?_ ?_ ?_ ?_ ?_ ?_ ?_ ?_ ?_ ?_ ?_ ?_ <;> decide +kernel
  intro ci h j hj
  exact List.all_eq_true.mp (key ci h) j (List.mem_range.mpr hj)
theorem z_val_new {b : Nat} {M : z_M} {k j : Nat} (t : Nat) (h : M.2.1 k j = 0 ∧ M.2.2.1 k j = 0 ∧ M.2.2.2 k j = none) : z_val b M k j t = z_dvv t := by
  obtain ⟨h1, h2, h3⟩ := h
  match t with
  | 0 => show Value.int _ = Value.int 0; rw [h1]
  | 1 => show Value.long _ = Value.long 0; rw [h2]
  | t + 2 => show va_rf ((M.2.2.2 k j).map (fun r => b + r)) = Value.null; rw [h3]; rfl
/-- one object more -/
def z_up (M : z_M) : z_M := (M.1 + 1, M.2)
theorem z_Wd.push {b : Nat} {D : va_G} {cA : Nat → ClassId} {M : z_M} {H H1 : Heap} (h : z_Wd b D cA M H) (hz : H1.size = H.size + 1) (ho : ∀ q, q < H.size → H1[q]? = H[q]?) (hat : z_at b D cA M H1 M.1) : z_Wd b D cA (z_up M) H1 := by
  refine ⟨by rw [hz, h.1]; show b + M.1 + 1 = b + (M.1 + 1); omega, fun k hk => ?_, fun k hk j => ?_⟩
  · show z_at b D cA M H1 k
    have hk : k < M.1 + 1 := hk
    rcases Nat.lt_or_ge k M.1 with q | q
    · have hk' : H1[b + k]? = H[b + k]? := ho _ (by rw [h.1]; omega)
      obtain ⟨g1, g2⟩ := h.2.1 k q
      exact ⟨fun hc => (g1 hc).kept hk', fun hc => by rw [hk']; exact g2 hc⟩
    · rw [show k = M.1 by omega]
      exact hat
  · have hk : M.1 + 1 ≤ k := hk
    exact h.2.2 k (by omega) j
theorem z_Spush {b : Nat} {H0 H H1 : Heap} {locs : List Loc} (hS : va_S (z_A b) H0 H locs) (hz : H1.size = H.size + 1) (ho : ∀ q, q < H.size → H1[q]? = H[q]?) : va_S (z_A b) H0 H1 locs :=
  ⟨Nat.le_trans hS.1 (by omega), fun x h1 h2 => (ho x (Nat.lt_of_lt_of_le h1 hS.1)).trans (hS.2.1 x h1 h2), hS.2.2⟩
theorem z_RA {s : State} {D : va_G} {cA : Nat → ClassId} (hK : va_K D vwCl (z_tys cA) s) {t : Nat} (h1 : 20 ≤ t) (h2 : t < 26) : va_RA s (cA t) (z_tA t) := by
  have h : ∀ (k : Nat) (q : ClassId × FieldType), (z_tys cA)[k]? = some q → va_RA s q.1 q.2 := fun k q hk => (hK.2 k q hk).2
  rcases (show t = 20 ∨ t = 21 ∨ t = 22 ∨ t = 23 ∨ t = 24 ∨ t = 25 by omega) with rfl | rfl | rfl | rfl | rfl | rfl
  · exact h 0 _ rfl
  · exact h 1 _ rfl
  · exact h 2 _ rfl
  · exact h 3 _ rfl
  · exact h 4 _ rfl
  · exact h 5 _ rfl
section ZM
variable {Y : z_Y} {d mc ms : Nat} {rv : Option Value} {M' M : z_M} {pc cs sl : Nat} {lv lv' : List (Nat × Value)} {st : List Value}
/-- what the tables say of a class that can be made -/
def z_LN (own : String) (idx ci : Nat) : Prop := ci < 13 ∧ Cond.classLink own idx (z_C ci) ∈ z_tbl ∧ Cond.instantiable (z_C ci) (z_nf ci) ∈ z_tbl ∧ Cond.initialized (z_C ci) ∈ z_tbl
theorem z_newO {idx ci o cs' sl' : Nat} {M1 : z_M} (hd : decode Y.2.1 pc = .ok (.new idx, 3)) (hL : z_LN Y.1.cls idx ci) (eo : M.1 = o) (hk : z_kind o = (ci, 0)) (ecs : cs + 1 = cs') (esl : sl + z_nf ci = sl') (hcs : cs' ≤ mc) (hsl : sl' ≤ ms) (eM : z_up M = M1) (kk : z_G Y d mc ms rv M' (pc + 3) lv (.ref o :: st) cs' sl' M1) : z_G Y d mc ms rv M' pc lv st cs sl M := by
  intro p l e s m args below meth c b D cA H ls locs C hW hS hl
  obtain ⟨h13, hcl, hin, hini⟩ := hL
  subst eo; subst ecs; subst esl; subst eM
  have hts := C.2.2.2.2.2.1
  have hKn := C.2.2.2.2.2.2.1.1 _ _ (z_cl _ h13)
  refine W.newcK C.1 C.2.1 C.2.2.2.2.1 (hts _ hcl) (hts _ hin) (hts _ hini) rfl hd hcs hsl hKn.2.1 rfl fun H1 kC hkC e1 z1 o1 => ?_
  have hB := u_born (z_ty ci) hts (z_inX ci h13) hKn hkC e1 (z_tyok ci h13)
  have hsz := hW.1
  rw [hsz] at hB
  have h := kk p l e s m args below meth c b D cA H1 ls locs C (hW.push z1 o1 ⟨fun hc => ?_, fun hc => absurd (by rw [hk]; exact h13) hc⟩) (z_Spush hS z1 o1) hl
  · rw [hsz]
    exact h
  · rw [hk]
    refine hB.to (fun j hj => ?_)
    rw [z_val_new _ (hW.2.2 M.1 (Nat.le_refl _) j), z_dv (z_okT_all ci h13 j hj)]
theorem z_newA {aty : ArrayType} {t n o cs' sl' : Nat} {x : Int32} {M1 : z_M} (hd : decode Y.2.1 pc = .ok (.newarray aty, 2)) (ht : newarray.typeOf aty = z_tA t) (h1 : 20 ≤ t) (h2 : t < 23) (harr : Cond.arrayClass (z_tA t) ∈ z_tbl) (eo : M.1 = o) (hk : z_kind o = (t, n)) (hx : ¬ x < 0) (hn : x.toNatClampNeg = n) (hb : n ≤ 60000000) (ecs : cs + 1 = cs') (esl : sl + n = sl') (hcs : cs' ≤ mc) (hsl : sl' ≤ ms) (eM : z_up M = M1) (kk : z_G Y d mc ms rv M' (pc + 2) lv (.ref o :: st) cs' sl' M1) : z_G Y d mc ms rv M' pc lv (.int x :: st) cs sl M := by
  intro p l e s m args below meth c b D cA H ls locs C hW hS hl
  subst eo; subst ecs; subst esl; subst eM
  have hts := C.2.2.2.2.2.1
  have hc8 : componentBytes (z_tA t) ≤ 8 ∧ z_okT (z_tA t) = true := by
    rcases (show t = 20 ∨ t = 21 ∨ t = 22 by omega) with rfl | rfl | rfl <;> exact ⟨by decide, rfl⟩
  have hbytes : n * componentBytes (newarray.typeOf aty) ≤ 536870912 := by
    rw [ht]
    exact Nat.le_trans (Nat.mul_le_mul hb hc8.1) (by decide)
  refine va_newaK C.1 C.2.1 (atype := aty) (by rw [ht]; exact hts _ harr) rfl hd rfl hx hn hbytes hcs hsl rfl fun H1 cB e1 z1 o1 hAr hNm => ?_
  have hcB : cB = cA t := by
    have hR := z_RA C.2.2.2.2.2.2.1 h1 (by omega : t < 26)
    rw [ht] at hNm
    rcases (show t = 20 ∨ t = 21 ∨ t = 22 by omega) with rfl | rfl | rfl <;> exact Option.some.inj (hNm.symm.trans hR)
  subst hcB
  have hsz := hW.1
  rw [hsz, ht] at e1
  have h := kk p l e s m args below meth c b D cA H1 ls locs C (hW.push z1 o1 ⟨fun hc => absurd hc (by rw [hk]; show ¬ t < 13; omega), fun hc => ?_⟩) (z_Spush hS z1 o1) hl
  · rw [hsz]
    exact h
  · rw [hk, e1]
    congr 2
    funext j
    rw [z_val_new _ (hW.2.2 M.1 (Nat.le_refl _) j), z_dv hc8.2]
theorem z_newS {idx n o cs' sl' : Nat} {x : Int32} {M1 : z_M} (hd : decode Y.2.1 pc = .ok (.anewarray idx, 3)) (hcl : Cond.classLink Y.1.cls idx "DearLetters$State" ∈ z_tbl) (eo : M.1 = o) (hk : z_kind o = (25, n)) (hx : ¬ x < 0) (hn : x.toNatClampNeg = n) (hb : n ≤ 60000000) (ecs : cs + 1 = cs') (esl : sl + n = sl') (hcs : cs' ≤ mc) (hsl : sl' ≤ ms) (eM : z_up M = M1) (kk : z_G Y d mc ms rv M' (pc + 3) lv (.ref o :: st) cs' sl' M1) : z_G Y d mc ms rv M' pc lv (.int x :: st) cs sl M := by
  intro p l e s m args below meth c b D cA H ls locs C hW hS hl
  subst eo; subst ecs; subst hn; subst esl; subst eM
  have hts := C.2.2.2.2.2.1
  obtain ⟨_, -, -, hov, -⟩ := C.2.2.2.2.2.2.2.1.2.2.2.2.2.2.2
  refine W.anew C.1 C.2.1 (C := "DearLetters$State") C.2.2.2.2.1 (hts _ hcl) hov.use rfl hd rfl hx (by omega) hcs hsl fun cB kA comp h1 h2 h3 h4 => ?_
  have hcB : cB = cA 25 := by
    obtain ⟨_, _, -, -, -, hR⟩ := z_RA C.2.2.2.2.2.2.1 (t := 25) (by decide) (by decide)
    exact Option.some.inj (h1.symm.trans hR)
  subst hcB
  have hsz := hW.1
  rw [arrV_new]
  have z1 : (H.push (arrV (cA 25) x.toNatClampNeg (fun _ => .null))).size = H.size + 1 := by simp
  have o1 : ∀ q, q < H.size → (H.push (arrV (cA 25) x.toNatClampNeg (fun _ => .null)))[q]? = H[q]? := fun q hq => by rw [Array.getElem?_push, if_neg (Nat.ne_of_lt hq)]
  have h := kk p l e s m args below meth c b D cA _ ls locs C (hW.push z1 o1 ⟨fun hc => absurd hc (by rw [hk]; show ¬ 25 < 13; omega), fun hc => ?_⟩) (z_Spush hS z1 o1) hl
  · rw [hsz]
    exact h
  · rw [hk, ← hsz]
    have e : ∀ cell : Cell, (H.push cell)[H.size]? = some cell := fun cell => by simp
    rw [e]
    congr 2
    funext j
    rw [z_val_new _ (hW.2.2 M.1 (Nat.le_refl _) j)]
    rfl
/-- a State into the row of States -/
theorem z_aast {o n v : Nat} {i : Int32} (hd : decode Y.2.1 pc = .ok (.aastore, 1)) (hk : z_kind o = (25, n)) (ho : o < M.1) (hin : vp_in i n) (hkv : z_kind v = (8, 0)) (hv : v < M.1) (kk : z_G Y d mc ms rv M' (pc + 1) lv st cs sl (z_sR M o i.toNatClampNeg (some v))) : z_G Y d mc ms rv M' pc lv (.ref v :: .int i :: .ref o :: st) cs sl M := by
  intro p l e s m args below meth c b D cA H ls locs C hW hS hl
  have hlt : i.toNatClampNeg < n := Nat.not_le.mp fun q => hin (Or.inr q)
  have h0 : ¬ i < 0 := fun q => hin (Or.inl q)
  have h13 : (z_kind v).1 < 13 := by rw [hkv]; decide
  obtain ⟨cell, q1, q2, q3, q4⟩ := (hW.2.1 v hv).1 h13
  rw [hkv] at q2
  obtain ⟨hS', hfc, kC, hkC, hkind⟩ := C.2.2.2.2.2.2.1.1 _ _ (z_cl 8 (by decide))
  obtain ⟨kA, comp, k1, k2, k3, -⟩ := z_RA C.2.2.2.2.2.2.1 (t := 25) (by decide) (by decide)
  obtain ⟨kE, hkE, -⟩ := Vm.findClass_spec k3
  have hcomp : D.1 8 = comp := Option.some.inj (hfc.symm.trans k3)
  refine W.aast C.1 C.2.1 (z_arr hW hk (by decide) ho) (fun q h => by cases h) (fun h => by cases h) k1 k2 rfl hkE ⟨h0, by rw [arrV_size]; exact hlt⟩ q1 (fun q h => by rw [q3] at h; cases h) (by rw [q2]; exact hkC) (by rw [q2, hcomp]; exact va_asg _ _) rfl rfl hd fun H1 e1 e2 e3 => ?_
  refine kk p l e s m args below meth c b D cA H1 ls _ C (hW.arr hk (by decide) ho (z_One.R M o i.toNatClampNeg (some v)) ?_ e2 e3 e1) (hS.put e2 e3 (show b ≤ b + o by omega)) hl
  show va_rf ((z_u M.2.2.2 o i.toNatClampNeg (some v) o i.toNatClampNeg).map (fun r => b + r)) = _
  rw [z_u_same]
  rfl
/-- a char into a row of chars -/
theorem z_cast {o n : Nat} {i x : Int32} (hd : decode Y.2.1 pc = .ok (.castore, 1)) (hk : z_kind o = (22, n)) (ho : o < M.1) (hin : vp_in i n) (hx : narrow .char (.int x) = .int x) (kk : z_G Y d mc ms rv M' (pc + 1) lv st cs sl (z_sI M o i.toNatClampNeg x)) : z_G Y d mc ms rv M' pc lv (.int x :: .int i :: .ref o :: st) cs sl M := by
  intro p l e s m args below meth c b D cA H ls locs C hW hS hl
  refine W.cast C.1 C.2.1 (z_arr hW hk (by decide) ho) (z_aty C.2.2.2.2.2.2.1 (t := 22) (by decide) (by decide) n _) (fun q => by cases q) (by rw [arrV_size]; exact hin) rfl rfl hd fun H1 e1 e2 e3 => ?_
  rw [hx] at e1
  refine kk p l e s m args below meth c b D cA H1 ls _ C (hW.arr hk (by decide) ho (z_One.I M o i.toNatClampNeg x) ?_ e2 e3 e1) (hS.put e2 e3 (show b ≤ b + o by omega)) hl
  show Value.int (z_u M.2.1 o i.toNatClampNeg x o i.toNatClampNeg) = _
  rw [z_u_same]
theorem z_obj {idx o : Nat} (hd : decode Y.2.1 pc = .ok (.invokespecial idx, 3)) (hw : Cond.methodLink Y.1.cls idx objectInit ∈ z_tbl) (h2 : Cond.instanceMethod objectInit ∈ z_tbl) (h3 : Cond.code objectInit ⟨#[0xb1]⟩ 1 none ∈ z_tbl) (hst : (st.map (fun v => v.category)).sum ≤ 8) (kk : z_G Y d mc ms rv M' (pc + 3) lv st cs sl M) : z_G Y d mc ms rv M' pc lv (.ref o :: st) cs sl M := by
  intro p l e s m args below meth c b D cA H ls locs C hW hS hl
  have hts := C.2.2.2.2.2.1
  have hcat : ((st.map (z_v b)).map (fun v => v.category)).sum ≤ 8 := by
    have : (st.map (z_v b)).map (fun v => v.category) = st.map (fun v => v.category) := by rw [List.map_map]; exact List.map_congr_left (fun v _ => z_v_cat b v)
    rw [this]; exact hst
  refine W.objInit C.1 C.2.1 C.2.2.2.2.1 (hts _ hw) (hts _ h2) (hts _ h3) rfl (by rw [C.2.2.2.1]; exact hl.1) rfl hd (by show 1 ≤ d + 2; omega) (by show 2 * 0 + _ + 12 ≤ 64 * (d + 2); omega) ?_
  exact kk p l e s m args below meth c b D cA H ls locs C hW hS hl
/-- a private constructor of a nest mate -/
def z_LIN (own : String) (idx : Nat) (Y' : z_Y) (n : Nat) : Prop := (∀ b U, z_E b U → va_Nw (.methodLinkNest own idx Y'.1 "DearLetters") U) ∧ Cond.initialized Y'.1.cls ∈ z_tbl ∧ Cond.code Y'.1 Y'.2.1 Y'.2.2.1 Y'.2.2.2 ∈ z_tbl ∧ (Y'.1.cls ≠ "java/lang/invoke/MethodHandle" ∧ Y'.1.cls ≠ "java/lang/invoke/VarHandle" ∧ (parseMethodDescriptor Y'.1.desc).map (fun d => d.parameters.length) = some n) ∧ Y'.2.2.1 ≤ 40 ∧ Y'.1.name = "<init>" ∧ Y'.2.2.2 = none ∧ Cond.instanceMethod Y'.1 ∈ z_tbl
theorem z_callIN {idx o n d' mc' ms' : Nat} {as : List Value} {Y' : z_Y} {r : Option Value} {M1 : z_M} (hd : decode Y.2.1 pc = .ok (.invokespecial idx, 3)) (hL : z_LIN Y.1.cls idx Y' n) (hK : z_K Y' d' mc' ms' (.ref o :: as) M r M1) (hdd : d' + 1 ≤ d) (hcs : cs + mc' ≤ mc) (hsl : sl + ms' ≤ ms) (hn : as.length = n) (hst : (st.map (fun v => v.category)).sum ≤ 8) {st0 : List Value} (he : as.reverse ++ .ref o :: st = st0)
    (kk : z_G Y d mc ms rv M' (pc + 3) lv (r.toList ++ st) (cs + mc') (sl + ms') M1) : z_G Y d mc ms rv M' pc lv st0 cs sl M := by
  intro p l e s m args below meth c b D cA H ls locs C hW hS hl
  obtain ⟨hw, hini, hcd, hnn, h40, hnm, hrt, hi⟩ := hL
  have hts := C.2.2.2.2.2.1
  have hcat : ((st.map (z_v b)).map (fun v => v.category)).sum ≤ 8 := by
    have : (st.map (z_v b)).map (fun v => v.category) = st.map (fun v => v.category) := by rw [List.map_map]; exact List.map_congr_left (fun v _ => z_v_cat b v)
    rw [this]; exact hst
  have hB' : va_CN (z_rm d mc ms) s args Y.1.cls idx Y'.1 "DearLetters" Y'.2.1 Y'.2.2.1 Y'.2.2.2 (z_w Y') (z_rm d' mc' ms') mc' ms' n :=
    va_cnB n hts (z_w_good Y' hcd) rfl rfl rfl (hw b s C.2.2.2.2.2.2.2.1) (hts _ hini) hnn ⟨by show d' + 2 + 1 ≤ d + 2; omega, by show 8 + (Y'.2.2.1 + 11) + 64 * (d' + 2) ≤ 64 * (d + 2); omega⟩
  rw [hrt] at hB'
  refine z_after C hS hl (va_runIN (b := b + o) (As := as.map (z_v b)) (rest := st.map (z_v b)) ⟨C.1, C.2.1, C.2.2.2.1, C.2.2.2.2.1, hts⟩ (hK l b D cA) ⟨hB', hnm, hts _ hi⟩ ⟨z_blind b D cA _ M, fun U hU hw => ⟨rfl, by rw [hU]; exact hW, va_K.moved hw.alike C.2.2.2.2.2.2.1, z_E.moved hw hU hS C.2.2.2.2.2.2.2.1⟩⟩ rfl (by rw [List.length_map]; exact hn) hl.1 (by show List.map (z_v b) st0 = _; rw [← he, List.map_append, List.map_reverse]; rfl) (lv_room hcat) hd ⟨hcs, hsl⟩) kk
end ZM
