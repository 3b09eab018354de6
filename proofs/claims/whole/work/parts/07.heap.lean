/-- a field's link: place k of class ci -/
def z_FL (own : String) (idx ci k : Nat) : Prop := ci < 13 ∧ k < z_nf ci ∧ Cond.fieldLink own idx (z_T ci k).1 (z_T ci k).2.1 (z_T ci k).2.2.1 ∈ z_tbl
section ZH
variable {Y : z_Y} {d mc ms : Nat} {rv : Option Value} {M' M : z_M} {pc cs sl : Nat} {lv lv' : List (Nat × Value)} {st : List Value}
theorem z_get {idx ci k o : Nat} (hd : decode Y.2.1 pc = .ok (.getfield idx, 3)) (hL : z_FL Y.1.cls idx ci k) (hk : (z_kind o).1 = ci) (ho : o < M.1) (kk : z_G Y d mc ms rv M' (pc + 3) lv (z_av M o k (z_code (z_ty ci k)) :: st) cs sl M) : z_G Y d mc ms rv M' pc lv (.ref o :: st) cs sl M := by
  intro p l e s m args below meth c b D cA H ls locs C hW hS hl
  obtain ⟨h13, hkn, hw⟩ := hL
  subst hk
  obtain ⟨cell, q1, q2, q3, q4⟩ := (hW.2.1 o ho).1 h13
  obtain ⟨hS', hfc, kC, hkC, hkind⟩ := C.2.2.2.2.2.2.1.1 _ _ (z_cl _ h13)
  obtain ⟨cf, kf, fi, f, hi, hsl⟩ := hS' k hkn
  refine W.getf C.1 C.2.1 C.2.2.2.2.1 (C.2.2.2.2.2.1 _ hw) hi (u_facts hfc hkC (u_lays C.2.2.2.2.2.1 (z_inX _ h13) hkn) hi).1 q1 (by rw [q3]; exact fun h => by cases h) (v := z_val b M o k (z_code (z_ty (z_kind o).1 k))) ?_ rfl rfl hd ?_
  · rw [hsl, q4 k hkn]
  · have h := kk p l e s m args below meth c b D cA H ls locs C hW hS hl
    rw [List.map_cons, z_v_av] at h
    exact h
theorem z_getI {idx ci k o : Nat} (hd : decode Y.2.1 pc = .ok (.getfield idx, 3)) (hL : z_FL Y.1.cls idx ci k) (hk : (z_kind o).1 = ci) (ho : o < M.1) (ht : z_code (z_ty ci k) = 0) (kk : z_G Y d mc ms rv M' (pc + 3) lv (.int (M.2.1 o k) :: st) cs sl M) : z_G Y d mc ms rv M' pc lv (.ref o :: st) cs sl M :=
  z_get hd hL hk ho (by rw [ht]; exact kk)
theorem z_getJ {idx ci k o : Nat} (hd : decode Y.2.1 pc = .ok (.getfield idx, 3)) (hL : z_FL Y.1.cls idx ci k) (hk : (z_kind o).1 = ci) (ho : o < M.1) (ht : z_code (z_ty ci k) = 1) (kk : z_G Y d mc ms rv M' (pc + 3) lv (.long (M.2.2.1 o k) :: st) cs sl M) : z_G Y d mc ms rv M' pc lv (.ref o :: st) cs sl M :=
  z_get hd hL hk ho (by rw [ht]; exact kk)
theorem z_getR {idx ci k o r : Nat} (hd : decode Y.2.1 pc = .ok (.getfield idx, 3)) (hL : z_FL Y.1.cls idx ci k) (hk : (z_kind o).1 = ci) (ho : o < M.1) (ht : z_code (z_ty ci k) = 2) (hr : M.2.2.2 o k = some r) (kk : z_G Y d mc ms rv M' (pc + 3) lv (.ref r :: st) cs sl M) : z_G Y d mc ms rv M' pc lv (.ref o :: st) cs sl M :=
  z_get hd hL hk ho (by rw [ht]; show z_G Y d mc ms rv M' (pc + 3) lv (va_rf (M.2.2.2 o k) :: st) cs sl M; rw [hr]; exact kk)
theorem z_apart {s : State} {args : Array Value} {D : va_G} {cA : Nat → ClassId} {ci : Nat} (h13 : ci < 13) (hts : ∀ w ∈ z_tbl, w.before args s = true) (hK : va_K D vwCl (z_tys cA) s) : ∀ x y, x < z_nf ci → y < z_nf ci → x ≠ y → (D.2 ci) x ≠ (D.2 ci) y :=
  va_apart (own := "") hts (z_inX _ h13) (z_ty ci) (z_tyok ci h13) (z_nmok ci h13) hK (z_cl ci h13)
/-- a store into a field that isn't final -/
theorem z_put {idx ci k o : Nat} {v : Value} {M1 : z_M} (hd : decode Y.2.1 pc = .ok (.putfield idx, 3)) (hL : z_FL Y.1.cls idx ci k) (hk : (z_kind o).1 = ci) (ho : o < M.1) (hfin : (z_T ci k).2.2.2 = false) (h1 : z_One M M1 o k) (hv : ∀ b, z_val b M1 o k (z_code (z_ty ci k)) = z_v b v) (hn : ∀ b, narrow (z_ty ci k) (z_v b v) = z_v b v) (hf : ∀ b, fits (z_ty ci k) (z_v b v) = true)
    (kk : z_G Y d mc ms rv M' (pc + 3) lv st cs sl M1) : z_G Y d mc ms rv M' pc lv (v :: .ref o :: st) cs sl M := by
  intro p l e s m args below meth c b D cA H ls locs C hW hS hl
  obtain ⟨h13, hkn, hw⟩ := hL
  subst hk
  obtain ⟨cell, q1, q2, q3, q4⟩ := (hW.2.1 o ho).1 h13
  obtain ⟨hS', hfc, kC, hkC, hkind⟩ := C.2.2.2.2.2.2.1.1 _ _ (z_cl _ h13)
  obtain ⟨cf, kf, fi, f, hi, hsl⟩ := hS' k hkn
  have hlay := C.2.2.2.2.2.1 _ (z_inX _ h13 _ (u_in_lay hkn))
  unfold u_lay at hlay
  rw [if_neg (by rw [hfin]; decide)] at hlay
  have hst := (u_facts hfc hkC (u_lays C.2.2.2.2.2.1 (z_inX _ h13) hkn) hi).1
  have h6 := u_store hfc hkC hkind hlay hi (z_tyok _ h13 k hkn) (hn b) (hf b)
  refine W.putK C.1 C.2.1 (f := f) ⟨C.2.2.2.2.1, C.2.2.2.2.2.1 _ hw, ⟨_, _, _, hi⟩, hst⟩ (by rw [q2]; exact h6) q1 q3 (by rw [hsl]; exact k2_hasslot (q4 k hkn)) rfl rfl hd fun H' e1 e2 e3 => ?_
  rw [hsl] at e1 ⊢
  have hap := z_apart h13 C.2.2.2.2.2.1 C.2.2.2.2.2.2.1
  refine kk p l e s m args below meth c b D cA H' ls _ C ?_ (hS.put e2 e3 (show b ≤ b + o by omega)) hl
  refine hW.put ho h1 e2 e3 ⟨fun _ => ?_, fun h => absurd h13 h⟩
  refine t_OB.to (V := updV (fun j => z_val b M o j (z_code (z_ty (z_kind o).1 j))) k (z_v b v)) ⟨_, e1, q2, q3, t_set q4 hap hkn _⟩ (fun j _ => ?_)
  unfold updV
  by_cases hj : j = k
  · subst hj; rw [if_pos rfl, hv b]
  · rw [if_neg hj, h1.val (fun q => hj q.2)]
/-- a store into a final field, in its constructor -/
theorem z_putF {idx ci k o : Nat} {v : Value} {M1 : z_M} (hd : decode Y.2.1 pc = .ok (.putfield idx, 3)) (hL : z_FL Y.1.cls idx ci k) (hk : (z_kind o).1 = ci) (ho : o < M.1) (hfin : (z_T ci k).2.2.2 = true) (hini : Y.1.name = "<init>") (hdc : (z_T ci k).1 = Y.1.cls) (h1 : z_One M M1 o k) (hv : ∀ b, z_val b M1 o k (z_code (z_ty ci k)) = z_v b v) (hn : ∀ b, narrow (z_ty ci k) (z_v b v) = z_v b v) (hf : ∀ b, fits (z_ty ci k) (z_v b v) = true)
    (kk : z_G Y d mc ms rv M' (pc + 3) lv st cs sl M1) : z_G Y d mc ms rv M' pc lv (v :: .ref o :: st) cs sl M := by
  intro p l e s m args below meth c b D cA H ls locs C hW hS hl
  obtain ⟨h13, hkn, hw⟩ := hL
  subst hk
  obtain ⟨cell, q1, q2, q3, q4⟩ := (hW.2.1 o ho).1 h13
  obtain ⟨hS', hfc, kC, hkC, hkind⟩ := C.2.2.2.2.2.2.1.1 _ _ (z_cl _ h13)
  obtain ⟨cf, kf, fi, f, hi, hsl⟩ := hS' k hkn
  have hlay := C.2.2.2.2.2.1 _ (z_inX _ h13 _ (u_in_lay hkn))
  unfold u_lay at hlay
  rw [if_pos hfin] at hlay
  have hst := (u_facts hfc hkC (u_lays C.2.2.2.2.2.1 (z_inX _ h13) hkn) hi).1
  have hown := C.2.2.2.2.1
  have hcf : m.cls = cf := by
    obtain ⟨_, _, c', _, _, _, -, -, hf', -, -, -, hown2, -⟩ := Cond.laysFinal_spec hlay
    have e1 : c' = cf := by have := hi.symm.trans hf'; simp at this; exact this.1.symm
    rw [hdc] at hown2
    rw [← e1]; exact Option.some.inj (hown.symm.trans hown2)
  have h6 := u_fits hfc hkC hkind (Or.inr hlay) hi (z_tyok _ h13 k hkn) (hn b) (hf b)
  refine W.putFinK C.1 C.2.1 hown (C.2.2.2.2.2.1 _ hw) hi hst hcf (C.2.2.2.2.2.2.2.2.2.1.trans hini) (by rw [q2]; exact h6) q1 q3 (by rw [hsl]; exact k2_hasslot (q4 k hkn)) rfl rfl hd fun H' e1 e2 e3 => ?_
  rw [hsl] at e1 ⊢
  have hap := z_apart h13 C.2.2.2.2.2.1 C.2.2.2.2.2.2.1
  refine kk p l e s m args below meth c b D cA H' ls _ C ?_ (hS.put e2 e3 (show b ≤ b + o by omega)) hl
  refine hW.put ho h1 e2 e3 ⟨fun _ => ?_, fun h => absurd h13 h⟩
  refine t_OB.to (V := updV (fun j => z_val b M o j (z_code (z_ty (z_kind o).1 j))) k (z_v b v)) ⟨_, e1, q2, q3, t_set q4 hap hkn _⟩ (fun j _ => ?_)
  unfold updV
  by_cases hj : j = k
  · subst hj; rw [if_pos rfl, hv b]
  · rw [if_neg hj, h1.val (fun q => hj q.2)]
theorem z_putI {idx ci k o : Nat} {x : Int32} (hd : decode Y.2.1 pc = .ok (.putfield idx, 3)) (hL : z_FL Y.1.cls idx ci k) (hk : (z_kind o).1 = ci) (ho : o < M.1) (hfin : (z_T ci k).2.2.2 = false) (ht : z_ty ci k = .int) (kk : z_G Y d mc ms rv M' (pc + 3) lv st cs sl (z_sI M o k x)) : z_G Y d mc ms rv M' pc lv (.int x :: .ref o :: st) cs sl M :=
  z_put hd hL hk ho hfin (z_One.I M o k x) (fun b => by rw [ht]; show Value.int (z_u M.2.1 o k x o k) = _; rw [z_u_same]; rfl) (fun b => by rw [ht]; rfl) (fun b => by rw [ht]; rfl) kk
theorem z_putZ {idx ci k o : Nat} {x : Int32} (hd : decode Y.2.1 pc = .ok (.putfield idx, 3)) (hL : z_FL Y.1.cls idx ci k) (hk : (z_kind o).1 = ci) (ho : o < M.1) (hfin : (z_T ci k).2.2.2 = false) (ht : z_ty ci k = .boolean) (hx : narrow .boolean (.int x) = .int x) (hf : fits .boolean (.int x) = true) (kk : z_G Y d mc ms rv M' (pc + 3) lv st cs sl (z_sI M o k x)) : z_G Y d mc ms rv M' pc lv (.int x :: .ref o :: st) cs sl M :=
  z_put hd hL hk ho hfin (z_One.I M o k x) (fun b => by rw [ht]; show Value.int (z_u M.2.1 o k x o k) = _; rw [z_u_same]; rfl) (fun b => by rw [ht]; exact hx) (fun b => by rw [ht]; exact hf) kk
theorem z_putJ {idx ci k o : Nat} {x : Int64} (hd : decode Y.2.1 pc = .ok (.putfield idx, 3)) (hL : z_FL Y.1.cls idx ci k) (hk : (z_kind o).1 = ci) (ho : o < M.1) (hfin : (z_T ci k).2.2.2 = false) (ht : z_ty ci k = .long) (kk : z_G Y d mc ms rv M' (pc + 3) lv st cs sl (z_sJ M o k x)) : z_G Y d mc ms rv M' pc lv (.long x :: .ref o :: st) cs sl M :=
  z_put hd hL hk ho hfin (z_One.J M o k x) (fun b => by rw [ht]; show Value.long (z_u M.2.2.1 o k x o k) = _; rw [z_u_same]; rfl) (fun b => by rw [ht]; rfl) (fun b => by rw [ht]; rfl) kk
theorem z_putR {idx ci k o r : Nat} (hd : decode Y.2.1 pc = .ok (.putfield idx, 3)) (hL : z_FL Y.1.cls idx ci k) (hk : (z_kind o).1 = ci) (ho : o < M.1) (hfin : (z_T ci k).2.2.2 = false) (ht : z_code (z_ty ci k) = 2) (hn : ∀ a, narrow (z_ty ci k) (.ref a) = .ref a) (hf : ∀ a, fits (z_ty ci k) (.ref a) = true) (kk : z_G Y d mc ms rv M' (pc + 3) lv st cs sl (z_sR M o k (some r))) : z_G Y d mc ms rv M' pc lv (.ref r :: .ref o :: st) cs sl M :=
  z_put hd hL hk ho hfin (z_One.R M o k (some r)) (fun b => by rw [ht]; show va_rf ((z_u M.2.2.2 o k (some r) o k).map (fun r => b + r)) = _; rw [z_u_same]; rfl) (fun b => hn _) (fun b => hf _) kk
theorem z_putRF {idx ci k o r : Nat} (hd : decode Y.2.1 pc = .ok (.putfield idx, 3)) (hL : z_FL Y.1.cls idx ci k) (hk : (z_kind o).1 = ci) (ho : o < M.1) (hfin : (z_T ci k).2.2.2 = true) (hini : Y.1.name = "<init>") (hdc : (z_T ci k).1 = Y.1.cls) (ht : z_code (z_ty ci k) = 2) (hn : ∀ a, narrow (z_ty ci k) (.ref a) = .ref a) (hf : ∀ a, fits (z_ty ci k) (.ref a) = true) (kk : z_G Y d mc ms rv M' (pc + 3) lv st cs sl (z_sR M o k (some r))) : z_G Y d mc ms rv M' pc lv (.ref r :: .ref o :: st) cs sl M :=
  z_putF hd hL hk ho hfin hini hdc (z_One.R M o k (some r)) (fun b => by rw [ht]; show va_rf ((z_u M.2.2.2 o k (some r) o k).map (fun r => b + r)) = _; rw [z_u_same]; rfl) (fun b => hn _) (fun b => hf _) kk
/-! arrays -/
theorem z_arr {b : Nat} {D : va_G} {cA : Nat → ClassId} {H : Heap} {o t n : Nat} (hW : z_Wd b D cA M H) (hk : z_kind o = (t, n)) (ht : ¬ t < 13) (ho : o < M.1) : H[b + o]? = some (arrV (cA t) n (fun j => z_val b M o j (z_code (z_tA t)))) := by
  have h := (hW.2.1 o ho).2 (by rw [hk]; exact ht)
  rw [hk] at h
  exact h
theorem z_aty {s : State} {D : va_G} {cA : Nat → ClassId} (hK : va_K D vwCl (z_tys cA) s) {t : Nat} (h1 : 20 ≤ t) (h2 : t < 26) : ArrOfT s (cA t) (z_tA t) := by
  have h : ∀ (k : Nat) (q : ClassId × FieldType), (z_tys cA)[k]? = some q → ArrOfT s q.1 q.2 := fun k q hk => (hK.2 k q hk).1
  rcases (show t = 20 ∨ t = 21 ∨ t = 22 ∨ t = 23 ∨ t = 24 ∨ t = 25 by omega) with rfl | rfl | rfl | rfl | rfl | rfl
  · exact h 0 _ rfl
  · exact h 1 _ rfl
  · exact h 2 _ rfl
  · exact h 3 _ rfl
  · exact h 4 _ rfl
  · exact h 5 _ rfl
theorem z_iald {o n : Nat} {i : Int32} (hd : decode Y.2.1 pc = .ok (.iaload, 1)) (hk : z_kind o = (20, n)) (ho : o < M.1) (hin : vp_in i n) (kk : z_G Y d mc ms rv M' (pc + 1) lv (.int (M.2.1 o i.toNatClampNeg) :: st) cs sl M) : z_G Y d mc ms rv M' pc lv (.int i :: .ref o :: st) cs sl M := by
  intro p l e s m args below meth c b D cA H ls locs C hW hS hl
  have hlt : i.toNatClampNeg < n := Nat.not_le.mp fun q => hin (Or.inr q)
  exact W.iald (v := .int (M.2.1 o i.toNatClampNeg)) C.1 C.2.1 (z_arr hW hk (by decide) ho) (z_aty C.2.2.2.2.2.2.1 (t := 20) (by decide) (by decide) n _) (fun q => by cases q) (by rw [arrV_size]; exact hin) (by rw [arrV_read _ _ hlt]; rfl) rfl rfl hd (kk p l e s m args below meth c b D cA H ls locs C hW hS hl)
theorem z_lald {o n : Nat} {i : Int32} (hd : decode Y.2.1 pc = .ok (.laload, 1)) (hk : z_kind o = (21, n)) (ho : o < M.1) (hin : vp_in i n) (kk : z_G Y d mc ms rv M' (pc + 1) lv (.long (M.2.2.1 o i.toNatClampNeg) :: st) cs sl M) : z_G Y d mc ms rv M' pc lv (.int i :: .ref o :: st) cs sl M := by
  intro p l e s m args below meth c b D cA H ls locs C hW hS hl
  have hlt : i.toNatClampNeg < n := Nat.not_le.mp fun q => hin (Or.inr q)
  exact W.lald (v := .long (M.2.2.1 o i.toNatClampNeg)) C.1 C.2.1 (z_arr hW hk (by decide) ho) (z_aty C.2.2.2.2.2.2.1 (t := 21) (by decide) (by decide) n _) (fun q => by cases q) (by rw [arrV_size]; exact hin) (by rw [arrV_read _ _ hlt]; rfl) rfl rfl hd (kk p l e s m args below meth c b D cA H ls locs C hW hS hl)
theorem z_cald {o n : Nat} {i : Int32} (hd : decode Y.2.1 pc = .ok (.caload, 1)) (hk : z_kind o = (22, n)) (ho : o < M.1) (hin : vp_in i n) (kk : z_G Y d mc ms rv M' (pc + 1) lv (.int (M.2.1 o i.toNatClampNeg) :: st) cs sl M) : z_G Y d mc ms rv M' pc lv (.int i :: .ref o :: st) cs sl M := by
  intro p l e s m args below meth c b D cA H ls locs C hW hS hl
  have hlt : i.toNatClampNeg < n := Nat.not_le.mp fun q => hin (Or.inr q)
  exact W.cald (v := .int (M.2.1 o i.toNatClampNeg)) C.1 C.2.1 (z_arr hW hk (by decide) ho) (z_aty C.2.2.2.2.2.2.1 (t := 22) (by decide) (by decide) n _) (fun q => by cases q) (by rw [arrV_size]; exact hin) (by rw [arrV_read _ _ hlt]; rfl) rfl rfl hd (kk p l e s m args below meth c b D cA H ls locs C hW hS hl)
theorem z_aald {o t n r : Nat} {i : Int32} (hd : decode Y.2.1 pc = .ok (.aaload, 1)) (hk : z_kind o = (t, n)) (ht1 : 23 ≤ t) (ht2 : t < 26) (ho : o < M.1) (hin : vp_in i n) (hr : M.2.2.2 o i.toNatClampNeg = some r) (kk : z_G Y d mc ms rv M' (pc + 1) lv (.ref r :: st) cs sl M) : z_G Y d mc ms rv M' pc lv (.int i :: .ref o :: st) cs sl M := by
  intro p l e s m args below meth c b D cA H ls locs C hW hS hl
  have hlt : i.toNatClampNeg < n := Nat.not_le.mp fun q => hin (Or.inr q)
  have hc : z_code (z_tA t) = 2 ∧ (z_tA t).isReference = true := by
    rcases (show t = 23 ∨ t = 24 ∨ t = 25 by omega) with rfl | rfl | rfl <;> exact ⟨rfl, rfl⟩
  refine W.aald (v := .ref (b + r)) (ty := z_tA t) C.1 C.2.1 (z_arr hW hk (by omega) ho) (z_aty C.2.2.2.2.2.2.1 (by omega) ht2 n _) hc.2 (fun q => by cases q) (by rw [arrV_size]; exact hin) ?_ rfl rfl hd (kk p l e s m args below meth c b D cA H ls locs C hW hS hl)
  rw [arrV_read _ _ hlt, hc.1]
  show some (va_rf ((M.2.2.2 o i.toNatClampNeg).map (fun r => b + r))) = _
  rw [hr]; rfl
theorem z_alen {o t n : Nat} (hd : decode Y.2.1 pc = .ok (.arraylength, 1)) (hk : z_kind o = (t, n)) (h1 : 20 ≤ t) (h2 : t < 26) (ho : o < M.1) (kk : z_G Y d mc ms rv M' (pc + 1) lv (.int (Int32.ofNat n) :: st) cs sl M) : z_G Y d mc ms rv M' pc lv (.ref o :: st) cs sl M := by
  intro p l e s m args below meth c b D cA H ls locs C hW hS hl
  exact W.alen (n := Int32.ofNat n) C.1 C.2.1 (z_arr hW hk (by omega) ho) (z_aty C.2.2.2.2.2.2.1 h1 h2 n _) (by rw [arrV_size]) rfl rfl hd (kk p l e s m args below meth c b D cA H ls locs C hW hS hl)
theorem z_Wd.arr {b : Nat} {D : va_G} {cA : Nat → ClassId} {M1 : z_M} {H H1 : Heap} {o k t n : Nat} {v : Value} (hW : z_Wd b D cA M H) (hk : z_kind o = (t, n)) (ht : ¬ t < 13) (ho : o < M.1) (h1 : z_One M M1 o k) (hv : z_val b M1 o k (z_code (z_tA t)) = v) (e2 : H1.size = H.size) (e3 : ∀ q, q ≠ b + o → H1[q]? = H[q]?) (e1 : H1[b + o]? = some ((arrV (cA t) n (fun j => z_val b M o j (z_code (z_tA t)))).setSlot k v)) : z_Wd b D cA M1 H1 := by
  refine hW.put ho h1 e2 e3 ⟨fun h => absurd h (by rw [hk]; exact ht), fun _ => ?_⟩
  rw [hk, e1, arrV_store, z_val_upd h1 hv]
theorem z_iast {o n : Nat} {i x : Int32} (hd : decode Y.2.1 pc = .ok (.iastore, 1)) (hk : z_kind o = (20, n)) (ho : o < M.1) (hin : vp_in i n) (kk : z_G Y d mc ms rv M' (pc + 1) lv st cs sl (z_sI M o i.toNatClampNeg x)) : z_G Y d mc ms rv M' pc lv (.int x :: .int i :: .ref o :: st) cs sl M := by
  intro p l e s m args below meth c b D cA H ls locs C hW hS hl
  refine W.iast C.1 C.2.1 (z_arr hW hk (by decide) ho) (z_aty C.2.2.2.2.2.2.1 (t := 20) (by decide) (by decide) n _) (fun q => by cases q) (by rw [arrV_size]; exact hin) rfl rfl hd fun H1 e1 e2 e3 => ?_
  refine kk p l e s m args below meth c b D cA H1 ls _ C (hW.arr hk (by decide) ho (z_One.I M o i.toNatClampNeg x) ?_ e2 e3 e1) (hS.put e2 e3 (show b ≤ b + o by omega)) hl
  show Value.int (z_u M.2.1 o i.toNatClampNeg x o i.toNatClampNeg) = _
  rw [z_u_same]
theorem z_last {o n : Nat} {i : Int32} {x : Int64} (hd : decode Y.2.1 pc = .ok (.lastore, 1)) (hk : z_kind o = (21, n)) (ho : o < M.1) (hin : vp_in i n) (kk : z_G Y d mc ms rv M' (pc + 1) lv st cs sl (z_sJ M o i.toNatClampNeg x)) : z_G Y d mc ms rv M' pc lv (.long x :: .int i :: .ref o :: st) cs sl M := by
  intro p l e s m args below meth c b D cA H ls locs C hW hS hl
  refine W.last C.1 C.2.1 (z_arr hW hk (by decide) ho) (z_aty C.2.2.2.2.2.2.1 (t := 21) (by decide) (by decide) n _) (fun q => by cases q) (by rw [arrV_size]; exact hin) rfl rfl hd fun H1 e1 e2 e3 => ?_
  refine kk p l e s m args below meth c b D cA H1 ls _ C (hW.arr hk (by decide) ho (z_One.J M o i.toNatClampNeg x) ?_ e2 e3 e1) (hS.put e2 e3 (show b ≤ b + o by omega)) hl
  show Value.long (z_u M.2.2.1 o i.toNatClampNeg x o i.toNatClampNeg) = _
  rw [z_u_same]
end ZH
