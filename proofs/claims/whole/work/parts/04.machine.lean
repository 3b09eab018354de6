/-! The small machine: memory is a function of an object's number and a place in it; a row an instruction, over the memory as a whole. -/
abbrev z_Y : Type := MethodName × ByteArray × Nat × Option FieldType
/-- how many objects there are; the ints, the longs, the references that they hold -/
abbrev z_M : Type := Nat × (Nat → Nat → Int32) × (Nat → Nat → Int64) × (Nat → Nat → Option Nat)
def z_w (Y : z_Y) : List Cond := .code Y.1 Y.2.1 Y.2.2.1 Y.2.2.2 :: z_tbl
def z_rm (d mc ms : Nat) : Room := { frames := d + 2, cells := mc, slots := ms, locals := 64 * (d + 2) }
def z_A (b : Nat) : Nat → Prop := fun q => b ≤ q
def z_v (b : Nat) : Value → Value
  | .ref k => .ref (b + k)
  | .int x => .int x
  | .long x => .long x
  | .float x => .float x
  | .double x => .double x
  | .null => .null
  | .retAddr x => .retAddr x
theorem z_v_cat (b : Nat) (v : Value) : (z_v b v).category = v.category := by cases v <;> rfl
def z_e (b : Nat) (q : Nat × Value) : Nat × Value := (q.1, z_v b q.2)
def z_code : FieldType → Nat
  | .long => 1
  | .object _ => 2
  | .array _ => 2
  | _ => 0
def z_tA (t : Nat) : FieldType := match t with
  | 20 => .int
  | 21 => .long
  | 22 => .char
  | 23 => .array .int
  | 24 => .array .long
  | _ => .object "DearLetters$State"
def z_val (b : Nat) (M : z_M) (k j t : Nat) : Value := match t with
  | 0 => .int (M.2.1 k j)
  | 1 => .long (M.2.2.1 k j)
  | _ => va_rf ((M.2.2.2 k j).map (fun r => b + r))
def z_av (M : z_M) (k j t : Nat) : Value := match t with
  | 0 => .int (M.2.1 k j)
  | 1 => .long (M.2.2.1 k j)
  | _ => va_rf (M.2.2.2 k j)
theorem z_v_av (b : Nat) (M : z_M) (k j t : Nat) : z_v b (z_av M k j t) = z_val b M k j t := by
  match t with
  | 0 => rfl
  | 1 => rfl
  | t + 2 =>
    show z_v b (va_rf (M.2.2.2 k j)) = va_rf ((M.2.2.2 k j).map (fun r => b + r))
    cases M.2.2.2 k j <;> rfl
def z_at (b : Nat) (D : va_G) (cA : Nat → ClassId) (M : z_M) (H : Heap) (k : Nat) : Prop :=
  ((z_kind k).1 < 13 → t_OB (b + k) (D.1 (z_kind k).1) (z_nf (z_kind k).1) (D.2 (z_kind k).1) H (fun j => z_val b M k j (z_code (z_ty (z_kind k).1 j)))) ∧
  (¬ (z_kind k).1 < 13 → H[b + k]? = some (arrV (cA (z_kind k).1) (z_kind k).2 (fun j => z_val b M k j (z_code (z_tA (z_kind k).1)))))
def z_Wd (b : Nat) (D : va_G) (cA : Nat → ClassId) (M : z_M) (H : Heap) : Prop :=
  H.size = b + M.1 ∧ (∀ k, k < M.1 → z_at b D cA M H k) ∧ ∀ k, M.1 ≤ k → ∀ j, M.2.1 k j = 0 ∧ M.2.2.1 k j = 0 ∧ M.2.2.2 k j = none
def z_tys (cA : Nat → ClassId) : List (ClassId × FieldType) := [(cA 20, .int), (cA 21, .long), (cA 22, .char), (cA 23, .array .int), (cA 24, .array .long), (cA 25, .object "DearLetters$State")]
/-- the most of each kind of statement, as the class' static row has it -/
def z_km (j : Nat) : Int32 := ([8, 4, 3, 20, 10, 1, 1, 80, 80, 80] : List Int32).getD j 0
/-- the class' own words, as one text: its chars -/
def zs_by : List Int32 := [108, 101, 116, 116, 101, 114, 32, 97, 103, 101, 32, 110, 101, 101, 100, 32, 103, 114, 97, 118, 101, 32, 103, 105, 102, 116, 32, 115, 116, 111, 99, 107, 32, 119, 105, 115, 104, 32, 110, 101, 97, 114, 32, 108, 105, 107, 101, 32, 104, 101, 108, 112, 101, 114, 32, 116, 105, 109, 101, 32, 104, 97, 110, 100, 32, 98, 101, 97, 114, 115, 32, 116, 97, 107, 101, 115, 32, 119, 97, 114, 109, 32, 109, 105, 115, 115, 101, 100, 32, 99, 111, 108, 100, 32, 119, 105, 115, 104, 101, 115, 32, 100, 97, 121, 32, 110, 117, 109, 98, 101, 114, 32, 115, 104, 101, 101, 116, 32, 100, 111, 110, 101, 32, 111, 114, 32, 97, 110, 100, 32, 110, 111, 116, 32, 97, 108, 108, 32, 109, 105, 110, 32, 109, 97, 120, 32, 102, 105, 114, 115, 116, 32, 108, 97, 115, 116, 32, 111, 102, 116, 101, 110, 32, 116, 111, 116, 97, 108, 32, 109, 111, 115, 116, 32, 108, 101, 97, 115, 116]
def zs_tx : String := "letter age need grave gift stock wish near like helper time hand bears takes warm missed cold wishes day number sheet done or and not all min max first last often total most least"
/-- the one String constant: where it lies, what it holds -/
def z_Es (b : Nat) (U : State) : Prop := va_AO "DearLetters$State" U ∧ (Cond.arrayOver (.array .int)).before #[] U = true ∧ (Cond.arrayOver (.array .long)).before #[] U = true ∧ va_Z "java/lang/String" "COMPACT_STRINGS" "Z" (.int 1) (z_A b) U U.heap ∧ va_Zq "jdk/internal/util/Preconditions" "SIOOBE_FORMATTER" "Ljava/util/function/BiFunction;" (z_A b) U U.heap ∧ ∃ adK adV : Nat → Nat, vk_R "DearLetters$Text" 22 zs_tx (adK 0) U ∧ vk_S 1 [179] [zs_by] adK adV (z_A b) U U.heap
/-- what the tables and the static row say, beside the words that every method passes on -/
def z_E (b : Nat) (U : State) : Prop :=
  va_Nw (.methodLinkNest "DearLetters" 18 yX4_init "DearLetters") U ∧ va_Nw (.methodLinkNest "DearLetters" 34 yX6_init "DearLetters") U ∧ va_Nw (.methodLinkNest "DearLetters" 41 yX7_init "DearLetters") U ∧
  va_Nw (.methodLinkNest "DearLetters$Heap" 55 yX0_init "DearLetters") U ∧ va_Nw (.methodLinkNest "DearLetters$Sums" 11 yX0_init "DearLetters") U ∧
  va_Nw (.fieldLinkNest "DearLetters$Heap" 9 "DearLetters" "KIND_MOST" "[I" "DearLetters") U ∧ va_Nw (.fieldLinkNest "DearLetters$HeapReader" 63 "DearLetters" "KIND_MOST" "[I" "DearLetters") U ∧
  ∃ t : Nat, va_Z "DearLetters" "KIND_MOST" "[I" (.ref t) (z_A b) U U.heap ∧ va_T .int t 10 (fun j => .int (z_km j)) (z_A b) U U.heap ∧ z_Es b U
theorem z_E.moved {b : Nat} {s U : State} {H : Heap} {locs : List Loc} (hW : s.WarmedH U.vm) (hH : U.heap = H) (hS : va_S (z_A b) s.heap H locs) (h : z_E b s) : z_E b U := by
  obtain ⟨a1, a2, a3, a4, a5, a6, a7, t, hz, ht, ho, hi, hj, hc, hq, aK, aV, hr, hv⟩ := h
  have hk : ∀ a : Nat, a < s.heap.size → ¬ z_A b a → H[a]? = s.heap[a]? := fun a h1 h2 => hS.2.1 a h1 h2
  refine ⟨a1.warmM hW, a2.warmM hW, a3.warmM hW, a4.warmM hW, a5.warmM hW, a6.warmF hW, a7.warmF hW, t, ?_, ?_, ho.moved hW.alike, over_moved hW.alike hi, over_moved hW.alike hj, ?_, ?_, aK, aV, hr.warm hW, ?_⟩
  · rw [hH]; exact (hz.moved hW.alike).kept hk
  · rw [hH]; exact (ht.moved hW.alike).kept hk
  · rw [hH]; exact (hc.moved hW.alike).kept hk
  · rw [hH]; exact (hq.moved hW.alike).kept hk
  · rw [hH]; exact (hv.moved hW.alike).kept hk
def z_Cx (Y : z_Y) (p : Program) (s : State) (m : MethodId) (args : Array Value) (meth : Method) (c : Code) (b : Nat) (D : va_G) (cA : Nat → ClassId) : Prop :=
  p.tables.exec = Jvm.exec ∧ c.code = Y.2.1 ∧ meth.sig.returnType = Y.2.2.2 ∧ c.maxLocals = Y.2.2.1 ∧ s.vm.findClass Y.1.cls = some m.cls ∧ (∀ w ∈ z_tbl, w.before args s = true) ∧ va_K D vwCl (z_tys cA) s ∧ z_E b s ∧ meth.locks = false ∧ meth.name = Y.1.name ∧ b ≤ s.heap.size
def z_Pc (b : Nat) (D : va_G) (cA : Nat → ClassId) (as : List Value) (M : z_M) : Array Value → State → Prop := fun v U => v = (as.map (z_v b)).toArray ∧ z_Wd b D cA M U.heap ∧ va_K D vwCl (z_tys cA) U ∧ z_E b U
def z_Q (b : Nat) (D : va_G) (cA : Nat → ClassId) (rv : Option Value) (M : z_M) : Array Value → State → Outcome → State → Prop := fun _ st oc t => oc = .returned (rv.map (z_v b)) ∧ z_Wd b D cA M t.heap ∧ va_F (z_A b) st t
/-- from this frame the machine comes to the method's return, with the answer rv and the memory M' -/
def z_G (Y : z_Y) (d mc ms : Nat) (rv : Option Value) (M' : z_M) (pc : Nat) (lv : List (Nat × Value)) (st : List Value) (cs sl : Nat) (M : z_M) : Prop :=
  ∀ (p : Program) (l : Launch) (e : Env) (s : State) (m : MethodId) (args : Array Value) (below : List Frame) (meth : Method) (c : Code) (b : Nat) (D : va_G) (cA : Nat → ClassId) (H : Heap) (ls : Array Slot) (locs : List Loc),
    z_Cx Y p s m args meth c b D cA → z_Wd b D cA M H → va_S (z_A b) s.heap H locs → lv_has ls Y.2.2.1 (lv.map (z_e b)) →
    W p l e (z_rm d mc ms) s m args below meth c H locs cs sl (MQ below (z_Q b D cA rv M') args s mc ms (z_A b)) (F0 m pc ls (st.map (z_v b)))
/-- the contract of a method -/
def z_K (Y : z_Y) (d mc ms : Nat) (as : List Value) (M : z_M) (rv : Option Value) (M' : z_M) : Prop :=
  ∀ (l : Launch) (b : Nat) (D : va_G) (cA : Nat → ClassId), Met l Y.1 (z_w Y) (z_rm d mc ms) (z_Pc b D cA as M) (z_Q b D cA rv M') mc ms (z_A b)
theorem z_args_map (b : Nat) : ∀ (as : List Value) (i : Nat), lv_args i (as.map (z_v b)) = (lv_args i as).map (z_e b)
  | [], _ => rfl
  | v :: vs, i => by
    show (i, z_v b v) :: lv_args (if (z_v b v).category = 2 then i + 2 else i + 1) (vs.map (z_v b)) = (i, z_v b v) :: (lv_args (if v.category = 2 then i + 2 else i + 1) vs).map (z_e b)
    rw [z_v_cat, z_args_map b vs]
theorem z_sl_len (b : Nat) : ∀ as : List Value, (lg_sl (as.map (z_v b))).length = (lg_sl as).length
  | [] => rfl
  | v :: vs => by
    have h := z_sl_len b vs
    simp only [lg_sl, List.map_cons, List.flatMap_cons, List.length_append, z_v_cat] at h ⊢
    rw [h]
    split <;> rfl
/-- a method's contract, out of its walk -/
theorem z_K.of {Y : z_Y} {d mc ms : Nat} {as : List Value} {M : z_M} {rv : Option Value} {M' : z_M} (hy : plainFor Y.1 = true) (hlen : (lg_sl as).length ≤ Y.2.2.1) {lv : List (Nat × Value)} (hlv : lv_args 0 as = lv)
    (h : z_G Y d mc ms rv M' 0 lv [] 0 0 M) : z_K Y d mc ms as M rv M' := by
  intro l b D cA
  refine va_MetF (cc := Y.2.1) (maxL := Y.2.2.1) (ret := Y.2.2.2) hy rfl ?_
  intro p e s m args below meth c s₁ B hml hv
  obtain ⟨rfl, hW, hK, hE⟩ := hv
  have hts := atoms_spec (ws := z_w Y) B.pre
  have hb0 : b ≤ s.heap.size := by rw [hW.1]; omega
  have hl := lv_entry (as.map (z_v b)) (n := Y.2.2.1) (by rw [z_sl_len]; exact hlen)
  rw [lg_entry_eq]
  rw [z_args_map, hlv] at hl
  exact h p l e s m _ below meth c b D cA s.heap _ [] ⟨B.exec, B.bytes, B.returns, hml, findClass_of_methodNamed B.named, fun w hw => hts w (List.mem_cons_of_mem _ hw), hK, hE, B.notSynchronized, (name_of_methodNamed B.named B.method).1, hb0⟩ hW va_S.rf hl
/-! memory -/
def z_u {α : Type} (f : Nat → Nat → α) (o k : Nat) (x : α) : Nat → Nat → α := fun a j => if a = o ∧ j = k then x else f a j
theorem z_u_same {α : Type} (f : Nat → Nat → α) (o k : Nat) (x : α) : z_u f o k x o k = x := if_pos ⟨rfl, rfl⟩
theorem z_u_ne {α : Type} {f : Nat → Nat → α} {o k a j : Nat} {x : α} (h : ¬ (a = o ∧ j = k)) : z_u f o k x a j = f a j := if_neg h
def z_sI (M : z_M) (o k : Nat) (x : Int32) : z_M := (M.1, z_u M.2.1 o k x, M.2.2.1, M.2.2.2)
def z_sJ (M : z_M) (o k : Nat) (x : Int64) : z_M := (M.1, M.2.1, z_u M.2.2.1 o k x, M.2.2.2)
def z_sR (M : z_M) (o k : Nat) (x : Option Nat) : z_M := (M.1, M.2.1, M.2.2.1, z_u M.2.2.2 o k x)
/-- one place of one object has changed -/
def z_One (M M1 : z_M) (o k : Nat) : Prop := M1.1 = M.1 ∧ ∀ a j, ¬ (a = o ∧ j = k) → M1.2.1 a j = M.2.1 a j ∧ M1.2.2.1 a j = M.2.2.1 a j ∧ M1.2.2.2 a j = M.2.2.2 a j
theorem z_One.I (M : z_M) (o k : Nat) (x : Int32) : z_One M (z_sI M o k x) o k := ⟨rfl, fun _ _ h => ⟨z_u_ne h, rfl, rfl⟩⟩
theorem z_One.J (M : z_M) (o k : Nat) (x : Int64) : z_One M (z_sJ M o k x) o k := ⟨rfl, fun _ _ h => ⟨rfl, z_u_ne h, rfl⟩⟩
theorem z_One.R (M : z_M) (o k : Nat) (x : Option Nat) : z_One M (z_sR M o k x) o k := ⟨rfl, fun _ _ h => ⟨rfl, rfl, z_u_ne h⟩⟩
theorem z_One.val {M M1 : z_M} {o k : Nat} (h : z_One M M1 o k) {b a j t : Nat} (hn : ¬ (a = o ∧ j = k)) : z_val b M1 a j t = z_val b M a j t := by
  obtain ⟨h1, h2, h3⟩ := h.2 a j hn
  unfold z_val
  rw [h1, h2, h3]
theorem z_val_upd {M M1 : z_M} {o k : Nat} (h : z_One M M1 o k) {b t : Nat} {v : Value} (hv : z_val b M1 o k t = v) : (fun j => z_val b M1 o j t) = updV (fun j => z_val b M o j t) k v := by
  funext j
  unfold updV
  by_cases hj : j = k
  · subst hj; rw [if_pos rfl]; exact hv
  · rw [if_neg hj]; exact h.val (fun q => hj q.2)
/-- the world behind a store into one place -/
theorem z_Wd.put {b : Nat} {D : va_G} {cA : Nat → ClassId} {M M1 : z_M} {H H1 : Heap} {o k : Nat} (h : z_Wd b D cA M H) (ho : o < M.1) (h1 : z_One M M1 o k) (hz : H1.size = H.size) (hq : ∀ q, q ≠ b + o → H1[q]? = H[q]?) (hat : z_at b D cA M1 H1 o) : z_Wd b D cA M1 H1 := by
  refine ⟨by rw [hz, h1.1]; exact h.1, fun a ha => ?_, fun a ha j => ?_⟩
  · rw [h1.1] at ha
    by_cases hao : a = o
    · subst hao; exact hat
    · have hk : H1[b + a]? = H[b + a]? := hq _ (by omega)
      have hv : ∀ j t, z_val b M1 a j t = z_val b M a j t := fun j t => h1.val (fun q => hao q.1)
      obtain ⟨g1, g2⟩ := h.2.1 a ha
      refine ⟨fun hc => ((g1 hc).kept hk).to (fun j _ => (hv j _).symm), fun hc => ?_⟩
      rw [hk, g2 hc]
      simp only [hv]
  · rw [h1.1] at ha
    obtain ⟨e1, e2, e3⟩ := h1.2 a j (fun q => by omega)
    rw [e1, e2, e3]
    exact h.2.2 a ha j
