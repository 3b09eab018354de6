/-! multianewarray of two dimensions: the outer row, then the inner rows one after the other -/
def mu_row (cA : ClassId) (N h i : Nat) : Cell := arrV cA N (fun j => if j < i then .ref (h + 1 + j) else .null)
theorem mu_row_set (cA : ClassId) (N h i : Nat) : (mu_row cA N h i).setSlot i (.ref (h + 1 + i)) = mu_row cA N h (i + 1) := by
  unfold mu_row
  rw [arrV_store]
  congr 1
  funext j
  unfold updV
  by_cases hj : j = i
  · subst hj
    rw [if_pos rfl, if_pos (Nat.lt_succ_self _)]
  · rw [if_neg hj]
    show (if j < i then Value.ref (h + 1 + j) else Value.null) = if j < i + 1 then Value.ref (h + 1 + j) else Value.null
    by_cases h1 : j < i
    · rw [if_pos h1, if_pos (by omega)]
    · rw [if_neg h1, if_neg (by omega)]
/-- the state when i inner rows are made -/
def mu_at (T : State) (cA cB : ClassId) (N K : Nat) (dv : Value) : Nat → State
  | 0 => T.pushCell (mu_row cA N T.heap.size 0)
  | i + 1 => ((mu_at T cA cB N K dv i).pushCell (arrV cB K (fun _ => dv))).setCell T.heap.size (mu_row cA N T.heap.size (i + 1))
theorem mu_facts (T : State) (cA cB : ClassId) (N K : Nat) (dv : Value) : ∀ i, (mu_at T cA cB N K dv i).heap.size = T.heap.size + 1 + i ∧ (mu_at T cA cB N K dv i).heap[T.heap.size]? = some (mu_row cA N T.heap.size i) ∧ (mu_at T cA cB N K dv i).vm = T.vm ∧ (mu_at T cA cB N K dv i).slotsUsed = T.slotsUsed + N + i * K ∧ (∀ q, q < T.heap.size → (mu_at T cA cB N K dv i).heap[q]? = T.heap[q]?) ∧ ∀ j, j < i → (mu_at T cA cB N K dv i).heap[T.heap.size + 1 + j]? = some (arrV cB K (fun _ => dv))
  | 0 => by
    refine ⟨by simp [mu_at], State.heap_pushCell_size _ _, rfl, ?_, fun q hq => State.heap_pushCell_of_lt _ _ hq, fun j hj => absurd hj (by omega)⟩
    show T.slotsUsed + (mu_row cA N T.heap.size 0).slots.size = _
    rw [show (mu_row cA N T.heap.size 0).slots.size = N from arrV_size _ _ _]
    omega
  | i + 1 => by
    obtain ⟨a1, a2, a3, a4, a5, a6⟩ := mu_facts T cA cB N K dv i
    have hp : ∀ q, q < T.heap.size + 1 + i → ((mu_at T cA cB N K dv i).pushCell (arrV cB K (fun _ => dv))).heap[q]? = (mu_at T cA cB N K dv i).heap[q]? := fun q hq => State.heap_pushCell_of_lt _ _ (by rw [a1]; exact hq)
    have hs : ∀ q, q ≠ T.heap.size → (mu_at T cA cB N K dv (i + 1)).heap[q]? = ((mu_at T cA cB N K dv i).pushCell (arrV cB K (fun _ => dv))).heap[q]? := fun q hq => State.heap_setCell_other (Ne.symm hq)
    refine ⟨?_, State.heap_setCell_self (c := mu_row cA N T.heap.size i) (by rw [hp _ (by omega)]; exact a2), a3, ?_, fun q hq => by rw [hs q (by omega), hp q (by omega), a5 q hq], fun j hj => ?_⟩
    · show (((mu_at T cA cB N K dv i).pushCell (arrV cB K (fun _ => dv))).setCell T.heap.size _).heap.size = _
      simp [State.setCell, a1]
      omega
    · show (mu_at T cA cB N K dv i).slotsUsed + (arrV cB K (fun _ => dv)).slots.size = _
      rw [a4, arrV_size, Nat.succ_mul]
      omega
    · rw [hs _ (by omega)]
      rcases Nat.lt_or_ge j i with q | q
      · rw [hp _ (by omega)]
        exact a6 j q
      · rw [show T.heap.size + 1 + j = (mu_at T cA cB N K dv i).heap.size by rw [a1]; omega]
        exact State.heap_pushCell_size _ _
theorem mu_top (T : State) (g : JFrame) (cA cB : ClassId) (N K : Nat) (dv : Value) : ∀ i, mu_at (T.setTop g) cA cB N K dv i = (mu_at T cA cB N K dv i).setTop g
  | 0 => rfl
  | i + 1 => by
    show ((mu_at (T.setTop g) cA cB N K dv i).pushCell _).setCell T.heap.size _ = _
    rw [mu_top T g cA cB N K dv i]
    rfl
section MU
variable {E : CtlPost} {e : Env}
/-- a loop over the numbers from i on: S i, S (i + 1) .. are the states at its turns -/
theorem mu_turns {N : Nat} {f : Nat → PUnit → Sem (ForInStep PUnit)} {S : Nat → State} (hf : ∀ i, i < N → ∀ (Q : ForInStep PUnit → Pre) (d : Bool) (acts : List Action), (∀ d' acts', Q (ForInStep.yield PUnit.unit) d' acts' (S (i + 1))) → wp (f i PUnit.unit) Q E e d acts (S i)) :
    ∀ (r i : Nat), i + r = N → ∀ (Q : PUnit → Pre) (d : Bool) (acts : List Action), (∀ d' acts', Q PUnit.unit d' acts' (S N)) → wp (forIn (List.range' i r) PUnit.unit f) Q E e d acts (S i)
  | 0, i, h, Q, d, acts, hq => by
    have hi : i = N := by omega
    subst hi
    rw [show List.range' i 0 = [] from rfl, List.forIn_nil, wp_pure']
    exact hq d acts
  | r + 1, i, h, Q, d, acts, hq => by
    rw [List.range'_succ, List.forIn_cons, wp_bind']
    exact hf i (by omega) _ d acts (fun d' acts' => mu_turns hf r (i + 1) (by omega) Q d' acts' hq)
variable {d : Bool} {acts : List Action} {s : State}
theorem mu_new {c comp : ClassId} {k : Class} {ty : FieldType} {n : Nat} {v : Value} (hk : s.vm.classes[c]? = some k) (hkind : k.kind = .array comp ty) (hl : n ≤ e.platform.arrayLengthLimit) (hb : n * componentBytes ty ≤ e.platform.maxHeapBytes) (hf : fits ty v = true) (hv : v.isDefault = true) (h1 : s.heap.size < e.platform.maxCells) (h2 : s.slotsUsed + n ≤ e.platform.maxSlots)
    {Q : Addr → Pre} (hq : Q s.heap.size d acts (s.pushCell (arrV c n (fun _ => v)))) : wp (Jvm.newArray c n v) Q E e d acts s := by
  have g1 : ¬ n > e.platform.arrayLengthLimit := Nat.not_lt.mpr hl
  have g2 : ¬ n * componentBytes ty > e.platform.maxHeapBytes := Nat.not_lt.mpr hb
  have g3 : ¬ n > e.platform.maxSlots := by omega
  have ha : allocActs (Array.replicate n v) s.heap.size acts = acts := by
    unfold allocActs
    refine if_pos ?_
    rw [Array.all_replicate]
    split <;> simp [hv]
  simp only [Jvm.newArray, Jvm.arrayFits, wp_bind', Jvm.W.ask, Jvm.W.ite, g1, g2, g3, if_false, wp_pure', Jvm.W.theClass, hk, hkind, Jvm.W.alloc, Option.some.injEq, exists_eq_left', Array.size_replicate, ha]
  refine ⟨h1, h2, fun i w hw => ?_, ?_⟩
  · rw [Array.getElem?_replicate] at hw
    split at hw
    · cases hw
      simp [State.fitsSlot, State.slotType?, hk, hkind, hf]
    · cases hw
  · rw [arrV_new]
    exact hq
theorem mu_make1 {cB cC : ClassId} {kB : Class} {ty : FieldType} {x : Int32} {K : Nat} (hk : s.vm.classes[cB]? = some kB) (hkind : kB.kind = .array cC ty) (hx : ¬ x < 0) (hK : x.toNatClampNeg = K) (hl : K ≤ e.platform.arrayLengthLimit) (hb : K * componentBytes ty ≤ e.platform.maxHeapBytes) (hf : fits ty (defaultValue ty) = true) (hv : (defaultValue ty).isDefault = true) (h1 : s.heap.size < e.platform.maxCells) (h2 : s.slotsUsed + K ≤ e.platform.maxSlots)
    {Q : Addr → Pre} (hq : Q s.heap.size d acts (s.pushCell (arrV cB K (fun _ => defaultValue ty)))) : wp (multianewarray.make cB [x]) Q E e d acts s := by
  subst hK
  rw [multianewarray.make]
  simp only [wp_bind', Jvm.W.ite, hx, if_false, wp_pure', Jvm.W.theClass, hk, hkind, Option.some.injEq, exists_eq_left']
  exact mu_new hk hkind hl hb hf hv h1 h2 hq
theorem mu_make2 {cA cB cC : ClassId} {kA kB : Class} {ty : FieldType} {x y : Int32} {N K : Nat} (hkA : s.vm.classes[cA]? = some kA) (hkA' : kA.kind = .array cB (.array ty)) (hkB : s.vm.classes[cB]? = some kB) (hkB' : kB.kind = .array cC ty) (hx : ¬ x < 0) (hN : x.toNatClampNeg = N) (hy : ¬ y < 0) (hK : y.toNatClampNeg = K)
    (hl1 : N ≤ e.platform.arrayLengthLimit) (hb1 : N * componentBytes (.array ty) ≤ e.platform.maxHeapBytes) (hl2 : K ≤ e.platform.arrayLengthLimit) (hb2 : K * componentBytes ty ≤ e.platform.maxHeapBytes) (hf : fits ty (defaultValue ty) = true) (hv : (defaultValue ty).isDefault = true) (h1 : s.heap.size + (1 + N) ≤ e.platform.maxCells) (h2 : s.slotsUsed + (N + N * K) ≤ e.platform.maxSlots)
    {Q : Addr → Pre} (hq : ∀ d' acts', Q s.heap.size d' acts' (mu_at s cA cB N K (defaultValue ty) N)) : wp (multianewarray.make cA [x, y]) Q E e d acts s := by
  subst hN
  have hz : ([y].find? (· < 0)) = none := by simp [hy]
  rw [multianewarray.make]
  simp only [wp_bind', Jvm.W.ite, hx, if_false, wp_pure', Jvm.W.theClass, hkA, hkA', Option.some.injEq, exists_eq_left']
  refine mu_new hkA hkA' hl1 hb1 rfl rfl (by omega) (by omega) ?_
  simp only [hz]
  rw [ite_self, wp_bind', Std.Legacy.Range.forIn_eq_forIn_range', show ([:x.toNatClampNeg] : Std.Legacy.Range).size = x.toNatClampNeg by simp [Std.Legacy.Range.size]]
  refine mu_turns (N := x.toNatClampNeg) (S := mu_at s cA cB x.toNatClampNeg K (defaultValue ty)) (fun i hi Q' d' acts' hq' => ?_) x.toNatClampNeg 0 (by omega) _ d acts (fun d' acts' => by rw [wp_pure']; exact hq d' acts')
  obtain ⟨a1, a2, a3, a4, a5, a6⟩ := mu_facts s cA cB x.toNatClampNeg K (defaultValue ty) i
  have hm : (i + 1) * K ≤ x.toNatClampNeg * K := Nat.mul_le_mul_right K hi
  rw [Nat.succ_mul] at hm
  simp only [wp_bind']
  refine mu_make1 (by rw [a3]; exact hkB) hkB' hy hK hl2 hb2 hf hv (by rw [a1]; omega) (by rw [a4]; omega) ?_
  have hc : ((mu_at s cA cB x.toNatClampNeg K (defaultValue ty) i).pushCell (arrV cB K (fun _ => defaultValue ty))).heap[s.heap.size]? = some (mu_row cA x.toNatClampNeg s.heap.size i) := by
    have hlt : s.heap.size < (mu_at s cA cB x.toNatClampNeg K (defaultValue ty) i).heap.size := by rw [a1]; omega
    rw [State.heap_pushCell_of_lt _ _ hlt]
    exact a2
  simp only [wp_bind', Jvm.W.writeLoc, wp_pure']
  refine ⟨_, hc, (by intro h; cases h), (by show i < (arrV _ _ _).slots.size; rw [arrV_size]; exact hi), ?_, ?_⟩
  · show State.fitsSlot _ cA .none i _ = true
    simp [State.fitsSlot, State.slotType?, a3, hkA, hkA', fits]
  · rw [a1, mu_row_set]
    exact hq' _ _
end MU
section MV
variable {p : Program} {l : Launch} {e : Env} {R : Room} {s : State} {m : MethodId} {args : Array Value} {below : List Frame} {meth : Method} {c : Code} {locs : List Loc} {cells slots : Nat}
theorem mu_stand {T : State} (X : Stand p l e R s m args below meth c T locs cells slots) (cA cB : ClassId) (N K : Nat) (dv : Value) : ∀ i, ∃ L : List Loc, (∀ q ∈ L, q.base = T.heap.size) ∧ Stand p l e R s m args below meth c (mu_at T cA cB N K dv i) (locs ++ L) (cells + 1 + i) (slots + N + i * K)
  | 0 => by
    refine ⟨[], fun q h => by simp at h, ?_⟩
    have h := X.pushed (mu_row cA N T.heap.size 0)
    rw [show (mu_row cA N T.heap.size 0).slots.size = N from arrV_size _ _ _] at h
    rw [List.append_nil, Nat.zero_mul]
    exact h
  | i + 1 => by
    obtain ⟨L, hL, Xi⟩ := mu_stand X cA cB N K dv i
    obtain ⟨a1, a2, -⟩ := mu_facts T cA cB N K dv i
    have hc : ((mu_at T cA cB N K dv i).pushCell (arrV cB K (fun _ => dv))).heap[T.heap.size]? = some (mu_row cA N T.heap.size i) := by
      have hlt : T.heap.size < (mu_at T cA cB N K dv i).heap.size := by rw [a1]; omega
      rw [State.heap_pushCell_of_lt _ _ hlt]
      exact a2
    have h := (Xi.pushed (arrV cB K (fun _ => dv))).stored hc i (.ref (T.heap.size + 1 + i))
    rw [mu_row_set, arrV_size, List.append_assoc] at h
    refine ⟨L ++ [⟨T.heap.size, i⟩], fun q hq => ?_, ?_⟩
    · rcases List.mem_append.mp hq with h | h
      · exact hL q h
      · rw [List.mem_singleton.mp h]
    · rw [show slots + N + (i + 1) * K = slots + N + i * K + K by rw [Nat.succ_mul]; omega]
      exact h
theorem mu_W {H : Heap} {Q : State → Prop} {cc : ByteArray} (hexec : p.tables.exec = Jvm.exec) (hb : c.code = cc) {own : String} {index N K : Nat} {ty : FieldType} (hown : s.vm.findClass own = some m.cls) (hcl : (Cond.classLink own index ("[" ++ (FieldType.array ty).toString)).before args s = true) (hov : (Cond.arrayOver (.array ty)).before args s = true) (har : (Cond.arrayClass ty).before args s = true)
    {g : JFrame} (hg : g.method = m) (hdg : decode cc g.pc = .ok (.multianewarray index 2, 4)) {x y : Int32} {rest : List Value} (hst : g.stack = .int y :: .int x :: rest) (hx : ¬ x < 0) (hN : x.toNatClampNeg = N) (hy : ¬ y < 0) (hK : y.toNatClampNeg = K) (hN2 : N ≤ 60000000) (hK2 : K ≤ 60000000) (hc8 : componentBytes ty ≤ 8) (hf : fits ty (defaultValue ty) = true) (hv : (defaultValue ty).isDefault = true)
    (hcells : cells + (1 + N) ≤ R.cells) (hslots : slots + (N + N * K) ≤ R.slots)
    (kk : ∀ (H' : Heap) (cA cB : ClassId) (L : List Loc), s.vm.findClass ("[" ++ (FieldType.array ty).toString) = some cA → s.vm.findClass (FieldType.array ty).toString = some cB → (∀ q ∈ L, q.base = H.size) → H'.size = H.size + 1 + N → (∀ q, q < H.size → H'[q]? = H[q]?) → H'[H.size]? = some (arrV cA N (fun j => if j < N then .ref (H.size + 1 + j) else .null)) → (∀ j, j < N → H'[H.size + 1 + j]? = some (arrV cB K (fun _ => defaultValue ty))) →
      W p l e R s m args below meth c H' (locs ++ L) (cells + 1 + N) (slots + N + N * K) Q { g with pc := g.pc + 4, stack := .ref H.size :: rest }) : W p l e R s m args below meth c H locs cells slots Q g := by
  intro T hT X
  subst hT; subst hb; subst hg
  have hpl : e.platform.magicAccessors = ({} : Platform).magicAccessors := by rw [X.admits.platform]
  obtain ⟨cB, cA, kA, hcB, -, hkA, hkA', hcA⟩ := arrayOverA_spec hov
  obtain ⟨cB', kB, cC, hcB', hkB, hkB'⟩ := Cond.arrayClass_spec har
  cases hcB.symm.trans hcB'
  obtain ⟨c0, hc0, hlk⟩ := Cond.classLink_spec hown hcl e.platform hpl
  cases hcA.symm.trans hc0
  obtain ⟨hg1, hw1, hr1⟩ := State.classEntry (e := e) X.warmed hlk
  generalize T.vm.noted g.method.cls index (.cls cA) = vm1 at hg1 hw1 hr1
  have hal : s.vm.Alike vm1 := hw1.alike
  obtain ⟨kA1, hkA1, eA⟩ := hal.2.2 _ _ hkA
  obtain ⟨kB1, hkB1, eB⟩ := hal.2.2 _ _ hkB
  have hkA1' : kA1.kind = .array cB (.array ty) := by rw [eA]; exact hkA'
  have hkB1' : kB1.kind = .array cC ty := by rw [eB]; exact hkB'
  obtain ⟨r1, r2⟩ := X.roomAbove hcells hslots
  obtain ⟨L, hL, X1⟩ := mu_stand (X.noted hw1) cA cB N K (defaultValue ty) N
  obtain ⟨a1, a2, a3, a4, a5, a6⟩ := mu_facts (T.setVm vm1) cA cB N K (defaultValue ty) N
  obtain ⟨t, b1, b2⟩ := kk _ cA cB L hcA hcB hL a1 a5 a2 a6 _ rfl X1
  refine ⟨t, ?_, b2⟩
  have q1 : N ≤ e.platform.arrayLengthLimit := by rw [Launch.admits_arrayLengthLimit X.admits]; omega
  have q2 : N * componentBytes (.array ty) ≤ e.platform.maxHeapBytes := by
    rw [Launch.admits_maxHeapBytes X.admits]
    show N * 4 ≤ 536870912
    omega
  have q3 : K ≤ e.platform.arrayLengthLimit := by rw [Launch.admits_arrayLengthLimit X.admits]; omega
  have q4 : K * componentBytes ty ≤ e.platform.maxHeapBytes := by
    rw [Launch.admits_maxHeapBytes X.admits]
    exact Nat.le_trans (Nat.mul_le_mul hK2 hc8) (by decide)
  jvm_step X.here [hexec, hdg]
  simp only [multianewarray.sem, wp_bind', Jvm.W.resolveClassAt_links (State.method?_setTop g X.here.top) hg1]
  rw [Jvm.W.popN, if_neg (by decide)]
  refine ⟨g, State.topJava?_setTop' (s := T.setVm vm1) g X.here.top, [.int x, .int y], rest, rfl, hst, ?_⟩
  simp only [List.mapM_cons, List.mapM_nil, wp_bind', wp_pure']
  refine mu_make2 (s := ((T.setTop g).setVm vm1).setTop { g with stack := rest }) hkA1 hkA1' hkB1 hkB1' hx hN hy hK q1 q2 q3 q4 hf hv (by show T.heap.size + (1 + N) ≤ _; exact r1) (by show T.slotsUsed + (N + N * K) ≤ _; exact r2) (fun d' acts' => ?_)
  rw [show ((T.setTop g).setVm vm1).setTop { g with stack := rest } = (T.setVm vm1).setTop { g with stack := rest } from State.setTop_setTop (T.setVm vm1) g _, mu_top]
  simp only [wp_bind', Jvm.W.mark, Jvm.W.pushRef, State.topJava?_setTop' _ X1.here.top, Option.some.injEq, exists_eq_left', State.setTop_setTop, State.heap_setTop]
  intro acts
  simp [jvm, X1.here.top]
  exact b1
end MV
section ZMU
variable {Y : z_Y} {d mc ms : Nat} {rv : Option Value} {M' M : z_M} {pc cs sl : Nat} {lv lv' : List (Nat × Value)} {st : List Value}
/-- the references of a table of rows -/
def z_mR (R : Nat → Nat → Option Nat) (o N : Nat) : Nat → Nat → Option Nat := fun a j => if a = o ∧ j < N then some (o + 1 + j) else R a j
theorem z_mul {idx t u N K o cs' sl' : Nat} {x y : Int32} {ty : FieldType} {M1 : z_M} (hd : decode Y.2.1 pc = .ok (.multianewarray idx 2, 4)) (ht : (t = 23 ∧ u = 20 ∧ ty = .int) ∨ (t = 24 ∧ u = 21 ∧ ty = .long)) (hcl : Cond.classLink Y.1.cls idx ("[" ++ (FieldType.array ty).toString) ∈ z_tbl) (har : Cond.arrayClass ty ∈ z_tbl) (eo : M.1 = o) (hk : z_kind o = (t, N)) (hki : ∀ j, j < N → z_kind (o + 1 + j) = (u, K)) (hx : ¬ x < 0) (hN : x.toNatClampNeg = N) (hy : ¬ y < 0) (hK : y.toNatClampNeg = K) (hN2 : N ≤ 60000000) (hK2 : K ≤ 60000000) (ecs : cs + 1 + N = cs') (esl : sl + N + N * K = sl') (hcs : cs' ≤ mc) (hsl : sl' ≤ ms) (eM : (M.1 + 1 + N, M.2.1, M.2.2.1, z_mR M.2.2.2 o N) = M1) (kk : z_G Y d mc ms rv M' (pc + 4) lv (.ref o :: st) cs' sl' M1) : z_G Y d mc ms rv M' pc lv (.int y :: .int x :: st) cs sl M := by
  intro p l e s m args below meth c b D cA H ls locs C hW hS hl
  subst eo; subst ecs; subst esl; subst eM
  have hts := C.2.2.2.2.2.1
  have hK0 := C.2.2.2.2.2.2.1
  have hov : (Cond.arrayOver (.array ty)).before args s = true := by
    obtain ⟨_, -, -, -, hi, hj, -⟩ := C.2.2.2.2.2.2.2.1.2.2.2.2.2.2.2
    rcases ht with ⟨-, -, rfl⟩ | ⟨-, -, rfl⟩
    · exact hi
    · exact hj
  have hty : componentBytes ty ≤ 8 ∧ fits ty (defaultValue ty) = true ∧ (defaultValue ty).isDefault = true ∧ ty = z_tA u ∧ FieldType.array ty = z_tA t ∧ z_okT ty = true ∧ ¬ u < 13 ∧ ¬ t < 13 ∧ 20 ≤ t ∧ t < 26 ∧ 20 ≤ u ∧ u < 26 ∧ z_code (z_tA t) = 2 := by
    rcases ht with ⟨rfl, rfl, rfl⟩ | ⟨rfl, rfl, rfl⟩ <;> exact ⟨by decide, rfl, rfl, rfl, rfl, rfl, by decide, by decide, by decide, by decide, by decide, by decide, rfl⟩
  obtain ⟨p1, p2, p3, p4, p5, p6, p7, p8, p9, p10, p11, p12, p13⟩ := hty
  refine mu_W C.1 C.2.1 (N := N) (K := K) C.2.2.2.2.1 (hts _ hcl) hov (hts _ har) rfl hd rfl hx hN hy hK hN2 hK2 p1 p2 p3 (by show _ ≤ mc; omega) (by show _ ≤ ms; omega) fun H1 c1 c2 L h1 h2 hL z1 o1 e1 e2 => ?_
  have hsz := hW.1
  have hc1 : c1 = cA t := by
    have hR := z_RA hK0 p9 p10
    rcases ht with ⟨rfl, rfl, rfl⟩ | ⟨rfl, rfl, rfl⟩ <;> exact Option.some.inj (h1.symm.trans hR)
  have hc2 : c2 = cA u := by
    have hR := z_RA hK0 p11 p12
    rcases ht with ⟨rfl, rfl, rfl⟩ | ⟨rfl, rfl, rfl⟩ <;> exact Option.some.inj (h2.symm.trans hR)
  subst hc1; subst hc2
  have hW1 : z_Wd b D cA (M.1 + 1 + N, M.2.1, M.2.2.1, z_mR M.2.2.2 M.1 N) H1 := by
    refine ⟨by rw [z1, hsz]; show b + M.1 + 1 + N = b + (M.1 + 1 + N); omega, fun k hk2 => ?_, fun k hk2 j => ?_⟩
    · have hk2 : k < M.1 + 1 + N := hk2
      have hv : k ≠ M.1 → ∀ j q, z_val b (M.1 + 1 + N, M.2.1, M.2.2.1, z_mR M.2.2.2 M.1 N) k j q = z_val b M k j q := fun hne j q => by
        match q with
        | 0 => rfl
        | 1 => rfl
        | q + 2 =>
          show va_rf ((z_mR M.2.2.2 M.1 N k j).map (fun r => b + r)) = va_rf ((M.2.2.2 k j).map (fun r => b + r))
          rw [show z_mR M.2.2.2 M.1 N k j = M.2.2.2 k j from if_neg (fun q => hne q.1)]
      rcases Nat.lt_trichotomy k M.1 with q | q | q
      · have hk' : H1[b + k]? = H[b + k]? := o1 _ (by rw [hsz]; omega)
        obtain ⟨g1, g2⟩ := hW.2.1 k q
        refine ⟨fun hc => ((g1 hc).kept hk').to (fun j _ => (hv (by omega) j _).symm), fun hc => ?_⟩
        rw [hk', g2 hc]
        simp only [hv (Nat.ne_of_lt q)]
      · subst q
        refine ⟨fun hc => absurd hc (by rw [hk]; exact p8), fun hc => ?_⟩
        rw [hk, ← hsz, e1]
        congr 2
        funext j
        show _ = z_val b _ M.1 j (z_code (z_tA t))
        rw [p13]
        show _ = va_rf ((z_mR M.2.2.2 M.1 N M.1 j).map (fun r => b + r))
        unfold z_mR
        by_cases hj : j < N
        · rw [if_pos hj, if_pos ⟨rfl, hj⟩, hsz]
          show Value.ref (b + M.1 + 1 + j) = Value.ref (b + (M.1 + 1 + j))
          rw [show b + M.1 + 1 + j = b + (M.1 + 1 + j) by omega]
        · rw [if_neg hj, if_neg (fun q => hj q.2), (hW.2.2 M.1 (Nat.le_refl _) j).2.2]
          rfl
      · obtain ⟨i, hi, rfl⟩ : ∃ i, i < N ∧ k = M.1 + 1 + i := ⟨k - (M.1 + 1), by omega, by omega⟩
        have hki' := hki i hi
        refine ⟨fun hc => absurd hc (by rw [hki']; exact p7), fun hc => ?_⟩
        rw [hki', show b + (M.1 + 1 + i) = H.size + 1 + i by rw [hsz]; omega, e2 i hi]
        congr 2
        funext j
        rw [hv (by omega), z_val_new _ (hW.2.2 (M.1 + 1 + i) (by omega) j), ← p4, z_dv p6]
    · have hk2 : M.1 + 1 + N ≤ k := hk2
      obtain ⟨g1, g2, g3⟩ := hW.2.2 k (by omega) j
      refine ⟨g1, g2, ?_⟩
      show z_mR M.2.2.2 M.1 N k j = none
      rw [show z_mR M.2.2.2 M.1 N k j = M.2.2.2 k j from if_neg (fun q => by omega)]
      exact g3
  have h := kk p l e s m args below meth c b D cA H1 ls (locs ++ L) C hW1 ⟨Nat.le_trans hS.1 (by omega), fun q g1 g2 => (o1 q (Nat.lt_of_lt_of_le g1 hS.1)).trans (hS.2.1 q g1 g2), fun q hq => by
    rcases List.mem_append.mp hq with h | h
    · exact hS.2.2 q h
    · rw [hL q h, hsz]; show b ≤ b + M.1; omega⟩ hl
  rw [hsz]
  exact h
end ZMU
