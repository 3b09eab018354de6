/-! The static world: all objects are made; memory is what their ints and longs hold, and which of the two heaps is current, which the reader's. The class' objects (world true) lie below 253, the reference's (world false) from there on. -/
abbrev z_S : Type := (Nat → Nat → Int32) × (Nat → Nat → Int64) × Bool × Bool
def z_hn (c : Bool) : Nat := match c with
  | false => 56
  | true => 96
def z_Rs (c r : Bool) (o j : Nat) : Option Nat := if o = 0 ∧ j = 14 then some (z_hn c) else if o = 95 ∧ j = 2 then some (z_hn r) else z_R0 o j
def z_own (w : Bool) (o : Nat) : Bool := decide (o < 253) == w
/-- the kinds of a world's own objects -/
def z_kw (w : Bool) (o : Nat) : Nat × Nat := if z_own w o = true then z_kind o else (99, 0)
/-- the memory of both worlds: μ is the own one's, ν the other one's -/
def z_mm (w : Bool) (μ ν : z_S) : z_M := (z_NO, fun o j => if z_own w o = true then μ.1 o j else ν.1 o j, fun o j => if z_own w o = true then μ.2.1 o j else ν.2.1 o j, z_Rs (cond w μ ν).2.2.1 (cond w μ ν).2.2.2)
def z_sim {α : Type} (w : Bool) (ret : α → Option Value) (Y : z_Y) (d : Nat) (X : Option (α × z_S)) (pc : Nat) (lv : List (Nat × Value)) (st : List Value) (μ : z_S) : Prop :=
  ∀ a μ', X = some (a, μ') → ∀ ν, z_G Y d 0 0 (ret a) (z_mm w μ' ν) pc lv st 0 0 (z_mm w μ ν)
/-- a method does what its mirror X tells -/
def z_met {α : Type} (w : Bool) (ret : α → Option Value) (Y : z_Y) (d : Nat) (as : List Value) (μ : z_S) (X : Option (α × z_S)) : Prop :=
  ∀ a μ', X = some (a, μ') → ∀ ν, z_K Y d 0 0 as (z_mm w μ ν) (ret a) (z_mm w μ' ν)
theorem z_met.of {α : Type} {w : Bool} {ret : α → Option Value} {Y : z_Y} {d : Nat} {as : List Value} {μ : z_S} {X : Option (α × z_S)} (hy : plainFor Y.1 = true) (hlen : (lg_sl as).length ≤ Y.2.2.1) {lv : List (Nat × Value)} (hlv : lv_args 0 as = lv) (h : z_sim w ret Y d X 0 lv [] μ) : z_met w ret Y d as μ X := fun a μ' e ν => z_K.of hy hlen hlv (h a μ' e ν)
abbrev rI : Int32 → Option Value := fun x => some (.int x)
abbrev rJ : Int64 → Option Value := fun x => some (.long x)
abbrev rV : Unit → Option Value := fun _ => none
/-! the words of mirrors -/
def z_bd {α β : Type} (a : α) (f : α → β) : β := f a
def z_in {α : Type} (i : Int32) (n : Nat) (X : Option α) : Option α := if i < 0 ∨ n ≤ i.toNatClampNeg then none else X
def z_nz {α : Type} (i : Int32) (X : Option α) : Option α := if i = 0 then none else X
def z_nzJ {α : Type} (i : Int64) (X : Option α) : Option α := if i = 0 then none else X
def z_zb {α : Type} (i : Int32) (X : Option α) : Option α := if i = 0 ∨ i = 1 then X else none
def z_kd {α : Type} (w : Bool) (o t : Nat) (X : Option α) : Option α := if (z_kw w o).1 = t then X else none
def z_bn {α β : Type} (F : Option (α × z_S)) (X : α → z_S → Option β) : Option β := match F with
  | none => none
  | some (a, μ) => X a μ
def z_setI (μ : z_S) (o k : Nat) (x : Int32) : z_S := (z_u μ.1 o k x, μ.2.1, μ.2.2.1, μ.2.2.2)
def z_setJ (μ : z_S) (o k : Nat) (x : Int64) : z_S := (μ.1, z_u μ.2.1 o k x, μ.2.2.1, μ.2.2.2)
def z_setC (μ : z_S) (c : Bool) : z_S := (μ.1, μ.2.1, c, μ.2.2.2)
def z_setH (μ : z_S) (r : Bool) : z_S := (μ.1, μ.2.1, μ.2.2.1, r)
def z_cpS (μ : z_S) (o0 sp o1 dp n : Nat) : z_S := (fun a j => if a = o1 ∧ dp ≤ j ∧ j < dp + n then μ.1 o0 (sp + (j - dp)) else μ.1 a j, μ.2.1, μ.2.2.1, μ.2.2.2)
def z_cpin {α : Type} (sp dp n : Int32) (n0 n1 : Nat) (X : Option α) : Option α := if sp < 0 ∨ dp < 0 ∨ n < 0 ∨ n0 < sp.toNatClampNeg + n.toNatClampNeg ∨ n1 < dp.toNatClampNeg + n.toNatClampNeg then none else X
theorem z_Rs_c (c c' r : Bool) : z_u (z_Rs c r) 0 14 (some (z_hn c')) = z_Rs c' r := by
  funext o j
  unfold z_u z_Rs
  by_cases h : o = 0 ∧ j = 14
  · rw [if_pos h, if_pos h]
  · rw [if_neg h, if_neg h, if_neg h]
theorem z_Rs_h (c r r' : Bool) : z_u (z_Rs c r) 95 2 (some (z_hn r')) = z_Rs c r' := by
  funext o j
  unfold z_u z_Rs
  by_cases h : o = 95 ∧ j = 2
  · rw [if_pos h, if_neg (by omega), if_pos h]
  · rw [if_neg h, if_neg h, if_neg h]
theorem z_kwk {w : Bool} {o t n : Nat} (h : z_kw w o = (t, n)) (ht : t ≠ 99) : z_own w o = true ∧ z_kind o = (t, n) := by
  unfold z_kw at h
  split at h
  · next hc => exact ⟨hc, h⟩
  · cases h; exact absurd rfl ht
theorem z_ltk {w : Bool} {o t n : Nat} (h0 : z_kw w o = (t, n)) (ht : t ≠ 99) : o < z_NO := by
  have h := (z_kwk h0 ht).2
  rcases Nat.lt_or_ge o z_NO with q | q
  · exact q
  · exfalso
    apply ht
    have h1 : z_kind o = (99, 0) := by
      unfold z_kind
      rw [List.getD_eq_getElem?_getD, List.getElem?_eq_none (by rw [show z_kl.length = z_NO by decide +kernel]; exact q)]
      rfl
    rw [h1] at h
    cases h
    rfl
theorem z_hn_k (c : Bool) : z_kw true (z_hn c) = (2, 0) := by cases c <;> rfl
theorem z_mmI {w : Bool} {μ ν : z_S} {o k t n : Nat} (h : z_kw w o = (t, n)) (ht : t ≠ 99) : (z_mm w μ ν).2.1 o k = μ.1 o k := if_pos (z_kwk h ht).1
theorem z_mmJ {w : Bool} {μ ν : z_S} {o k t n : Nat} (h : z_kw w o = (t, n)) (ht : t ≠ 99) : (z_mm w μ ν).2.2.1 o k = μ.2.1 o k := if_pos (z_kwk h ht).1
theorem z_mm_setI {w : Bool} {μ ν : z_S} {o t n : Nat} (h : z_kw w o = (t, n)) (ht : t ≠ 99) (k : Nat) (x : Int32) : z_sI (z_mm w μ ν) o k x = z_mm w (z_setI μ o k x) ν := by
  have h1 := (z_kwk h ht).1
  unfold z_sI z_mm z_setI
  refine Prod.ext rfl (Prod.ext ?_ (Prod.ext rfl ?_))
  · funext a j
    show z_u (fun o j => if z_own w o = true then μ.1 o j else ν.1 o j) o k x a j = if z_own w a = true then z_u μ.1 o k x a j else ν.1 a j
    unfold z_u
    by_cases ha : a = o ∧ j = k
    · rw [if_pos ha, ha.1, if_pos h1, if_pos ⟨rfl, ha.2⟩]
    · rw [if_neg ha, if_neg ha]
  · cases w <;> rfl
theorem z_mm_setJ {w : Bool} {μ ν : z_S} {o t n : Nat} (h : z_kw w o = (t, n)) (ht : t ≠ 99) (k : Nat) (x : Int64) : z_sJ (z_mm w μ ν) o k x = z_mm w (z_setJ μ o k x) ν := by
  have h1 := (z_kwk h ht).1
  unfold z_sJ z_mm z_setJ
  refine Prod.ext rfl (Prod.ext rfl (Prod.ext ?_ ?_))
  · funext a j
    show z_u (fun o j => if z_own w o = true then μ.2.1 o j else ν.2.1 o j) o k x a j = if z_own w a = true then z_u μ.2.1 o k x a j else ν.2.1 a j
    unfold z_u
    by_cases ha : a = o ∧ j = k
    · rw [if_pos ha, ha.1, if_pos h1, if_pos ⟨rfl, ha.2⟩]
    · rw [if_neg ha, if_neg ha]
  · cases w <;> rfl
theorem z_mm_cp {w : Bool} {μ ν : z_S} {o0 o1 t0 n0 t1 n1 : Nat} (h0 : z_kw w o0 = (t0, n0)) (ht0 : t0 ≠ 99) (h : z_kw w o1 = (t1, n1)) (ht : t1 ≠ 99) (sp dp n : Nat) : z_cp (z_mm w μ ν) o0 sp o1 dp n = z_mm w (z_cpS μ o0 sp o1 dp n) ν := by
  have h1 := (z_kwk h ht).1
  have h2 := (z_kwk h0 ht0).1
  unfold z_cp z_mm z_cpS
  refine Prod.ext rfl (Prod.ext ?_ (Prod.ext rfl ?_))
  · funext a j
    show (if a = o1 ∧ dp ≤ j ∧ j < dp + n then (if z_own w o0 = true then μ.1 o0 (sp + (j - dp)) else ν.1 o0 (sp + (j - dp))) else (if z_own w a = true then μ.1 a j else ν.1 a j)) = if z_own w a = true then (if a = o1 ∧ dp ≤ j ∧ j < dp + n then μ.1 o0 (sp + (j - dp)) else μ.1 a j) else ν.1 a j
    by_cases ha : a = o1 ∧ dp ≤ j ∧ j < dp + n
    · rw [if_pos ha, if_pos ha, if_pos h2, ha.1, if_pos h1]
    · rw [if_neg ha, if_neg ha]
  · cases w <;> rfl
section ZS
variable {α : Type} {w : Bool} {ret : α → Option Value} {Y : z_Y} {d : Nat} {X X1 X2 : Option (α × z_S)} {pc : Nat} {lv lv' : List (Nat × Value)} {st : List Value} {μ : z_S}
theorem s_iconst {n : Int} {v : Int32} (hd : decode Y.2.1 pc = .ok (.iconst n, 1)) (hv : Int32.ofInt n = v) (kk : z_sim w ret Y d X (pc + 1) lv (.int v :: st) μ) : z_sim w ret Y d X pc lv st μ := fun a μ' h ν => z_iconst hd hv (kk a μ' h ν)
theorem s_bipush {n : Int} {v : Int32} (hd : decode Y.2.1 pc = .ok (.bipush n, 2)) (hv : (Int8.ofInt n).toInt32 = v) (kk : z_sim w ret Y d X (pc + 2) lv (.int v :: st) μ) : z_sim w ret Y d X pc lv st μ := fun a μ' h ν => z_bipush hd hv (kk a μ' h ν)
theorem s_sipush {n : Int} {v : Int32} (hd : decode Y.2.1 pc = .ok (.sipush n, 3)) (hv : (Int16.ofInt n).toInt32 = v) (kk : z_sim w ret Y d X (pc + 3) lv (.int v :: st) μ) : z_sim w ret Y d X pc lv st μ := fun a μ' h ν => z_sipush hd hv (kk a μ' h ν)
theorem s_lconst {n : Fin 2} {v : Int64} (hd : decode Y.2.1 pc = .ok (.lconst n, 1)) (hv : Int64.ofNat (n : Nat) = v) (kk : z_sim w ret Y d X (pc + 1) lv (.long v :: st) μ) : z_sim w ret Y d X pc lv st μ := fun a μ' h ν => z_lconst hd hv (kk a μ' h ν)
theorem s_ldc {idx : Nat} {v : Int32} (hd : decode Y.2.1 pc = .ok (.ldc idx, 2)) (hw : Cond.constant Y.1.cls idx v ∈ z_tbl) (kk : z_sim w ret Y d X (pc + 2) lv (.int v :: st) μ) : z_sim w ret Y d X pc lv st μ := fun a μ' h ν => z_ldc hd hw (kk a μ' h ν)
theorem s_ldc2 {idx : Nat} {v : Int64} (hd : decode Y.2.1 pc = .ok (.ldc2_w idx, 3)) (hw : Cond.constantLong Y.1.cls idx v ∈ z_tbl) (kk : z_sim w ret Y d X (pc + 3) lv (.long v :: st) μ) : z_sim w ret Y d X pc lv st μ := fun a μ' h ν => z_ldc2 hd hw (kk a μ' h ν)
theorem s_iload {j : Nat} (k : Nat) {x : Int32} (hd : decode Y.2.1 pc = .ok (.iload j, 2)) (hk : lv[k]? = some (j, .int x)) (kk : z_sim w ret Y d X (pc + 2) lv (.int x :: st) μ) : z_sim w ret Y d X pc lv st μ := fun a μ' h ν => z_iload k hd hk (kk a μ' h ν)
theorem s_iload_n {j : Fin 4} (k : Nat) {i : Nat} {x : Int32} (hd : decode Y.2.1 pc = .ok (.iload_n j, 1)) (hi : (j : Nat) = i) (hk : lv[k]? = some (i, .int x)) (kk : z_sim w ret Y d X (pc + 1) lv (.int x :: st) μ) : z_sim w ret Y d X pc lv st μ := fun a μ' h ν => z_iload_n k hd hi hk (kk a μ' h ν)
theorem s_istore {i : Nat} {x : Int32} (hd : decode Y.2.1 pc = .ok (.istore i, 2)) (hn : i < Y.2.2.1) (hl' : z_st1 i (.int x) lv = lv') (kk : z_sim w ret Y d X (pc + 2) lv' st μ) : z_sim w ret Y d X pc lv (.int x :: st) μ := fun a μ' h ν => z_istore hd hn hl' (kk a μ' h ν)
theorem s_istore_n {j : Fin 4} {i : Nat} {x : Int32} (hd : decode Y.2.1 pc = .ok (.istore_n j, 1)) (hi : (j : Nat) = i) (hn : i < Y.2.2.1) (hl' : z_st1 i (.int x) lv = lv') (kk : z_sim w ret Y d X (pc + 1) lv' st μ) : z_sim w ret Y d X pc lv (.int x :: st) μ := fun a μ' h ν => z_istore_n hd hi hn hl' (kk a μ' h ν)
theorem s_lload {j : Nat} (k : Nat) {x : Int64} (hd : decode Y.2.1 pc = .ok (.lload j, 2)) (hk : lv[k]? = some (j, .long x)) (kk : z_sim w ret Y d X (pc + 2) lv (.long x :: st) μ) : z_sim w ret Y d X pc lv st μ := fun a μ' h ν => z_lload k hd hk (kk a μ' h ν)
theorem s_lload_n {j : Fin 4} (k : Nat) {i : Nat} {x : Int64} (hd : decode Y.2.1 pc = .ok (.lload_n j, 1)) (hi : (j : Nat) = i) (hk : lv[k]? = some (i, .long x)) (kk : z_sim w ret Y d X (pc + 1) lv (.long x :: st) μ) : z_sim w ret Y d X pc lv st μ := fun a μ' h ν => z_lload_n k hd hi hk (kk a μ' h ν)
theorem s_lstore {i : Nat} {x : Int64} (hd : decode Y.2.1 pc = .ok (.lstore i, 2)) (hn : i + 1 < Y.2.2.1) (hl' : z_st2 i (.long x) lv = lv') (kk : z_sim w ret Y d X (pc + 2) lv' st μ) : z_sim w ret Y d X pc lv (.long x :: st) μ := fun a μ' h ν => z_lstore hd hn hl' (kk a μ' h ν)
theorem s_lstore_n {j : Fin 4} {i : Nat} {x : Int64} (hd : decode Y.2.1 pc = .ok (.lstore_n j, 1)) (hi : (j : Nat) = i) (hn : i + 1 < Y.2.2.1) (hl' : z_st2 i (.long x) lv = lv') (kk : z_sim w ret Y d X (pc + 1) lv' st μ) : z_sim w ret Y d X pc lv (.long x :: st) μ := fun a μ' h ν => z_lstore_n hd hi hn hl' (kk a μ' h ν)
theorem s_aload {j : Nat} (k : Nat) {x : Nat} (hd : decode Y.2.1 pc = .ok (.aload j, 2)) (hk : lv[k]? = some (j, .ref x)) (kk : z_sim w ret Y d X (pc + 2) lv (.ref x :: st) μ) : z_sim w ret Y d X pc lv st μ := fun a μ' h ν => z_aload k hd hk (kk a μ' h ν)
theorem s_aload_n {j : Fin 4} (k : Nat) {i : Nat} {x : Nat} (hd : decode Y.2.1 pc = .ok (.aload_n j, 1)) (hi : (j : Nat) = i) (hk : lv[k]? = some (i, .ref x)) (kk : z_sim w ret Y d X (pc + 1) lv (.ref x :: st) μ) : z_sim w ret Y d X pc lv st μ := fun a μ' h ν => z_aload_n k hd hi hk (kk a μ' h ν)
theorem s_astore {i : Nat} {x : Nat} (hd : decode Y.2.1 pc = .ok (.astore i, 2)) (hn : i < Y.2.2.1) (hl' : z_st1 i (.ref x) lv = lv') (kk : z_sim w ret Y d X (pc + 2) lv' st μ) : z_sim w ret Y d X pc lv (.ref x :: st) μ := fun a μ' h ν => z_astore hd hn hl' (kk a μ' h ν)
theorem s_astore_n {j : Fin 4} {i : Nat} {x : Nat} (hd : decode Y.2.1 pc = .ok (.astore_n j, 1)) (hi : (j : Nat) = i) (hn : i < Y.2.2.1) (hl' : z_st1 i (.ref x) lv = lv') (kk : z_sim w ret Y d X (pc + 1) lv' st μ) : z_sim w ret Y d X pc lv (.ref x :: st) μ := fun a μ' h ν => z_astore_n hd hi hn hl' (kk a μ' h ν)
theorem s_iinc {i : Nat} (k : Nat) {n : Int} {x v : Int32} (hd : decode Y.2.1 pc = .ok (.iinc i n, 3)) (hk : lv[k]? = some (i, .int x)) (hv : x + Int32.ofInt n = v) (hn : i < Y.2.2.1) (hl' : z_st1 i (.int v) lv = lv') (kk : z_sim w ret Y d X (pc + 3) lv' st μ) : z_sim w ret Y d X pc lv st μ := fun a μ' h ν => z_iinc k hd hk hv hn hl' (kk a μ' h ν)
theorem s_sub (ks : List Nat) (hl' : lv_pick lv ks = lv') (kk : z_sim w ret Y d X pc lv' st μ) : z_sim w ret Y d X pc lv st μ := fun a μ' h ν => z_sub ks hl' (kk a μ' h ν)
theorem s_iadd {x y : Int32} (hd : decode Y.2.1 pc = .ok (.iadd, 1)) (kk : z_sim w ret Y d X (pc + 1) lv (.int (x + y) :: st) μ) : z_sim w ret Y d X pc lv (.int y :: .int x :: st) μ := fun a μ' h ν => z_iadd hd (kk a μ' h ν)
theorem s_isub {x y : Int32} (hd : decode Y.2.1 pc = .ok (.isub, 1)) (kk : z_sim w ret Y d X (pc + 1) lv (.int (x - y) :: st) μ) : z_sim w ret Y d X pc lv (.int y :: .int x :: st) μ := fun a μ' h ν => z_isub hd (kk a μ' h ν)
theorem s_imul {x y : Int32} (hd : decode Y.2.1 pc = .ok (.imul, 1)) (kk : z_sim w ret Y d X (pc + 1) lv (.int (x * y) :: st) μ) : z_sim w ret Y d X pc lv (.int y :: .int x :: st) μ := fun a μ' h ν => z_imul hd (kk a μ' h ν)
theorem s_iand {x y : Int32} (hd : decode Y.2.1 pc = .ok (.iand, 1)) (kk : z_sim w ret Y d X (pc + 1) lv (.int (x &&& y) :: st) μ) : z_sim w ret Y d X pc lv (.int y :: .int x :: st) μ := fun a μ' h ν => z_iand hd (kk a μ' h ν)
theorem s_ior {x y : Int32} (hd : decode Y.2.1 pc = .ok (.ior, 1)) (kk : z_sim w ret Y d X (pc + 1) lv (.int (x ||| y) :: st) μ) : z_sim w ret Y d X pc lv (.int y :: .int x :: st) μ := fun a μ' h ν => z_ior hd (kk a μ' h ν)
theorem s_ixor {x y : Int32} (hd : decode Y.2.1 pc = .ok (.ixor, 1)) (kk : z_sim w ret Y d X (pc + 1) lv (.int (x ^^^ y) :: st) μ) : z_sim w ret Y d X pc lv (.int y :: .int x :: st) μ := fun a μ' h ν => z_ixor hd (kk a μ' h ν)
theorem s_ishl {x y : Int32} (hd : decode Y.2.1 pc = .ok (.ishl, 1)) (kk : z_sim w ret Y d X (pc + 1) lv (.int (x <<< (y &&& 31)) :: st) μ) : z_sim w ret Y d X pc lv (.int y :: .int x :: st) μ := fun a μ' h ν => z_ishl hd (kk a μ' h ν)
theorem s_ishr {x y : Int32} (hd : decode Y.2.1 pc = .ok (.ishr, 1)) (kk : z_sim w ret Y d X (pc + 1) lv (.int (x >>> (y &&& 31)) :: st) μ) : z_sim w ret Y d X pc lv (.int y :: .int x :: st) μ := fun a μ' h ν => z_ishr hd (kk a μ' h ν)
theorem s_ladd {x y : Int64} (hd : decode Y.2.1 pc = .ok (.ladd, 1)) (kk : z_sim w ret Y d X (pc + 1) lv (.long (x + y) :: st) μ) : z_sim w ret Y d X pc lv (.long y :: .long x :: st) μ := fun a μ' h ν => z_ladd hd (kk a μ' h ν)
theorem s_lsub {x y : Int64} (hd : decode Y.2.1 pc = .ok (.lsub, 1)) (kk : z_sim w ret Y d X (pc + 1) lv (.long (x - y) :: st) μ) : z_sim w ret Y d X pc lv (.long y :: .long x :: st) μ := fun a μ' h ν => z_lsub hd (kk a μ' h ν)
theorem s_lmul {x y : Int64} (hd : decode Y.2.1 pc = .ok (.lmul, 1)) (kk : z_sim w ret Y d X (pc + 1) lv (.long (x * y) :: st) μ) : z_sim w ret Y d X pc lv (.long y :: .long x :: st) μ := fun a μ' h ν => z_lmul hd (kk a μ' h ν)
theorem s_land {x y : Int64} (hd : decode Y.2.1 pc = .ok (.land, 1)) (kk : z_sim w ret Y d X (pc + 1) lv (.long (x &&& y) :: st) μ) : z_sim w ret Y d X pc lv (.long y :: .long x :: st) μ := fun a μ' h ν => z_land hd (kk a μ' h ν)
theorem s_idiv {x y : Int32} (hd : decode Y.2.1 pc = .ok (.idiv, 1)) (kk : z_sim w ret Y d X (pc + 1) lv (.int (x / y) :: st) μ) : z_sim w ret Y d (z_nz y X) pc lv (.int y :: .int x :: st) μ := fun a μ' h ν => by
  unfold z_nz at h
  by_cases hy : y = 0
  · rw [if_pos hy] at h; cases h
  · rw [if_neg hy] at h; exact z_idiv hd hy (kk a μ' h ν)
theorem s_irem {x y : Int32} (hd : decode Y.2.1 pc = .ok (.irem, 1)) (kk : z_sim w ret Y d X (pc + 1) lv (.int (x - x / y * y) :: st) μ) : z_sim w ret Y d (z_nz y X) pc lv (.int y :: .int x :: st) μ := fun a μ' h ν => by
  unfold z_nz at h
  by_cases hy : y = 0
  · rw [if_pos hy] at h; cases h
  · rw [if_neg hy] at h; exact z_irem hd hy (kk a μ' h ν)
theorem s_ldiv {x y : Int64} (hd : decode Y.2.1 pc = .ok (.ldiv, 1)) (kk : z_sim w ret Y d X (pc + 1) lv (.long (x / y) :: st) μ) : z_sim w ret Y d (z_nzJ y X) pc lv (.long y :: .long x :: st) μ := fun a μ' h ν => by
  unfold z_nzJ at h
  by_cases hy : y = 0
  · rw [if_pos hy] at h; cases h
  · rw [if_neg hy] at h; exact z_ldiv hd hy (kk a μ' h ν)
theorem s_lrem {x y : Int64} (hd : decode Y.2.1 pc = .ok (.lrem, 1)) (kk : z_sim w ret Y d X (pc + 1) lv (.long (x - x / y * y) :: st) μ) : z_sim w ret Y d (z_nzJ y X) pc lv (.long y :: .long x :: st) μ := fun a μ' h ν => by
  unfold z_nzJ at h
  by_cases hy : y = 0
  · rw [if_pos hy] at h; cases h
  · rw [if_neg hy] at h; exact z_lrem hd hy (kk a μ' h ν)
theorem s_lneg {x : Int64} (hd : decode Y.2.1 pc = .ok (.lneg, 1)) (kk : z_sim w ret Y d X (pc + 1) lv (.long (-x) :: st) μ) : z_sim w ret Y d X pc lv (.long x :: st) μ := fun a μ' h ν => z_lneg hd (kk a μ' h ν)
theorem s_lshl {x : Int64} {y : Int32} (hd : decode Y.2.1 pc = .ok (.lshl, 1)) (kk : z_sim w ret Y d X (pc + 1) lv (.long (x <<< (y.toInt64 &&& 63)) :: st) μ) : z_sim w ret Y d X pc lv (.int y :: .long x :: st) μ := fun a μ' h ν => z_lshl hd (kk a μ' h ν)
theorem s_lshr {x : Int64} {y : Int32} (hd : decode Y.2.1 pc = .ok (.lshr, 1)) (kk : z_sim w ret Y d X (pc + 1) lv (.long (x >>> (y.toInt64 &&& 63)) :: st) μ) : z_sim w ret Y d X pc lv (.int y :: .long x :: st) μ := fun a μ' h ν => z_lshr hd (kk a μ' h ν)
theorem s_i2l {x : Int32} (hd : decode Y.2.1 pc = .ok (.i2l, 1)) (kk : z_sim w ret Y d X (pc + 1) lv (.long x.toInt64 :: st) μ) : z_sim w ret Y d X pc lv (.int x :: st) μ := fun a μ' h ν => z_i2l hd (kk a μ' h ν)
theorem s_l2i {x : Int64} (hd : decode Y.2.1 pc = .ok (.l2i, 1)) (kk : z_sim w ret Y d X (pc + 1) lv (.int x.toInt32 :: st) μ) : z_sim w ret Y d X pc lv (.long x :: st) μ := fun a μ' h ν => z_l2i hd (kk a μ' h ν)
theorem s_goto {off : Int} {tgt : Nat} (hd : decode Y.2.1 pc = .ok (.goto off, 3)) (ht : (pc : Int) + off = (tgt : Int)) (kk : z_sim w ret Y d X tgt lv st μ) : z_sim w ret Y d X pc lv st μ := fun a μ' h ν => z_goto hd ht (kk a μ' h ν)
theorem s_dup {v : Value} (hd : decode Y.2.1 pc = .ok (.dup, 1)) (hv : v.category = 1) (kk : z_sim w ret Y d X (pc + 1) lv (v :: v :: st) μ) : z_sim w ret Y d X pc lv (v :: st) μ := fun a μ' h ν => z_dup hd hv (kk a μ' h ν)
theorem s_pop {v : Value} (hd : decode Y.2.1 pc = .ok (.pop, 1)) (hv : v.category = 1) (kk : z_sim w ret Y d X (pc + 1) lv st μ) : z_sim w ret Y d X pc lv (v :: st) μ := fun a μ' h ν => z_pop hd hv (kk a μ' h ν)
theorem s_dup_x1 {v u : Value} (hd : decode Y.2.1 pc = .ok (.dup_x1, 1)) (hv : v.category = 1) (hw : u.category = 1) (kk : z_sim w ret Y d X (pc + 1) lv (v :: u :: v :: st) μ) : z_sim w ret Y d X pc lv (v :: u :: st) μ := fun a μ' h ν => z_dup_x1 hd hv hw (kk a μ' h ν)
theorem s_dup2 {v u : Value} (hd : decode Y.2.1 pc = .ok (.dup2, 1)) (hv : v.category = 1) (hw : u.category = 1) (kk : z_sim w ret Y d X (pc + 1) lv (v :: u :: v :: u :: st) μ) : z_sim w ret Y d X pc lv (v :: u :: st) μ := fun a μ' h ν => z_dup2 hd hv hw (kk a μ' h ν)
theorem s_if_eq {x : Int32} {off : Int} {tgt : Nat} (hd : decode Y.2.1 pc = .ok (.ifCond .eq off, 3)) (ht : (pc : Int) + off = (tgt : Int)) (k1 : z_sim w ret Y d X1 tgt lv st μ) (k2 : z_sim w ret Y d X2 (pc + 3) lv st μ) : z_sim w ret Y d (if x = 0 then X1 else X2) pc lv (.int x :: st) μ := fun a μ' h ν => z_if_eq hd ht (fun q => k1 a μ' (by rw [if_pos q] at h; exact h) ν) (fun q => k2 a μ' (by rw [if_neg q] at h; exact h) ν)
theorem s_icmp_eq {x y : Int32} {off : Int} {tgt : Nat} (hd : decode Y.2.1 pc = .ok (.if_icmp .eq off, 3)) (ht : (pc : Int) + off = (tgt : Int)) (k1 : z_sim w ret Y d X1 tgt lv st μ) (k2 : z_sim w ret Y d X2 (pc + 3) lv st μ) : z_sim w ret Y d (if x = y then X1 else X2) pc lv (.int y :: .int x :: st) μ := fun a μ' h ν => z_icmp_eq hd ht (fun q => k1 a μ' (by rw [if_pos q] at h; exact h) ν) (fun q => k2 a μ' (by rw [if_neg q] at h; exact h) ν)
theorem s_if_ne {x : Int32} {off : Int} {tgt : Nat} (hd : decode Y.2.1 pc = .ok (.ifCond .ne off, 3)) (ht : (pc : Int) + off = (tgt : Int)) (k1 : z_sim w ret Y d X1 (pc + 3) lv st μ) (k2 : z_sim w ret Y d X2 tgt lv st μ) : z_sim w ret Y d (if x = 0 then X1 else X2) pc lv (.int x :: st) μ := fun a μ' h ν => z_if_ne hd ht (fun q => k2 a μ' (by rw [if_neg q] at h; exact h) ν) (fun q => k1 a μ' (by rw [if_pos q] at h; exact h) ν)
theorem s_icmp_ne {x y : Int32} {off : Int} {tgt : Nat} (hd : decode Y.2.1 pc = .ok (.if_icmp .ne off, 3)) (ht : (pc : Int) + off = (tgt : Int)) (k1 : z_sim w ret Y d X1 (pc + 3) lv st μ) (k2 : z_sim w ret Y d X2 tgt lv st μ) : z_sim w ret Y d (if x = y then X1 else X2) pc lv (.int y :: .int x :: st) μ := fun a μ' h ν => z_icmp_ne hd ht (fun q => k2 a μ' (by rw [if_neg q] at h; exact h) ν) (fun q => k1 a μ' (by rw [if_pos q] at h; exact h) ν)
theorem s_if_lt {x : Int32} {off : Int} {tgt : Nat} (hd : decode Y.2.1 pc = .ok (.ifCond .lt off, 3)) (ht : (pc : Int) + off = (tgt : Int)) (k1 : z_sim w ret Y d X1 tgt lv st μ) (k2 : z_sim w ret Y d X2 (pc + 3) lv st μ) : z_sim w ret Y d (if x < 0 then X1 else X2) pc lv (.int x :: st) μ := fun a μ' h ν => z_if_lt hd ht (fun q => k1 a μ' (by rw [if_pos q] at h; exact h) ν) (fun q => k2 a μ' (by rw [if_neg q] at h; exact h) ν)
theorem s_icmp_lt {x y : Int32} {off : Int} {tgt : Nat} (hd : decode Y.2.1 pc = .ok (.if_icmp .lt off, 3)) (ht : (pc : Int) + off = (tgt : Int)) (k1 : z_sim w ret Y d X1 tgt lv st μ) (k2 : z_sim w ret Y d X2 (pc + 3) lv st μ) : z_sim w ret Y d (if x < y then X1 else X2) pc lv (.int y :: .int x :: st) μ := fun a μ' h ν => z_icmp_lt hd ht (fun q => k1 a μ' (by rw [if_pos q] at h; exact h) ν) (fun q => k2 a μ' (by rw [if_neg q] at h; exact h) ν)
theorem s_if_ge {x : Int32} {off : Int} {tgt : Nat} (hd : decode Y.2.1 pc = .ok (.ifCond .ge off, 3)) (ht : (pc : Int) + off = (tgt : Int)) (k1 : z_sim w ret Y d X1 (pc + 3) lv st μ) (k2 : z_sim w ret Y d X2 tgt lv st μ) : z_sim w ret Y d (if x < 0 then X1 else X2) pc lv (.int x :: st) μ := fun a μ' h ν => z_if_ge hd ht (fun q => k2 a μ' (by rw [if_neg (Int32.not_lt.mpr q)] at h; exact h) ν) (fun q => k1 a μ' (by rw [if_pos (Int32.not_le.mp q)] at h; exact h) ν)
theorem s_icmp_ge {x y : Int32} {off : Int} {tgt : Nat} (hd : decode Y.2.1 pc = .ok (.if_icmp .ge off, 3)) (ht : (pc : Int) + off = (tgt : Int)) (k1 : z_sim w ret Y d X1 (pc + 3) lv st μ) (k2 : z_sim w ret Y d X2 tgt lv st μ) : z_sim w ret Y d (if x < y then X1 else X2) pc lv (.int y :: .int x :: st) μ := fun a μ' h ν => z_icmp_ge hd ht (fun q => k2 a μ' (by rw [if_neg (Int32.not_lt.mpr q)] at h; exact h) ν) (fun q => k1 a μ' (by rw [if_pos (Int32.not_le.mp q)] at h; exact h) ν)
theorem s_if_gt {x : Int32} {off : Int} {tgt : Nat} (hd : decode Y.2.1 pc = .ok (.ifCond .gt off, 3)) (ht : (pc : Int) + off = (tgt : Int)) (k1 : z_sim w ret Y d X1 tgt lv st μ) (k2 : z_sim w ret Y d X2 (pc + 3) lv st μ) : z_sim w ret Y d (if 0 < x then X1 else X2) pc lv (.int x :: st) μ := fun a μ' h ν => z_if_gt hd ht (fun q => k1 a μ' (by rw [if_pos q] at h; exact h) ν) (fun q => k2 a μ' (by rw [if_neg q] at h; exact h) ν)
theorem s_icmp_gt {x y : Int32} {off : Int} {tgt : Nat} (hd : decode Y.2.1 pc = .ok (.if_icmp .gt off, 3)) (ht : (pc : Int) + off = (tgt : Int)) (k1 : z_sim w ret Y d X1 tgt lv st μ) (k2 : z_sim w ret Y d X2 (pc + 3) lv st μ) : z_sim w ret Y d (if y < x then X1 else X2) pc lv (.int y :: .int x :: st) μ := fun a μ' h ν => z_icmp_gt hd ht (fun q => k1 a μ' (by rw [if_pos q] at h; exact h) ν) (fun q => k2 a μ' (by rw [if_neg q] at h; exact h) ν)
theorem s_if_le {x : Int32} {off : Int} {tgt : Nat} (hd : decode Y.2.1 pc = .ok (.ifCond .le off, 3)) (ht : (pc : Int) + off = (tgt : Int)) (k1 : z_sim w ret Y d X1 (pc + 3) lv st μ) (k2 : z_sim w ret Y d X2 tgt lv st μ) : z_sim w ret Y d (if 0 < x then X1 else X2) pc lv (.int x :: st) μ := fun a μ' h ν => z_if_le hd ht (fun q => k2 a μ' (by rw [if_neg (Int32.not_lt.mpr q)] at h; exact h) ν) (fun q => k1 a μ' (by rw [if_pos (Int32.not_le.mp q)] at h; exact h) ν)
theorem s_icmp_le {x y : Int32} {off : Int} {tgt : Nat} (hd : decode Y.2.1 pc = .ok (.if_icmp .le off, 3)) (ht : (pc : Int) + off = (tgt : Int)) (k1 : z_sim w ret Y d X1 (pc + 3) lv st μ) (k2 : z_sim w ret Y d X2 tgt lv st μ) : z_sim w ret Y d (if y < x then X1 else X2) pc lv (.int y :: .int x :: st) μ := fun a μ' h ν => z_icmp_le hd ht (fun q => k2 a μ' (by rw [if_neg (Int32.not_lt.mpr q)] at h; exact h) ν) (fun q => k1 a μ' (by rw [if_pos (Int32.not_le.mp q)] at h; exact h) ν)
theorem z_lc_lt {x y : Int64} : lg_cmp x y < 0 ↔ x < y := by
  unfold lg_cmp
  simp only [gt_iff_lt, Int64.lt_iff_toInt_lt, ← Int64.toInt_inj]
  split
  · exact ⟨fun h => absurd h (by decide), fun h => by omega⟩
  · split
    · exact ⟨fun h => absurd h (by decide), fun h => by omega⟩
    · exact ⟨fun _ => by omega, fun _ => by decide⟩
theorem z_lc_gt {x y : Int64} : 0 < lg_cmp x y ↔ y < x := by
  unfold lg_cmp
  simp only [gt_iff_lt, Int64.lt_iff_toInt_lt, ← Int64.toInt_inj]
  split
  · exact ⟨fun _ => by omega, fun _ => by decide⟩
  · split
    · exact ⟨fun h => absurd h (by decide), fun h => by omega⟩
    · exact ⟨fun h => absurd h (by decide), fun h => by omega⟩
theorem z_lc_eq {x y : Int64} : lg_cmp x y = 0 ↔ x = y := by
  unfold lg_cmp
  simp only [gt_iff_lt, Int64.lt_iff_toInt_lt, ← Int64.toInt_inj]
  split
  · exact ⟨fun h => absurd h (by decide), fun h => by omega⟩
  · split
    · exact ⟨fun _ => by omega, fun _ => by decide⟩
    · exact ⟨fun h => absurd h (by decide), fun h => by omega⟩
theorem s_lcmp_eq {x y : Int64} {off : Int} {tgt : Nat} (hd0 : decode Y.2.1 pc = .ok (.lcmp, 1)) (hd : decode Y.2.1 (pc + 1) = .ok (.ifCond .eq off, 3)) (ht : ((pc + 1 : Nat) : Int) + off = (tgt : Int)) (k1 : z_sim w ret Y d X1 tgt lv st μ) (k2 : z_sim w ret Y d X2 (pc + 4) lv st μ) : z_sim w ret Y d (if x = y then X1 else X2) pc lv (.long y :: .long x :: st) μ := fun a μ' h ν => z_lcmp hd0 (z_if_eq hd ht (fun q => k1 a μ' (by rw [if_pos (z_lc_eq.mp q)] at h; exact h) ν) (fun q => k2 a μ' (by rw [if_neg (fun z => q (z_lc_eq.mpr z))] at h; exact h) ν))
theorem s_lcmp_ne {x y : Int64} {off : Int} {tgt : Nat} (hd0 : decode Y.2.1 pc = .ok (.lcmp, 1)) (hd : decode Y.2.1 (pc + 1) = .ok (.ifCond .ne off, 3)) (ht : ((pc + 1 : Nat) : Int) + off = (tgt : Int)) (k1 : z_sim w ret Y d X1 (pc + 4) lv st μ) (k2 : z_sim w ret Y d X2 tgt lv st μ) : z_sim w ret Y d (if x = y then X1 else X2) pc lv (.long y :: .long x :: st) μ := fun a μ' h ν => z_lcmp hd0 (z_if_ne hd ht (fun q => k2 a μ' (by rw [if_neg (fun z => q (z_lc_eq.mpr z))] at h; exact h) ν) (fun q => k1 a μ' (by rw [if_pos (z_lc_eq.mp q)] at h; exact h) ν))
theorem s_lcmp_lt {x y : Int64} {off : Int} {tgt : Nat} (hd0 : decode Y.2.1 pc = .ok (.lcmp, 1)) (hd : decode Y.2.1 (pc + 1) = .ok (.ifCond .lt off, 3)) (ht : ((pc + 1 : Nat) : Int) + off = (tgt : Int)) (k1 : z_sim w ret Y d X1 tgt lv st μ) (k2 : z_sim w ret Y d X2 (pc + 4) lv st μ) : z_sim w ret Y d (if x < y then X1 else X2) pc lv (.long y :: .long x :: st) μ := fun a μ' h ν => z_lcmp hd0 (z_if_lt hd ht (fun q => k1 a μ' (by rw [if_pos (z_lc_lt.mp q)] at h; exact h) ν) (fun q => k2 a μ' (by rw [if_neg (fun z => q (z_lc_lt.mpr z))] at h; exact h) ν))
theorem s_lcmp_ge {x y : Int64} {off : Int} {tgt : Nat} (hd0 : decode Y.2.1 pc = .ok (.lcmp, 1)) (hd : decode Y.2.1 (pc + 1) = .ok (.ifCond .ge off, 3)) (ht : ((pc + 1 : Nat) : Int) + off = (tgt : Int)) (k1 : z_sim w ret Y d X1 (pc + 4) lv st μ) (k2 : z_sim w ret Y d X2 tgt lv st μ) : z_sim w ret Y d (if x < y then X1 else X2) pc lv (.long y :: .long x :: st) μ := fun a μ' h ν => z_lcmp hd0 (z_if_ge hd ht (fun q => k2 a μ' (by rw [if_neg (fun z => Int32.not_lt.mpr q (z_lc_lt.mpr z))] at h; exact h) ν) (fun q => k1 a μ' (by rw [if_pos (z_lc_lt.mp (Int32.not_le.mp q))] at h; exact h) ν))
theorem s_lcmp_gt {x y : Int64} {off : Int} {tgt : Nat} (hd0 : decode Y.2.1 pc = .ok (.lcmp, 1)) (hd : decode Y.2.1 (pc + 1) = .ok (.ifCond .gt off, 3)) (ht : ((pc + 1 : Nat) : Int) + off = (tgt : Int)) (k1 : z_sim w ret Y d X1 tgt lv st μ) (k2 : z_sim w ret Y d X2 (pc + 4) lv st μ) : z_sim w ret Y d (if y < x then X1 else X2) pc lv (.long y :: .long x :: st) μ := fun a μ' h ν => z_lcmp hd0 (z_if_gt hd ht (fun q => k1 a μ' (by rw [if_pos (z_lc_gt.mp q)] at h; exact h) ν) (fun q => k2 a μ' (by rw [if_neg (fun z => q (z_lc_gt.mpr z))] at h; exact h) ν))
theorem s_lcmp_le {x y : Int64} {off : Int} {tgt : Nat} (hd0 : decode Y.2.1 pc = .ok (.lcmp, 1)) (hd : decode Y.2.1 (pc + 1) = .ok (.ifCond .le off, 3)) (ht : ((pc + 1 : Nat) : Int) + off = (tgt : Int)) (k1 : z_sim w ret Y d X1 (pc + 4) lv st μ) (k2 : z_sim w ret Y d X2 tgt lv st μ) : z_sim w ret Y d (if y < x then X1 else X2) pc lv (.long y :: .long x :: st) μ := fun a μ' h ν => z_lcmp hd0 (z_if_le hd ht (fun q => k2 a μ' (by rw [if_neg (fun z => Int32.not_lt.mpr q (z_lc_gt.mpr z))] at h; exact h) ν) (fun q => k1 a μ' (by rw [if_pos (z_lc_gt.mp (Int32.not_le.mp q))] at h; exact h) ν))
theorem s_getI {idx ci k o : Nat} (hd : decode Y.2.1 pc = .ok (.getfield idx, 3)) (hL : z_FL Y.1.cls idx ci k) (hk : z_kw w o = (ci, 0)) (ht : z_code (z_ty ci k) = 0) (kk : z_sim w ret Y d X (pc + 3) lv (.int (μ.1 o k) :: st) μ) : z_sim w ret Y d X pc lv (.ref o :: st) μ := fun a μ' h ν => z_getI hd hL (by rw [(z_kwk hk (by have := hL.1; omega)).2]) (z_ltk hk (by have := hL.1; omega)) ht (by rw [z_mmI hk (by have := hL.1; omega)]; exact kk a μ' h ν)
theorem s_getJ {idx ci k o : Nat} (hd : decode Y.2.1 pc = .ok (.getfield idx, 3)) (hL : z_FL Y.1.cls idx ci k) (hk : z_kw w o = (ci, 0)) (ht : z_code (z_ty ci k) = 1) (kk : z_sim w ret Y d X (pc + 3) lv (.long (μ.2.1 o k) :: st) μ) : z_sim w ret Y d X pc lv (.ref o :: st) μ := fun a μ' h ν => z_getJ hd hL (by rw [(z_kwk hk (by have := hL.1; omega)).2]) (z_ltk hk (by have := hL.1; omega)) ht (by rw [z_mmJ hk (by have := hL.1; omega)]; exact kk a μ' h ν)
theorem s_getR {idx ci k o r : Nat} (hd : decode Y.2.1 pc = .ok (.getfield idx, 3)) (hL : z_FL Y.1.cls idx ci k) (hk : z_kw w o = (ci, 0)) (ht : z_code (z_ty ci k) = 2) (hr : ∀ c r', z_Rs c r' o k = some r) (kk : z_sim w ret Y d X (pc + 3) lv (.ref r :: st) μ) : z_sim w ret Y d X pc lv (.ref o :: st) μ := fun a μ' h ν => z_getR hd hL (by rw [(z_kwk hk (by have := hL.1; omega)).2]) (z_ltk hk (by have := hL.1; omega)) ht (hr _ _) (kk a μ' h ν)
theorem s_getC {idx : Nat} (hd : decode Y.2.1 pc = .ok (.getfield idx, 3)) (hL : z_FL Y.1.cls idx 11 14) (kk : z_sim true ret Y d X (pc + 3) lv (.ref (z_hn μ.2.2.1) :: st) μ) : z_sim true ret Y d X pc lv (.ref 0 :: st) μ := fun a μ' h ν => z_getR (M := z_mm true μ ν) hd hL rfl (by show 0 < z_NO; decide) rfl rfl (kk a μ' h ν)
theorem s_getH {idx : Nat} (hd : decode Y.2.1 pc = .ok (.getfield idx, 3)) (hL : z_FL Y.1.cls idx 3 2) (kk : z_sim true ret Y d X (pc + 3) lv (.ref (z_hn μ.2.2.2) :: st) μ) : z_sim true ret Y d X pc lv (.ref 95 :: st) μ := fun a μ' h ν => z_getR (M := z_mm true μ ν) hd hL rfl (by show 95 < z_NO; decide) rfl rfl (kk a μ' h ν)
theorem s_putI {idx ci k o : Nat} {x : Int32} {X : z_S → Option (α × z_S)} (hd : decode Y.2.1 pc = .ok (.putfield idx, 3)) (hL : z_FL Y.1.cls idx ci k) (hk : z_kw w o = (ci, 0)) (hf : (z_T ci k).2.2.2 = false) (ht : z_ty ci k = .int) (kk : ∀ μ1, z_sim w ret Y d (X μ1) (pc + 3) lv st μ1) : z_sim w ret Y d (z_bd (z_setI μ o k x) X) pc lv (.int x :: .ref o :: st) μ := fun a μ' h ν => z_putI hd hL (by rw [(z_kwk hk (by have := hL.1; omega)).2]) (z_ltk hk (by have := hL.1; omega)) hf ht (by rw [z_mm_setI hk (by have := hL.1; omega)]; exact kk (z_setI μ o k x) a μ' h ν)
theorem s_putZ {idx ci k o : Nat} {x : Int32} {X : z_S → Option (α × z_S)} (hd : decode Y.2.1 pc = .ok (.putfield idx, 3)) (hL : z_FL Y.1.cls idx ci k) (hk : z_kw w o = (ci, 0)) (hf : (z_T ci k).2.2.2 = false) (ht : z_ty ci k = .boolean) (hx : narrow .boolean (.int x) = .int x) (hx2 : fits .boolean (.int x) = true) (kk : ∀ μ1, z_sim w ret Y d (X μ1) (pc + 3) lv st μ1) : z_sim w ret Y d (z_bd (z_setI μ o k x) X) pc lv (.int x :: .ref o :: st) μ := fun a μ' h ν => z_putZ hd hL (by rw [(z_kwk hk (by have := hL.1; omega)).2]) (z_ltk hk (by have := hL.1; omega)) hf ht hx hx2 (by rw [z_mm_setI hk (by have := hL.1; omega)]; exact kk (z_setI μ o k x) a μ' h ν)
theorem s_putJ {idx ci k o : Nat} {x : Int64} {X : z_S → Option (α × z_S)} (hd : decode Y.2.1 pc = .ok (.putfield idx, 3)) (hL : z_FL Y.1.cls idx ci k) (hk : z_kw w o = (ci, 0)) (hf : (z_T ci k).2.2.2 = false) (ht : z_ty ci k = .long) (kk : ∀ μ1, z_sim w ret Y d (X μ1) (pc + 3) lv st μ1) : z_sim w ret Y d (z_bd (z_setJ μ o k x) X) pc lv (.long x :: .ref o :: st) μ := fun a μ' h ν => z_putJ hd hL (by rw [(z_kwk hk (by have := hL.1; omega)).2]) (z_ltk hk (by have := hL.1; omega)) hf ht (by rw [z_mm_setJ hk (by have := hL.1; omega)]; exact kk (z_setJ μ o k x) a μ' h ν)
theorem s_putC {idx : Nat} {c : Bool} {X : z_S → Option (α × z_S)} (hd : decode Y.2.1 pc = .ok (.putfield idx, 3)) (hL : z_FL Y.1.cls idx 11 14) (kk : ∀ μ1, z_sim true ret Y d (X μ1) (pc + 3) lv st μ1) : z_sim true ret Y d (z_bd (z_setC μ c) X) pc lv (.ref (z_hn c) :: .ref 0 :: st) μ := fun a μ' h ν => z_putR (M := z_mm true μ ν) hd hL rfl (by show 0 < z_NO; decide) rfl rfl (fun _ => rfl) (fun _ => rfl) (by
  have e : z_sR (z_mm true μ ν) 0 14 (some (z_hn c)) = z_mm true (z_setC μ c) ν := by
    unfold z_sR z_mm z_setC
    refine Prod.ext rfl (Prod.ext rfl (Prod.ext rfl ?_))
    exact z_Rs_c _ _ _
  rw [e]
  exact kk (z_setC μ c) a μ' h ν)
theorem s_putH {idx : Nat} {r : Bool} {X : z_S → Option (α × z_S)} (hd : decode Y.2.1 pc = .ok (.putfield idx, 3)) (hL : z_FL Y.1.cls idx 3 2) (kk : ∀ μ1, z_sim true ret Y d (X μ1) (pc + 3) lv st μ1) : z_sim true ret Y d (z_bd (z_setH μ r) X) pc lv (.ref (z_hn r) :: .ref 95 :: st) μ := fun a μ' h ν => z_putR (M := z_mm true μ ν) hd hL rfl (by show 95 < z_NO; decide) rfl rfl (fun _ => rfl) (fun _ => rfl) (by
  have e : z_sR (z_mm true μ ν) 95 2 (some (z_hn r)) = z_mm true (z_setH μ r) ν := by
    unfold z_sR z_mm z_setH
    refine Prod.ext rfl (Prod.ext rfl (Prod.ext rfl ?_))
    exact z_Rs_h _ _ _
  rw [e]
  exact kk (z_setH μ r) a μ' h ν)
theorem z_in_some {β : Type} {i : Int32} {n : Nat} {Z : Option β} {q : β} (h : z_in i n Z = some q) : vp_in i n ∧ Z = some q := by
  unfold z_in at h
  by_cases hy : i < 0 ∨ n ≤ i.toNatClampNeg
  · rw [if_pos hy] at h; cases h
  · rw [if_neg hy] at h; exact ⟨hy, h⟩
theorem s_iald {o n : Nat} {i : Int32} (hd : decode Y.2.1 pc = .ok (.iaload, 1)) (hk : z_kw w o = (20, n)) (kk : z_sim w ret Y d X (pc + 1) lv (.int (μ.1 o i.toNatClampNeg) :: st) μ) : z_sim w ret Y d (z_in i n X) pc lv (.int i :: .ref o :: st) μ := fun a μ' h ν => z_iald hd (z_kwk hk (by decide)).2 (z_ltk hk (by decide)) (z_in_some h).1 (by rw [z_mmI hk (by decide)]; exact kk a μ' (z_in_some h).2 ν)
theorem s_ialdK {o n : Nat} {i : Int32} {k : Nat} (hd : decode Y.2.1 pc = .ok (.iaload, 1)) (hk : z_kw w o = (20, n)) (hi : i = Int32.ofNat k) (hkn : k < n) (hk31 : k < 2 ^ 31) (kk : z_sim w ret Y d X (pc + 1) lv (.int (μ.1 o k) :: st) μ) : z_sim w ret Y d X pc lv (.int i :: .ref o :: st) μ := by
  intro a μ' h ν
  subst hi
  have e : (Int32.ofNat k).toNatClampNeg = k := nI_clamp hk31
  exact z_iald hd (z_kwk hk (by decide)).2 (z_ltk hk (by decide)) (fun q => by rcases q with q | q; exact nI_pos hk31 q; rw [e] at q; omega) (by rw [e, z_mmI hk (by decide)]; exact kk a μ' h ν)
theorem s_lald {o n : Nat} {i : Int32} (hd : decode Y.2.1 pc = .ok (.laload, 1)) (hk : z_kw w o = (21, n)) (kk : z_sim w ret Y d X (pc + 1) lv (.long (μ.2.1 o i.toNatClampNeg) :: st) μ) : z_sim w ret Y d (z_in i n X) pc lv (.int i :: .ref o :: st) μ := fun a μ' h ν => z_lald hd (z_kwk hk (by decide)).2 (z_ltk hk (by decide)) (z_in_some h).1 (by rw [z_mmJ hk (by decide)]; exact kk a μ' (z_in_some h).2 ν)
theorem s_laldK {o n : Nat} {i : Int32} {k : Nat} (hd : decode Y.2.1 pc = .ok (.laload, 1)) (hk : z_kw w o = (21, n)) (hi : i = Int32.ofNat k) (hkn : k < n) (hk31 : k < 2 ^ 31) (kk : z_sim w ret Y d X (pc + 1) lv (.long (μ.2.1 o k) :: st) μ) : z_sim w ret Y d X pc lv (.int i :: .ref o :: st) μ := by
  intro a μ' h ν
  subst hi
  have e : (Int32.ofNat k).toNatClampNeg = k := nI_clamp hk31
  exact z_lald hd (z_kwk hk (by decide)).2 (z_ltk hk (by decide)) (fun q => by rcases q with q | q; exact nI_pos hk31 q; rw [e] at q; omega) (by rw [e, z_mmJ hk (by decide)]; exact kk a μ' h ν)
theorem s_cald {o n : Nat} {i : Int32} (hd : decode Y.2.1 pc = .ok (.caload, 1)) (hk : z_kw w o = (22, n)) (kk : z_sim w ret Y d X (pc + 1) lv (.int (μ.1 o i.toNatClampNeg) :: st) μ) : z_sim w ret Y d (z_in i n X) pc lv (.int i :: .ref o :: st) μ := fun a μ' h ν => z_cald hd (z_kwk hk (by decide)).2 (z_ltk hk (by decide)) (z_in_some h).1 (by rw [z_mmI hk (by decide)]; exact kk a μ' (z_in_some h).2 ν)
theorem s_caldK {o n : Nat} {i : Int32} {k : Nat} (hd : decode Y.2.1 pc = .ok (.caload, 1)) (hk : z_kw w o = (22, n)) (hi : i = Int32.ofNat k) (hkn : k < n) (hk31 : k < 2 ^ 31) (kk : z_sim w ret Y d X (pc + 1) lv (.int (μ.1 o k) :: st) μ) : z_sim w ret Y d X pc lv (.int i :: .ref o :: st) μ := by
  intro a μ' h ν
  subst hi
  have e : (Int32.ofNat k).toNatClampNeg = k := nI_clamp hk31
  exact z_cald hd (z_kwk hk (by decide)).2 (z_ltk hk (by decide)) (fun q => by rcases q with q | q; exact nI_pos hk31 q; rw [e] at q; omega) (by rw [e, z_mmI hk (by decide)]; exact kk a μ' h ν)
theorem s_iast {o n : Nat} {i : Int32} {x : Int32} {X : z_S → Option (α × z_S)} (hd : decode Y.2.1 pc = .ok (.iastore, 1)) (hk : z_kw w o = (20, n)) (kk : ∀ μ1, z_sim w ret Y d (X μ1) (pc + 1) lv st μ1) : z_sim w ret Y d (z_in i n (z_bd (z_setI μ o i.toNatClampNeg x) X)) pc lv (.int x :: .int i :: .ref o :: st) μ := fun a μ' h ν => z_iast hd (z_kwk hk (by decide)).2 (z_ltk hk (by decide)) (z_in_some h).1 (by rw [z_mm_setI hk (by decide)]; exact kk (z_setI μ o i.toNatClampNeg x) a μ' (z_in_some h).2 ν)
theorem s_iastK {o n : Nat} {i : Int32} {x : Int32} {k : Nat} {X : z_S → Option (α × z_S)} (hd : decode Y.2.1 pc = .ok (.iastore, 1)) (hk : z_kw w o = (20, n)) (hi : i = Int32.ofNat k) (hkn : k < n) (hk31 : k < 2 ^ 31) (kk : ∀ μ1, z_sim w ret Y d (X μ1) (pc + 1) lv st μ1) : z_sim w ret Y d (z_bd (z_setI μ o k x) X) pc lv (.int x :: .int i :: .ref o :: st) μ := by
  intro a μ' h ν
  subst hi
  have e : (Int32.ofNat k).toNatClampNeg = k := nI_clamp hk31
  exact z_iast hd (z_kwk hk (by decide)).2 (z_ltk hk (by decide)) (fun q => by rcases q with q | q; exact nI_pos hk31 q; rw [e] at q; omega) (by rw [e, z_mm_setI hk (by decide)]; exact kk (z_setI μ o k x) a μ' h ν)
theorem s_last {o n : Nat} {i : Int32} {x : Int64} {X : z_S → Option (α × z_S)} (hd : decode Y.2.1 pc = .ok (.lastore, 1)) (hk : z_kw w o = (21, n)) (kk : ∀ μ1, z_sim w ret Y d (X μ1) (pc + 1) lv st μ1) : z_sim w ret Y d (z_in i n (z_bd (z_setJ μ o i.toNatClampNeg x) X)) pc lv (.long x :: .int i :: .ref o :: st) μ := fun a μ' h ν => z_last hd (z_kwk hk (by decide)).2 (z_ltk hk (by decide)) (z_in_some h).1 (by rw [z_mm_setJ hk (by decide)]; exact kk (z_setJ μ o i.toNatClampNeg x) a μ' (z_in_some h).2 ν)
theorem s_lastK {o n : Nat} {i : Int32} {x : Int64} {k : Nat} {X : z_S → Option (α × z_S)} (hd : decode Y.2.1 pc = .ok (.lastore, 1)) (hk : z_kw w o = (21, n)) (hi : i = Int32.ofNat k) (hkn : k < n) (hk31 : k < 2 ^ 31) (kk : ∀ μ1, z_sim w ret Y d (X μ1) (pc + 1) lv st μ1) : z_sim w ret Y d (z_bd (z_setJ μ o k x) X) pc lv (.long x :: .int i :: .ref o :: st) μ := by
  intro a μ' h ν
  subst hi
  have e : (Int32.ofNat k).toNatClampNeg = k := nI_clamp hk31
  exact z_last hd (z_kwk hk (by decide)).2 (z_ltk hk (by decide)) (fun q => by rcases q with q | q; exact nI_pos hk31 q; rw [e] at q; omega) (by rw [e, z_mm_setJ hk (by decide)]; exact kk (z_setJ μ o k x) a μ' h ν)
theorem s_aald {o t n r : Nat} {i : Int32} (hd : decode Y.2.1 pc = .ok (.aaload, 1)) (hk : z_kw w o = (t, n)) (ht1 : 23 ≤ t) (ht2 : t < 26) (hr : vp_in i n → ∀ c r', z_Rs c r' o i.toNatClampNeg = some r) (kk : vp_in i n → z_sim w ret Y d X (pc + 1) lv (.ref r :: st) μ) : z_sim w ret Y d (z_in i n X) pc lv (.int i :: .ref o :: st) μ := fun a μ' h ν => z_aald hd (z_kwk hk (by omega)).2 ht1 ht2 (z_ltk hk (by omega)) (z_in_some h).1 (hr (z_in_some h).1 _ _) (kk (z_in_some h).1 a μ' (z_in_some h).2 ν)
theorem s_alen {o t n : Nat} {v : Int32} (hd : decode Y.2.1 pc = .ok (.arraylength, 1)) (hk : z_kw w o = (t, n)) (h1 : 20 ≤ t) (h2 : t < 26) (hv : Int32.ofNat n = v) (kk : z_sim w ret Y d X (pc + 1) lv (.int v :: st) μ) : z_sim w ret Y d X pc lv (.ref o :: st) μ := by
  subst hv
  exact fun a μ' h ν => z_alen hd (z_kwk hk (by omega)).2 h1 h2 (z_ltk hk (by omega)) (kk a μ' h ν)
theorem s_copy {idx o0 o1 n0 n1 : Nat} {sp dp n : Int32} {X : z_S → Option (α × z_S)} (hd : decode Y.2.1 pc = .ok (.invokestatic idx, 3)) (hL : z_LC Y.1.cls idx) (hk0 : z_kw w o0 = (20, n0)) (hk1 : z_kw w o1 = (20, n1)) (hst : (st.map (fun v => v.category)).sum ≤ 8) (kk : ∀ μ1, z_sim w ret Y d (X μ1) (pc + 3) lv st μ1) : z_sim w ret Y d (z_cpin sp dp n n0 n1 (z_bd (z_cpS μ o0 sp.toNatClampNeg o1 dp.toNatClampNeg n.toNatClampNeg) X)) pc lv (.int n :: .int dp :: .ref o1 :: .int sp :: .ref o0 :: st) μ := by
  intro a μ' h ν
  unfold z_cpin at h
  split at h
  · cases h
  · next hc =>
    exact z_copy hd hL (z_kwk hk0 (by decide)).2 (z_kwk hk1 (by decide)).2 (z_ltk hk0 (by decide)) (z_ltk hk1 (by decide)) (fun q => hc (Or.inl q)) (fun q => hc (Or.inr (Or.inl q))) (fun q => hc (Or.inr (Or.inr (Or.inl q)))) (by omega) (by omega) hst (by rw [z_mm_cp hk0 (by decide) hk1 (by decide)]; exact kk (z_cpS μ o0 sp.toNatClampNeg o1 dp.toNatClampNeg n.toNatClampNeg) a μ' h ν)
theorem s_kmi {idx j k : Nat} {i : Int32} (hd : decode Y.2.1 pc = .ok (.getstatic idx, 3)) (hw : ∀ b U, z_E b U → va_Nw (.fieldLinkNest Y.1.cls idx "DearLetters" "KIND_MOST" "[I" "DearLetters") U) (jf : Fin 4) (hj : (jf : Nat) = j) (hd2 : decode Y.2.1 (pc + 3) = .ok (.iload_n jf, 1)) (hk : lv[k]? = some (j, .int i)) (hd3 : decode Y.2.1 (pc + 4) = .ok (.iaload, 1)) (kk : z_sim w ret Y d X (pc + 5) lv (.int (z_km i.toNatClampNeg) :: st) μ) : z_sim w ret Y d (z_in i 10 X) pc lv st μ := fun a μ' h ν => z_kmi hd hw jf hj hd2 hk hd3 (z_in_some h).1 (kk a μ' (z_in_some h).2 ν)
theorem s_iret {ret : Int32 → Option Value} (hret : ret = rI) {x : Int32} (hd : decode Y.2.1 pc = .ok (.ireturn, 1)) (hr : Y.2.2.2 = some .int) : z_sim w ret Y d (some (x, μ)) pc lv [.int x] μ := by
  subst hret
  intro a μ' h ν
  cases h
  exact z_iret hd hr (Nat.le_refl _) (Nat.le_refl _)
theorem s_zret0 {x : Int32} (hd : decode Y.2.1 pc = .ok (.ireturn, 1)) (hr : Y.2.2.2 = some .boolean) (hx : narrow .boolean (.int x) = .int x) : z_sim w rI Y d (some (x, μ)) pc lv [.int x] μ := by
  intro a μ' h ν
  cases h
  exact z_zret hd hr hx (Nat.le_refl _) (Nat.le_refl _)
theorem s_zret {x : Int32} (hd : decode Y.2.1 pc = .ok (.ireturn, 1)) (hr : Y.2.2.2 = some .boolean) : z_sim w rI Y d (z_zb x (some (x, μ))) pc lv [.int x] μ := by
  intro a μ' h ν
  unfold z_zb at h
  split at h
  · next hc =>
    cases h
    exact z_zret hd hr (by rcases hc with rfl | rfl <;> rfl) (Nat.le_refl _) (Nat.le_refl _)
  · cases h
theorem s_lret {x : Int64} (hd : decode Y.2.1 pc = .ok (.lreturn, 1)) (hr : Y.2.2.2 = some .long) : z_sim w rJ Y d (some (x, μ)) pc lv [.long x] μ := by
  intro a μ' h ν
  cases h
  exact z_lret hd hr (Nat.le_refl _) (Nat.le_refl _)
theorem s_vret (hd : decode Y.2.1 pc = .ok (.return_, 1)) (hr : Y.2.2.2 = none) : z_sim w rV Y d (some ((), μ)) pc lv [] μ := by
  intro a μ' h ν
  cases h
  exact z_vret hd hr (Nat.le_refl _) (Nat.le_refl _)
theorem s_none : z_sim w ret Y d none pc lv st μ := fun a μ' h ν => by cases h
theorem s_kd {o t : Nat} (kk : z_kw w o = (t, (z_kw w o).2) → z_sim w ret Y d X pc lv st μ) : z_sim w ret Y d (z_kd w o t X) pc lv st μ := by
  intro a μ' h ν
  unfold z_kd at h
  split at h
  · next hc => exact kk (by rw [← hc]) a μ' h ν
  · cases h
theorem z_bn_some {β γ : Type} {F : Option (β × z_S)} {X : β → z_S → Option γ} {q : γ} (h : z_bn F X = some q) : ∃ r μ1, F = some (r, μ1) ∧ X r μ1 = some q := by
  cases F with
  | none => cases h
  | some y => exact ⟨y.1, y.2, rfl, h⟩
theorem s_callVI {idx o n ci d' : Nat} {as : List Value} {Y' : z_Y} {st0 : List Value} {F : Option (Int32 × z_S)} {X : Int32 → z_S → Option (α × z_S)} (hd : decode Y.2.1 pc = .ok (.invokevirtual idx, 3)) (hL : z_LV Y.1.cls idx ci Y' n) (hk : z_kw w o = (ci, 0)) (hm : z_met w rI Y' d' (.ref o :: as) μ F) (hdd : d' + 1 ≤ d) (hn : as.length = n) (hst : (st.map (fun v => v.category)).sum ≤ 8) (he : as.reverse ++ .ref o :: st = st0) (kk : ∀ (r : Int32) (μ1 : z_S), z_sim w ret Y d (X r μ1) (pc + 3) lv (.int r :: st) μ1) : z_sim w ret Y d (z_bn F X) pc lv st0 μ := by
  intro a μ' h ν
  obtain ⟨r, μ1, h1, h2⟩ := z_bn_some h
  exact z_callV hd hL (hm r μ1 h1 ν) (by rw [(z_kwk hk (by have := hL.2.1; omega)).2]) (z_ltk hk (by have := hL.2.1; omega)) hdd (Nat.le_refl _) (Nat.le_refl _) hn hst he (kk r μ1 a μ' h2 ν)
theorem s_callVJ {idx o n ci d' : Nat} {as : List Value} {Y' : z_Y} {st0 : List Value} {F : Option (Int64 × z_S)} {X : Int64 → z_S → Option (α × z_S)} (hd : decode Y.2.1 pc = .ok (.invokevirtual idx, 3)) (hL : z_LV Y.1.cls idx ci Y' n) (hk : z_kw w o = (ci, 0)) (hm : z_met w rJ Y' d' (.ref o :: as) μ F) (hdd : d' + 1 ≤ d) (hn : as.length = n) (hst : (st.map (fun v => v.category)).sum ≤ 8) (he : as.reverse ++ .ref o :: st = st0) (kk : ∀ (r : Int64) (μ1 : z_S), z_sim w ret Y d (X r μ1) (pc + 3) lv (.long r :: st) μ1) : z_sim w ret Y d (z_bn F X) pc lv st0 μ := by
  intro a μ' h ν
  obtain ⟨r, μ1, h1, h2⟩ := z_bn_some h
  exact z_callV hd hL (hm r μ1 h1 ν) (by rw [(z_kwk hk (by have := hL.2.1; omega)).2]) (z_ltk hk (by have := hL.2.1; omega)) hdd (Nat.le_refl _) (Nat.le_refl _) hn hst he (kk r μ1 a μ' h2 ν)
theorem s_callVV {idx o n ci d' : Nat} {as : List Value} {Y' : z_Y} {st0 : List Value} {F : Option (Unit × z_S)} {X : Unit → z_S → Option (α × z_S)} (hd : decode Y.2.1 pc = .ok (.invokevirtual idx, 3)) (hL : z_LV Y.1.cls idx ci Y' n) (hk : z_kw w o = (ci, 0)) (hm : z_met w rV Y' d' (.ref o :: as) μ F) (hdd : d' + 1 ≤ d) (hn : as.length = n) (hst : (st.map (fun v => v.category)).sum ≤ 8) (he : as.reverse ++ .ref o :: st = st0) (kk : ∀ (r : Unit) (μ1 : z_S), z_sim w ret Y d (X r μ1) (pc + 3) lv st μ1) : z_sim w ret Y d (z_bn F X) pc lv st0 μ := by
  intro a μ' h ν
  obtain ⟨r, μ1, h1, h2⟩ := z_bn_some h
  exact z_callV hd hL (hm r μ1 h1 ν) (by rw [(z_kwk hk (by have := hL.2.1; omega)).2]) (z_ltk hk (by have := hL.2.1; omega)) hdd (Nat.le_refl _) (Nat.le_refl _) hn hst he (kk r μ1 a μ' h2 ν)
theorem s_callSI {idx n d' : Nat} {as : List Value} {Y' : z_Y} {st0 : List Value} {F : Option (Int32 × z_S)} {X : Int32 → z_S → Option (α × z_S)} (hd : decode Y.2.1 pc = .ok (.invokestatic idx, 3)) (hL : z_LS Y.1.cls idx Y' n) (hm : z_met w rI Y' d' as μ F) (hdd : d' + 1 ≤ d) (hn : as.length = n) (hst : (st.map (fun v => v.category)).sum ≤ 8) (he : as.reverse ++ st = st0) (kk : ∀ (r : Int32) (μ1 : z_S), z_sim w ret Y d (X r μ1) (pc + 3) lv (.int r :: st) μ1) : z_sim w ret Y d (z_bn F X) pc lv st0 μ := by
  intro a μ' h ν
  obtain ⟨r, μ1, h1, h2⟩ := z_bn_some h
  exact z_callS hd hL (hm r μ1 h1 ν) hdd (Nat.le_refl _) (Nat.le_refl _) hn hst he (kk r μ1 a μ' h2 ν)
theorem s_callSJ {idx n d' : Nat} {as : List Value} {Y' : z_Y} {st0 : List Value} {F : Option (Int64 × z_S)} {X : Int64 → z_S → Option (α × z_S)} (hd : decode Y.2.1 pc = .ok (.invokestatic idx, 3)) (hL : z_LS Y.1.cls idx Y' n) (hm : z_met w rJ Y' d' as μ F) (hdd : d' + 1 ≤ d) (hn : as.length = n) (hst : (st.map (fun v => v.category)).sum ≤ 8) (he : as.reverse ++ st = st0) (kk : ∀ (r : Int64) (μ1 : z_S), z_sim w ret Y d (X r μ1) (pc + 3) lv (.long r :: st) μ1) : z_sim w ret Y d (z_bn F X) pc lv st0 μ := by
  intro a μ' h ν
  obtain ⟨r, μ1, h1, h2⟩ := z_bn_some h
  exact z_callS hd hL (hm r μ1 h1 ν) hdd (Nat.le_refl _) (Nat.le_refl _) hn hst he (kk r μ1 a μ' h2 ν)
theorem s_callSV {idx n d' : Nat} {as : List Value} {Y' : z_Y} {st0 : List Value} {F : Option (Unit × z_S)} {X : Unit → z_S → Option (α × z_S)} (hd : decode Y.2.1 pc = .ok (.invokestatic idx, 3)) (hL : z_LS Y.1.cls idx Y' n) (hm : z_met w rV Y' d' as μ F) (hdd : d' + 1 ≤ d) (hn : as.length = n) (hst : (st.map (fun v => v.category)).sum ≤ 8) (he : as.reverse ++ st = st0) (kk : ∀ (r : Unit) (μ1 : z_S), z_sim w ret Y d (X r μ1) (pc + 3) lv st μ1) : z_sim w ret Y d (z_bn F X) pc lv st0 μ := by
  intro a μ' h ν
  obtain ⟨r, μ1, h1, h2⟩ := z_bn_some h
  exact z_callS hd hL (hm r μ1 h1 ν) hdd (Nat.le_refl _) (Nat.le_refl _) hn hst he (kk r μ1 a μ' h2 ν)
theorem s_tswIn {dflt lo hi : Int} {offs : Array Int} {len : Nat} {x : Int32} {off : Int} {tgt : Nat} (hd : decode Y.2.1 pc = .ok (.tableswitch dflt lo hi offs, len)) (h1 : ¬ x.toInt < lo) (h2 : ¬ hi < x.toInt) (ho : offs[(x.toInt - lo).toNat]? = some off) (ht : (pc : Int) + off = (tgt : Int)) (kk : z_sim w ret Y d X tgt lv st μ) : z_sim w ret Y d X pc lv (.int x :: st) μ := fun a μ' h ν => z_tswIn hd h1 h2 ho ht (kk a μ' h ν)
theorem s_tswOut {dflt lo hi : Int} {offs : Array Int} {len : Nat} {x : Int32} {tgt : Nat} (hd : decode Y.2.1 pc = .ok (.tableswitch dflt lo hi offs, len)) (hx : x.toInt < lo ∨ hi < x.toInt) (ht : (pc : Int) + dflt = (tgt : Int)) (kk : z_sim w ret Y d X tgt lv st μ) : z_sim w ret Y d X pc lv (.int x :: st) μ := fun a μ' h ν => z_tswOut hd hx ht (kk a μ' h ν)
theorem s_lsw {dflt : Int} {ps : Array (Int × Int)} {len : Nat} {x : Int32} {off : Int} {tgt : Nat} (hd : decode Y.2.1 pc = .ok (.lookupswitch dflt ps, len)) (hp : (ps.toList.zip (ps.toList.drop 1)).all (fun (a, next) => a.1 < next.1) = true) (ho : Op.lookupswitch.offset ps.toList dflt x.toInt = off) (ht : (pc : Int) + off = (tgt : Int)) (kk : z_sim w ret Y d X tgt lv st μ) : z_sim w ret Y d X pc lv (.int x :: st) μ := fun a μ' h ν => z_lsw hd hp ho ht (kk a μ' h ν)
theorem s_ite {c : Prop} [Decidable c] (k1 : c → z_sim w ret Y d X1 pc lv st μ) (k2 : ¬ c → z_sim w ret Y d X2 pc lv st μ) : z_sim w ret Y d (if c then X1 else X2) pc lv st μ := by
  by_cases h : c
  · rw [if_pos h]; exact k1 h
  · rw [if_neg h]; exact k2 h
def z_ko {α : Type} (w : Bool) (o t : Nat) (X : Option α) : Option α := if z_kw w o = (t, 0) then X else none
theorem s_ko {o t : Nat} (kk : z_kw w o = (t, 0) → z_sim w ret Y d X pc lv st μ) : z_sim w ret Y d (z_ko w o t X) pc lv st μ := by
  intro a μ' h ν
  unfold z_ko at h
  split at h
  · next hc => exact kk hc a μ' h ν
  · cases h
theorem s_letI {x : Int32} {X : Int32 → Option (α × z_S)} (kk : ∀ y, z_sim w ret Y d (X y) pc lv (.int y :: st) μ) : z_sim w ret Y d (z_bd x X) pc lv (.int x :: st) μ := kk x
theorem s_letJ {x : Int64} {X : Int64 → Option (α × z_S)} (kk : ∀ y, z_sim w ret Y d (X y) pc lv (.long y :: st) μ) : z_sim w ret Y d (z_bd x X) pc lv (.long x :: st) μ := kk x
theorem s_iincB {i : Nat} (k : Nat) {n : Int} {x c : Int32} {X : Int32 → Option (α × z_S)} {lv' : Int32 → List (Nat × Value)} (hd : decode Y.2.1 pc = .ok (.iinc i n, 3)) (hk : lv[k]? = some (i, .int x)) (hc : Int32.ofInt n = c) (hn : i < Y.2.2.1) (hl' : ∀ v, z_st1 i (.int v) lv = lv' v) (kk : ∀ v, z_sim w ret Y d (X v) (pc + 3) (lv' v) st μ) : z_sim w ret Y d (z_bd (x + c) X) pc lv st μ := s_iinc k hd hk (by rw [hc]) hn (hl' (x + c)) (kk (x + c))
end ZS
