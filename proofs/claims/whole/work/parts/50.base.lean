/-! LAYER 2: pure rows over mirrors. -/
theorem z_bd_eq {α β : Type} (a : α) (f : α → β) : z_bd a f = f a := rfl
theorem z_bn_sm {α β : Type} (a : α) (μ : z_S) (X : α → z_S → Option β) : z_bn (some (a, μ)) X = X a μ := rfl
theorem z_in_ok {α : Type} {i : Int32} {n : Nat} (h : vp_in i n) (X : Option α) : z_in i n X = X := if_neg h
theorem z_in_nI {α : Type} {k n : Nat} (h : k < n) (hn : n < 2 ^ 31) (X : Option α) : z_in (nI k) n X = X := z_in_ok (vp_in_nI h hn) X
theorem z_nz_ok {α : Type} {i : Int32} (h : ¬ i = 0) (X : Option α) : z_nz i X = X := if_neg h
theorem z_nzJ_ok {α : Type} {i : Int64} (h : ¬ i = 0) (X : Option α) : z_nzJ i X = X := if_neg h
theorem z_zb_0 {α : Type} (X : Option α) : z_zb 0 X = X := if_pos (Or.inl rfl)
theorem z_zb_1 {α : Type} (X : Option α) : z_zb 1 X = X := if_pos (Or.inr rfl)
theorem z_zb_ok {α : Type} {i : Int32} (h : i = 0 ∨ i = 1) (X : Option α) : z_zb i X = X := if_pos h
theorem z_ko_ok {α : Type} {w : Bool} {o t : Nat} (h : z_kw w o = (t, 0)) (X : Option α) : z_ko w o t X = X := if_pos h
theorem z_kd_ok {α : Type} {w : Bool} {o t : Nat} (h : (z_kw w o).1 = t) (X : Option α) : z_kd w o t X = X := if_pos h
theorem z_cpin_ok {α : Type} {sp dp n : Int32} {n0 n1 : Nat} (h : ¬ (sp < 0 ∨ dp < 0 ∨ n < 0 ∨ n0 < sp.toNatClampNeg + n.toNatClampNeg ∨ n1 < dp.toNatClampNeg + n.toNatClampNeg)) (X : Option α) : z_cpin sp dp n n0 n1 X = X := if_neg h
theorem sI_1 (μ : z_S) (o k : Nat) (x : Int32) (a j : Nat) : (z_setI μ o k x).1 a j = if a = o ∧ j = k then x else μ.1 a j := rfl
theorem sI_2 (μ : z_S) (o k : Nat) (x : Int32) : (z_setI μ o k x).2 = μ.2 := rfl
theorem sI_21 (μ : z_S) (o k : Nat) (x : Int32) : (z_setI μ o k x).2.1 = μ.2.1 := rfl
theorem sI_22 (μ : z_S) (o k : Nat) (x : Int32) : (z_setI μ o k x).2.2 = μ.2.2 := rfl
theorem sJ_1 (μ : z_S) (o k : Nat) (x : Int64) : (z_setJ μ o k x).1 = μ.1 := rfl
theorem sJ_21 (μ : z_S) (o k : Nat) (x : Int64) (a j : Nat) : (z_setJ μ o k x).2.1 a j = if a = o ∧ j = k then x else μ.2.1 a j := rfl
theorem sJ_22 (μ : z_S) (o k : Nat) (x : Int64) : (z_setJ μ o k x).2.2 = μ.2.2 := rfl
theorem cpS_1 (μ : z_S) (o0 sp o1 dp n a j : Nat) : (z_cpS μ o0 sp o1 dp n).1 a j = if a = o1 ∧ dp ≤ j ∧ j < dp + n then μ.1 o0 (sp + (j - dp)) else μ.1 a j := rfl
theorem cpS_2 (μ : z_S) (o0 sp o1 dp n : Nat) : (z_cpS μ o0 sp o1 dp n).2 = μ.2 := rfl
/-- memories that hold the same -/
theorem z_Sext {μ ν : z_S} (h1 : ∀ a j, μ.1 a j = ν.1 a j) (h2 : μ.2 = ν.2) : μ = ν := Prod.ext (funext fun a => funext fun j => h1 a j) h2
theorem nI_toNat {k : Nat} (h : k < 2 ^ 31) : (nI k).toNatClampNeg = k := nI_clamp h
theorem lit_nI_0 : (0 : Int32) = nI 0 := by decide
theorem lit_nI_1 : (1 : Int32) = nI 1 := by decide
theorem z_hn_lt (c : Bool) : z_hn c = 56 ∨ z_hn c = 96 := by cases c <;> simp [z_hn]
/-! the relation of the two memories, piece by piece -/
/-- the tape, of n bytes -/
def i_text (n : Nat) (μ ν : z_S) : Prop := n ≤ 1600 ∧ μ.1 1 1 = nI n ∧ ν.1 253 1 = nI n ∧ (∀ k, μ.1 2 k = ν.1 254 k) ∧ ∀ k, 0 ≤ (μ.1 2 k).toInt ∧ (μ.1 2 k).toInt < 256
/-- refusals, the latest fault -/
def i_refs (μ ν : z_S) : Prop := (∀ k, μ.1 55 k = ν.1 255 k) ∧ μ.1 1 2 = ν.1 253 7 ∧ μ.1 1 3 = ν.1 253 8
