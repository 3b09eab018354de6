/-! codes that tell one number -/
def numC (K : Nat) (cs : List Int32) : Prop := ∀ (V : Nat → Int) (Wf : Int → Int) (st : List Int), st.length + K ≤ 64 → ∃ v, runV V Wf st cs = some (v :: st)
theorem runV_app (V : Nat → Int) (Wf : Int → Int) : ∀ (a b : List Int32) (st : List Int), runV V Wf st (a ++ b) = match runV V Wf st a with
    | none => none
    | some s => runV V Wf s b
  | [], b, st => rfl
  | c :: a, b, st => by
    show (match stepV V Wf st c with
      | none => none
      | some st' => if st'.length ≤ 64 then runV V Wf st' (a ++ b) else none) = _
    have e : runV V Wf st (c :: a) = (match stepV V Wf st c with
      | none => none
      | some st' => if st'.length ≤ 64 then runV V Wf st' a else none) := rfl
    rw [e]
    cases stepV V Wf st c with
    | none => rfl
    | some s =>
      show (if s.length ≤ 64 then runV V Wf s (a ++ b) else none) = match (if s.length ≤ 64 then runV V Wf s a else none) with
        | none => none
        | some s => runV V Wf s b
      by_cases h : s.length ≤ 64
      · rw [if_pos h, if_pos h, runV_app V Wf a b s]
      · rw [if_neg h, if_neg h]
theorem runV_one {V : Nat → Int} {Wf : Int → Int} {st s : List Int} {c : Int32} (h : stepV V Wf st c = some s) (hl : s.length ≤ 64) : runV V Wf st [c] = some s := by
  show (match stepV V Wf st c with
      | none => none
      | some st' => if st'.length ≤ 64 then runV V Wf st' [] else none) = _
  rw [h]
  show (if s.length ≤ 64 then some s else none) = some s
  rw [if_pos hl]
theorem numC_mono {K K' : Nat} (h : K ≤ K') {cs : List Int32} (hc : numC K cs) : numC K' cs := fun V Wf st hs => hc V Wf st (by omega)
theorem numC_num {c : Int32} (h : 0 ≤ c) : numC 1 [c] := fun V Wf st hs => ⟨c.toInt, runV_one (by unfold stepV; rw [if_pos h]) (by rw [List.length_cons]; omega)⟩
theorem numC_val {c : Int32} (h : ¬ 0 ≤ c) (h2 : -10 ≤ c) : numC 1 [c] := fun V Wf st hs => ⟨V (-1 - c).toNatClampNeg, runV_one (by unfold stepV; rw [if_neg h, if_pos h2]) (by rw [List.length_cons]; omega)⟩
theorem numC_wish {K : Nat} {cs : List Int32} (h : numC K cs) (hK : 1 ≤ K) : numC K (cs ++ [-23]) := fun V Wf st hs => by
  obtain ⟨v, hv⟩ := h V Wf st hs
  refine ⟨Wf v, ?_⟩
  rw [runV_app, hv]
  exact runV_one (by unfold stepV; rw [if_neg (by decide), if_neg (by decide), if_neg (by decide)]; show (if (-23 : Int32) = -22 then _ else some (Wf v :: st)) = _; rw [if_neg (by decide)]) (by rw [List.length_cons]; omega)
/-- one of the four, min, max -/
def opC (c : Int32) : Prop := c = -11 ∨ c = -12 ∨ c = -13 ∨ c = -14 ∨ c = -15 ∨ c = -16
theorem joinV_op {c : Int32} (h : opC c) (a b : Int) : ∃ v, joinV c a b = some v := by
  unfold joinV
  rcases h with rfl | rfl | rfl | rfl | rfl | rfl
  · exact ⟨_, if_pos rfl⟩
  · exact ⟨_, by rw [if_neg (by decide), if_pos rfl]⟩
  · exact ⟨_, by rw [if_neg (by decide), if_neg (by decide), if_pos rfl]⟩
  · exact ⟨_, by rw [if_neg (by decide), if_neg (by decide), if_neg (by decide), if_pos rfl]⟩
  · exact ⟨_, by rw [if_neg (by decide), if_neg (by decide), if_neg (by decide), if_neg (by decide), if_pos rfl]⟩
  · exact ⟨_, by rw [if_neg (by decide), if_neg (by decide), if_neg (by decide), if_neg (by decide), if_neg (by decide), if_pos rfl]⟩
theorem numC_op {K : Nat} {a b : List Int32} {c : Int32} (ha : numC (K + 1) a) (hb : numC K b) (hc : opC c) (hK : 1 ≤ K) : numC (K + 1) (a ++ (b ++ [c])) := fun V Wf st hs => by
  obtain ⟨x, hx⟩ := ha V Wf st hs
  obtain ⟨y, hy⟩ := hb V Wf (x :: st) (by rw [List.length_cons]; omega)
  obtain ⟨v, hv⟩ := joinV_op hc x y
  refine ⟨v, ?_⟩
  rw [runV_app, hx]
  show runV V Wf (x :: st) (b ++ [c]) = _
  rw [runV_app, hy]
  refine runV_one ?_ (by rw [List.length_cons]; omega)
  have n1 : ¬ 0 ≤ c := by rcases hc with rfl | rfl | rfl | rfl | rfl | rfl <;> decide
  have n2 : ¬ -10 ≤ c := by rcases hc with rfl | rfl | rfl | rfl | rfl | rfl <;> decide
  have n3 : -22 < c := by rcases hc with rfl | rfl | rfl | rfl | rfl | rfl <;> decide
  unfold stepV
  rw [if_neg n1, if_neg n2, if_pos n3]
  show (match joinV c x y with
      | some v => some (v :: st)
      | none => none) = _
  rw [hv]
/-- which codes may stand in a law, in a question -/
def okc (as : Bool) (c : Int32) : Prop := -23 ≤ c ∧ c ≤ 9999 ∧ (as = false → -6 ≤ c ∨ (-16 ≤ c ∧ c ≤ -11)) ∧ (as = true → ¬ c = -4)
theorem okc_op {as : Bool} {c : Int32} (h : opC c) : okc as c := by
  rcases h with rfl | rfl | rfl | rfl | rfl | rfl <;> exact ⟨by decide, by decide, fun _ => Or.inr ⟨by decide, by decide⟩, fun _ => by decide⟩
/-! the class' codes -/
def cC (C : List Int32) (μ : z_S) : Prop := μ.1 93 1 = nI C.length ∧ ∀ k c, C[k]? = some c → μ.1 94 k = c
def cL (μ : z_S) : Prop := ∃ k : Nat, k ≤ 1600 ∧ μ.1 93 1 = nI k
def dFr (μ μ' : z_S) : Prop := μ'.2 = μ.2 ∧ ∀ a j, ¬ (a = 93 ∧ j = 1) → a ≠ 94 → μ'.1 a j = μ.1 a j
def vFr (μ μ' : z_S) : Prop := μ'.2 = μ.2 ∧ ∀ a j, ¬ (a = 1 ∧ 2 ≤ j ∧ j ≤ 9 ∧ (4 ≤ j ∨ ¬ μ'.1 1 2 = 0)) → ¬ (a = 93 ∧ j = 1) → a ≠ 94 → μ'.1 a j = μ.1 a j
theorem vFr.rf (μ : z_S) : vFr μ μ := ⟨rfl, fun _ _ _ _ _ => rfl⟩
theorem vFr.tr {μ μ1 μ2 : z_S} (h : vFr μ μ1) (g : vFr μ1 μ2) : vFr μ μ2 := ⟨g.1.trans h.1, fun a j q r s => (g.2 a j q r s).trans (h.2 a j (fr_12 (fun a j z w => g.2 a j z (by omega) (by omega)) q) r s)⟩
theorem uFr.v {μ μ' : z_S} (h : uFr μ μ') : vFr μ μ' := ⟨h.1, fun a j q _ _ => h.2 a j q⟩
theorem dFr.v {μ μ' : z_S} (h : dFr μ μ') : vFr μ μ' := ⟨h.1, fun a j _ r s => h.2 a j r s⟩
theorem uFr.cC {C : List Int32} {μ μ' : z_S} (g : uFr μ μ') (h : cC C μ) : cC C μ' := ⟨by rw [g.2 _ _ (by omega)]; exact h.1, fun k c hc => by rw [g.2 _ _ (by omega)]; exact h.2 k c hc⟩
theorem uFr.cL {μ μ' : z_S} (g : uFr μ μ') (h : cL μ) : cL μ' := by
  obtain ⟨k, k1, k2⟩ := h
  exact ⟨k, k1, by rw [g.2 _ _ (by omega)]; exact k2⟩
theorem cC.l {C : List Int32} {μ : z_S} (h : cC C μ) (hl : C.length ≤ 1600) : cL μ := ⟨C.length, hl, h.1⟩
theorem dFr.cG {t : Nat → Nat} {n q : Nat} {g : Bool} {μ μ' : z_S} (f : dFr μ μ') (h : cG t n q g μ) : cG t n q g μ' := by
  obtain ⟨⟨x1, x2, x3, x4, x5⟩, ⟨t1, t2, t3, t4, t5, t6, t7⟩, h2, h3⟩ := h
  have e1 : ∀ j, μ'.1 1 j = μ.1 1 j := fun j => f.2 _ _ (by omega) (by decide)
  exact ⟨⟨x1, by rw [e1]; exact x2, fun k => by rw [f.2 _ _ (by omega) (by decide)]; exact x3 k, x4, fun k c hc => by rw [f.2 _ _ (by omega) (by decide)]; exact x5 k c hc⟩, ⟨by rw [e1]; exact t1, by rw [e1]; exact t2, by rw [e1]; exact t3, by rw [e1]; exact t4, by rw [e1]; exact t5, fun a b => by rw [e1]; exact t6 a b, fun a b => by rw [e1]; exact t7 a b⟩, by rw [e1]; exact h2, h3⟩
theorem dFr.cB {f p : Nat} {μ μ' : z_S} (g : dFr μ μ') (h : cB f p μ) : cB f p μ' := ⟨by rw [g.2 _ _ (by omega) (by decide)]; exact h.1, by rw [g.2 _ _ (by omega) (by decide)]; exact h.2⟩
theorem k93 : z_kw true 93 = (0, 0) := rfl
theorem c_addC {C : List Int32} (N : Nat) {μ : z_S} (h : cC C μ) (hl : C.length < 1600) (x : Int32) : ∃ μ', f_X0_add N 93 x μ = some ((), μ') ∧ dFr μ μ' ∧ cC (C ++ [x]) μ' := by
  unfold f_X0_add
  rw [z_ko_ok k93, h.1, if_pos (show nI C.length < (1600 : Int32) from nI_lt (b := 1600) hl (by decide)), z_bd_eq, show nI C.length + (1 : Int32) = nI (C.length + 1) from nI_1 _, z_bd_eq, z_in_nI hl (by decide), nI_toNat (by omega), z_bd_eq]
  refine ⟨_, rfl, ⟨rfl, fun a j r s => by rw [sI_1, if_neg (fun z => s z.1), sI_1, if_neg r]⟩, ?_, fun k c hc => ?_⟩
  · rw [sI_1, if_neg (by omega), sI_1, if_pos ⟨rfl, rfl⟩, snoc_len]
  · rw [sI_1]
    rcases snoc_get hc with ⟨y, z⟩ | ⟨y, z⟩
    · rw [if_neg (by omega), sI_1, if_neg (by omega)]; exact h.2 k c z
    · rw [if_pos ⟨rfl, y⟩, z]
theorem c_addL (N : Nat) {μ : z_S} (h : cL μ) (x : Int32) : ∃ μ', f_X0_add N 93 x μ = some ((), μ') ∧ dFr μ μ' ∧ cL μ' := by
  obtain ⟨k, k1, k2⟩ := h
  unfold f_X0_add
  rw [z_ko_ok k93, k2]
  by_cases c : k < 1600
  · rw [if_pos (show nI k < (1600 : Int32) from nI_lt (b := 1600) c (by decide)), z_bd_eq, show nI k + (1 : Int32) = nI (k + 1) from nI_1 _, z_bd_eq, z_in_nI c (by decide), nI_toNat (by omega), z_bd_eq]
    refine ⟨_, rfl, ⟨rfl, fun a j r s => by rw [sI_1, if_neg (fun z => s z.1), sI_1, if_neg r]⟩, k + 1, by omega, ?_⟩
    rw [sI_1, if_neg (by omega), sI_1, if_pos ⟨rfl, rfl⟩]
  · rw [if_neg (show ¬ nI k < (1600 : Int32) from nI_nlt (b := 1600) (by omega) (by omega))]
    exact ⟨μ, rfl, ⟨rfl, fun _ _ _ _ => rfl⟩, k, k1, k2⟩
