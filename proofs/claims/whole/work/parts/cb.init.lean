/-! when both are made, memory tells the first state -/
theorem ai_out : ∀ (L : List (Nat × Nat × Int32)) {o : Nat}, L.all (fun q => q.1 != o) = true → ∀ j, ai L o j = 0
  | [], _, _, _ => rfl
  | q :: L, o, h, j => by
    rw [List.all_cons, Bool.and_eq_true] at h
    show z_u (ai L) q.1 q.2.1 q.2.2 o j = 0
    rw [z_u_ne (fun e => by have h1 := h.1; rw [← e.1] at h1; simp at h1)]
    exact ai_out L h.2 j
theorem ar_mem : ∀ (L : List (Nat × Nat × Nat)) {o j r : Nat}, ar L o j = some r → (o, j, r) ∈ L
  | [], _, _, _, h => by cases h
  | q :: L, o, j, r, h => by
    have h : (if o = q.1 ∧ j = q.2.1 then some q.2.2 else ar L o j) = some r := h
    by_cases c : o = q.1 ∧ j = q.2.1
    · rw [if_pos c] at h
      cases h
      rw [c.1, c.2]
      exact List.mem_cons_self
    · rw [if_neg c] at h
      exact List.mem_cons_of_mem _ (ar_mem L h)
theorem ar_some : ∀ (L : List (Nat × Nat × Nat)) {o j r : Nat}, (o, j, r) ∈ L → ∃ r', ar L o j = some r'
  | [], _, _, _, h => by cases h
  | q :: L, o, j, r, h => by
    show ∃ r', (if o = q.1 ∧ j = q.2.1 then some q.2.2 else ar L o j) = some r'
    by_cases c : o = q.1 ∧ j = q.2.1
    · exact ⟨_, if_pos c⟩
    · rw [if_neg c]
      rcases List.mem_cons.mp h with e | e
      · exact absurd ⟨congrArg (fun z => z.1) e, congrArg (fun z => z.2.1) e⟩ c
      · exact ar_some L e
theorem ar_eq {L : List (Nat × Nat × Nat)} {F : Nat → Nat → Option Nat} (h1 : ∀ q ∈ L, F q.1 q.2.1 = some q.2.2) (h2 : ∀ o j r, F o j = some r → (o, j, r) ∈ L) : ar L = F := by
  funext o j
  cases hF : F o j with
  | some r =>
    obtain ⟨r', hr⟩ := ar_some L (h2 o j r hF)
    have h3 : F o j = some r' := h1 _ (ar_mem L hr)
    rw [hr, ← hF, h3]
  | none =>
    cases hr : ar L o j with
    | none => rfl
    | some r =>
      have h3 : F o j = some r := h1 _ (ar_mem L hr)
      rw [hF] at h3
      cases h3
set_option maxRecDepth 100000 in
theorem R_1 : (L12R.all fun q => decide (z_Rs false true q.1 q.2.1 = some q.2.2)) = true := by decide +kernel
set_option maxRecDepth 100000 in
theorem R_2 : ((List.range 334).all fun o => (List.range (z_rl.getD o []).length).all fun j => match z_Rs false true o j with
  | none => true
  | some r => L12R.contains (o, j, r)) = true := by decide +kernel
theorem R_eq : ar L12R = z_Rs false true := by
  refine ar_eq (fun q hq => of_decide_eq_true (List.all_eq_true.mp R_1 q hq)) (fun o j r h => ?_)
  have hlt : o < 334 ∧ j < (z_rl.getD o []).length := by
    by_cases c1 : o = 0 ∧ j = 14
    · rw [c1.1, c1.2]; decide +kernel
    · by_cases c2 : o = 95 ∧ j = 2
      · rw [c2.1, c2.2]; decide +kernel
      · have h0 : z_R0 o j = some r := by
          have h' : (if o = 0 ∧ j = 14 then some (z_hn false) else if o = 95 ∧ j = 2 then some (z_hn true) else z_R0 o j) = some r := h
          rw [if_neg c1, if_neg c2] at h'
          exact h'
        have hj : j < (z_rl.getD o []).length := by
          rcases Nat.lt_or_ge j (z_rl.getD o []).length with q | q
          · exact q
          · exfalso
            unfold z_R0 at h0
            rw [show (z_rl.getD o []).getD j 0 = 0 by rw [List.getD_eq_getElem?_getD, List.getElem?_eq_none q]; rfl] at h0
            cases h0
        refine ⟨?_, hj⟩
        rcases Nat.lt_or_ge o 334 with q | q
        · exact q
        · exfalso
          rw [show z_rl.getD o [] = [] by rw [List.getD_eq_getElem?_getD, List.getElem?_eq_none (by rw [show z_rl.length = 334 by decide +kernel]; exact q)]; rfl] at hj
          exact Nat.not_lt_zero _ hj
  have h3 := List.all_eq_true.mp (List.all_eq_true.mp R_2 o (List.mem_range.mpr hlt.1)) j (List.mem_range.mpr hlt.2)
  rw [h] at h3
  exact List.contains_iff_mem.mp h3
def m0 : z_S := (ai L12I, aj L12J, false, true)
theorem mm0 : aM 334 L12I L12J L12R = z_mm true m0 m0 := by
  refine Prod.ext rfl (Prod.ext ?_ (Prod.ext ?_ ?_))
  · funext o j
    show ai L12I o j = if z_own true o = true then ai L12I o j else ai L12I o j
    rw [ite_self]
  · funext o j
    show aj L12J o j = if z_own true o = true then aj L12J o j else aj L12J o j
    rw [ite_self]
  · exact R_eq
/-- nothing told, nothing done -/
def n0 : aN := (0, fun _ => 0, fun _ => 0, fun _ => 0, fun _ => 0, fun _ => 0)
def A0 : aS := ((0, fun _ => 0), fun _ => 0, (0, -1), hInit, n0, [], [], [], 1)
theorem okA0 : okS A0 := by
  refine ⟨by decide, fun _ => (by decide : (0 : Nat) < 256), okH_init, ?_, by decide, fun a h => absurd h List.not_mem_nil, by decide, fun a h => absurd h List.not_mem_nil, by decide, fun a h => absurd h List.not_mem_nil, by decide⟩
  exact ⟨by decide, fun _ => Nat.zero_le _, fun _ _ => rfl, fun _ => Nat.zero_le _, fun _ _ => rfl, fun _ => Nat.zero_le _, fun _ => Nat.zero_le _, fun _ => Nat.zero_le _, fun _ _ => ⟨rfl, rfl, rfl⟩⟩
set_option maxRecDepth 100000 in
theorem I_w : ((List.range 34).all fun k => ai L12I 3 k == cWords.getD k 0) = true := by decide +kernel
set_option maxRecDepth 100000 in
theorem I_2 : (L12I.all fun q => q.1 != 2) = true := by decide +kernel
set_option maxRecDepth 100000 in
theorem I_254 : (L12I.all fun q => q.1 != 254) = true := by decide +kernel
set_option maxRecDepth 100000 in
theorem I_c : ai L12I 1 1 = nI 0 ∧ (∀ k, k < 6 → ai L12I 55 k = 0) ∧ ai L12I 1 2 = 0 ∧ ai L12I 1 3 = -1 ∧ ai L12I 0 17 = nI 0 ∧ ai L12I 0 18 = nI 0 ∧ ai L12I 0 15 = nI 0 ∧ ai L12I 0 16 = nI 0 ∧ ai L12I 0 19 = nI 1 := by decide +kernel
set_option maxRecDepth 100000 in
theorem I_h : (∀ k, k < 5 → ai L12I 57 k = nI 0) ∧ (∀ l, l < 8 → ai L12I (56 + 9) l = nI (nearB hInit l)) ∧ (∀ l, l < 8 → ∀ g, g < 4 → ai L12I (56 + 11 + l) g = nI 0) ∧ (∀ a, a < 8 → ∀ b, b < 8 → ai L12I (56 + 20 + a) b = nI 0 - 1) ∧ ai L12I 56 15 = nI 3 ∧ ai L12I 56 16 = nI 0 ∧ ai L12I 90 0 = nI 0 ∧ ai L12I 91 0 = nI 1 ∧ ai L12I 90 1 = nI 1 ∧ ai L12I 91 1 = nI 2 ∧ ai L12I 89 0 = 20 ∧ ai L12I 89 1 = -4 := by decide +kernel
set_option maxRecDepth 100000 in
theorem I_n : ai L12I 39 0 = nI 0 ∧ (∀ k, k < 3 → ai L12I 40 k = nI 0) ∧ (∀ k, k < 4 → ai L12I 41 k = nI 0) ∧ (∀ k, k < 8 → ai L12I 42 k = nI 0 - 1) ∧ (∀ k, k < 8 → ai L12I 43 k = nI 0) ∧ ∀ k, k < 8 → ai L12I 44 k = nI 0 - 1 := by decide +kernel
theorem cS0 : cS A0 m0 := by
  have hc := I_c
  have hh := I_h
  have hn := I_n
  have hw := I_w
  have ht : ∀ k, ai L12I 2 k = 0 := ai_out L12I I_2
  unfold m0
  generalize ai L12I = f at hc hh hn hw ht ⊢
  generalize aj L12J = g
  obtain ⟨c1, c2, c3, c4, c5, c6, c7, c8, c9⟩ := hc
  obtain ⟨h1, h2, h3, h4, h5, h6, h7, h8, h9, g1, g2, g3⟩ := hh
  refine ⟨c1, ht, fun k c hk => ?_, c2, c3, c4, rfl, ?_, hn, c5, ⟨0, by decide, c6, fun i a h => (by cases h)⟩, c7, fun k q h => (by cases h), c8, fun k x h => (by cases h), c9⟩
  · have hlt : k < 34 := (List.getElem?_eq_some_iff.mp hk).1
    have h := List.all_eq_true.mp hw k (List.mem_range.mpr hlt)
    have h' : f 3 k = cWords.getD k 0 := eq_of_beq h
    show f 3 k = c
    rw [h', List.getD_eq_getElem?_getD, hk]
    rfl
  · show cH 56 hInit (f, g, false, true)
    refine ⟨h1, fun k _ i hi => absurd hi (Nat.not_lt_zero _), fun l hl => absurd hl (Nat.not_lt_zero _), h2, h3, h4, fun _ hg => absurd hg (Nat.not_lt_zero _), fun i hi => absurd hi (Nat.not_lt_zero _), h5, h6, fun f hf => ?_⟩
    rcases (show f = 0 ∨ f = 1 by omega) with rfl | rfl
    · refine ⟨0, 1, h7, h8, by decide, rfl, fun k c hk => ?_⟩
      have hlt : k < 1 := (List.getElem?_eq_some_iff.mp hk).1
      rw [show k = 0 by omega] at hk ⊢
      cases hk
      exact g2
    · refine ⟨1, 2, h9, g1, by decide, rfl, fun k c hk => ?_⟩
      have hlt : k < 1 := (List.getElem?_eq_some_iff.mp hk).1
      rw [show k = 0 by omega] at hk ⊢
      cases hk
      exact g3
set_option maxRecDepth 100000 in
theorem M_w : (mWords.all fun q => (List.range q.2.length).all fun k => ai L12I q.1 k == nI (q.2.getD k 0)) = true := by decide +kernel
set_option maxRecDepth 100000 in
theorem M_c : ai L12I 253 1 = nI 0 ∧ (∀ k, k < 6 → ai L12I 255 k = 0) ∧ ai L12I 253 7 = 0 ∧ ai L12I 253 8 = -1 ∧ ai L12I 253 68 = nI 0 ∧ ai L12I 253 69 = nI 0 ∧ ai L12I 253 65 = nI 0 ∧ ai L12I 253 105 = nI 0 ∧ aj L12J 253 70 = lN 1 := by decide +kernel
set_option maxRecDepth 100000 in
theorem M_h : (∀ k, k < 5 → ai L12I 284 (5 + k) = nI 0) ∧ (∀ l, l < 8 → ai L12I 289 (8 + l) = nI (nearB hInit l)) ∧ (∀ l, l < 8 → ∀ g, g < 4 → ai L12I 288 (32 + 4 * l + g) = nI 0) ∧ (∀ a, a < 8 → ∀ b, b < 8 → ai L12I 290 (64 + 8 * a + b) = nI 0) ∧ ai L12I 292 2 = nI 3 ∧ ai L12I 292 3 = nI 0 ∧ ai L12I 293 2 = -1 ∧ ai L12I 293 3 = -1 := by decide +kernel
set_option maxRecDepth 100000 in
theorem M_n : ai L12I 296 0 = nI 0 ∧ (∀ k, k < 3 → ai L12I 296 (0 + 1 + k) = nI 0) ∧ (∀ k, k < 4 → ai L12I 296 (0 + 4 + k) = nI 0) ∧ ∀ k, k < 8 → ai L12I 296 (0 + 8 + 3 * k) = nI 0 ∧ ai L12I 296 (0 + 9 + 3 * k) = nI 0 ∧ ai L12I 296 (0 + 10 + 3 * k) = nI 0 := by decide +kernel
theorem mS0 : mS A0 m0 := by
  have hc := M_c
  have hh := M_h
  have hn := M_n
  have hw := M_w
  have ht : ∀ k, ai L12I 254 k = 0 := ai_out L12I I_254
  unfold m0
  generalize ai L12I = f at hc hh hn hw ht ⊢
  generalize aj L12J = g at hc ⊢
  obtain ⟨c1, c2, c3, c4, c5, c6, c7, c8, c9⟩ := hc
  obtain ⟨h1, h2, h3, h4, h5, h6, h7, h8⟩ := hh
  refine ⟨c1, ht, fun q hq k c hk => ?_, c2, c3, c4, ?_, hn, c5, ⟨0, by decide, c6, fun i a h => (by cases h)⟩, c7, fun k q h => (by cases h), c8, fun k x h => (by cases h), c9⟩
  · have hlt : k < q.2.length := (List.getElem?_eq_some_iff.mp hk).1
    have h := List.all_eq_true.mp (List.all_eq_true.mp hw q hq) k (List.mem_range.mpr hlt)
    have h' : f q.1 k = nI (q.2.getD k 0) := eq_of_beq h
    show f q.1 k = nI c
    rw [h', List.getD_eq_getElem?_getD, hk]
    rfl
  · refine ⟨h1, fun k _ i hi => absurd hi (Nat.not_lt_zero _), fun l hl => absurd hl (Nat.not_lt_zero _), h2, h3, h4, fun g hg => absurd hg (Nat.not_lt_zero _), fun i hi => absurd hi (Nat.not_lt_zero _), h5, h6, fun f hf => ?_⟩
    rcases (show f = 0 ∨ f = 1 by omega) with rfl | rfl
    · exact h7
    · exact h8
theorem inv0 : z_INV m0 m0 := ⟨A0, okA0, cS0, mS0⟩
