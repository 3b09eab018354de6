theorem c_remember {A : aS} {μ : z_S} (ok : okS A) (h : cS A μ) (N : Nat) : ∃ μ', f_X11_remember N μ = some ((), μ') ∧ cS (aKeep A) μ' := by
  have hp5 := ok.2.2.2.2.1
  have h0 := h
  obtain ⟨-, -, -, -, -, -, -, -, -, b1, ⟨old, b2, b3, b4⟩, -⟩ := h0
  unfold f_X11_remember
  by_cases h20 : (sPast A).length = 20
  · rw [b1, h20, if_pos (by decide)]
    have e1 : nI old + (1 : Int32) = nI (old + 1) := nI_1 old
    rw [z_nz_ok (by decide), b3, e1, m20 (by omega), z_bd_eq, sI_1, if_neg (by omega), b1, h20, z_bd_eq]
    have e19 : nI 20 - (1 : Int32) = nI 19 := by decide
    rw [e19]
    have hA2 : aKeep (aPast A (sN A) ((sPast A).take 19)) = aKeep A := by
      show aPast _ _ ((sN A :: (sPast A).take 19).take 20) = aPast A (sN A) ((sN A :: sPast A).take 20)
      rw [List.take_succ_cons, List.take_succ_cons, List.take_take]
      rfl
    have ok2 : okS (aPast A (sN A) ((sPast A).take 19)) := by
      obtain ⟨o1, o2, o3, o4, o5, o6, o7⟩ := ok
      exact ⟨o1, o2, o3, o4, by show ((sPast A).take 19).length ≤ 20; rw [List.length_take]; omega, fun a ha => o6 a (List.mem_of_mem_take ha), o7⟩
    have hl19 : ((sPast A).take 19).length = 19 := by rw [List.length_take]; omega
    have hget : ∀ i a, ((sPast A).take 19)[i]? = some a → i < 19 ∧ (sPast A)[i]? = some a := fun i a hi => by
      have h1 := (List.getElem?_eq_some_iff.mp hi).1
      rw [hl19] at h1
      rw [List.getElem?_take, if_pos h1] at hi
      exact ⟨h1, hi⟩
    have hc2 : cS (aPast A (sN A) ((sPast A).take 19)) (z_setI (z_setI μ 0 18 (nI ((old + 1) % 20))) 0 17 (nI 19)) := by
      have h' := h
      obtain ⟨a1, a2, a3, a4, a5, a6, a7, a8, a9, -, -, c1, c2, d1, d2, d3⟩ := h'
      refine cS_of ok h rfl rfl (fun q j h1 h2 g1 g2 g3 g4 => by rw [sI_1, if_neg (by omega), sI_1, if_neg (by omega)]) (fun j => by rw [sI_1, if_neg (by omega), sI_1, if_neg (by omega)]) ?_ (fun k => ?_) (fun k hk => ?_) ?_ ?_ ?_ ?_ ⟨(old + 1) % 20, Nat.mod_lt _ (by decide), ?_, fun i a hi => ?_⟩ ?_ (fun k q hq => ?_) ?_ (fun k x hx => ?_) ?_
      · rw [sI_1, if_neg (by omega), sI_1, if_neg (by omega)]; exact a1
      · rw [sI_1, if_neg (by omega), sI_1, if_neg (by omega)]; exact a2 k
      · rw [sI_1, if_neg (by omega), sI_1, if_neg (by omega)]; exact a4 k hk
      · rw [sI_1, if_neg (by omega), sI_1, if_neg (by omega)]; exact a5
      · rw [sI_1, if_neg (by omega), sI_1, if_neg (by omega)]; exact a6
      · exact cN_of a9 (fun o j h1 h2 => by rw [sI_1, if_neg (by omega), sI_1, if_neg (by omega)])
      · rw [sI_1, if_pos ⟨rfl, rfl⟩]; show _ = nI ((sPast A).take 19).length; rw [hl19]
      · rw [sI_1, if_neg (by omega), sI_1, if_pos ⟨rfl, rfl⟩]
      · obtain ⟨q1, q2⟩ := hget i a hi
        have h3 := b4 i a q2
        show cN (133 + 6 * (((old + 1) % 20 + ((sPast A).take 19).length - 1 - i) % 20)) a _
        rw [hl19, show ((old + 1) % 20 + 19 - 1 - i) % 20 = (old + (sPast A).length - 1 - i) % 20 by rw [h20]; omega]
        exact cN_of h3 (fun o j h1 h2 => by rw [sI_1, if_neg (by omega), sI_1, if_neg (by omega)])
      · rw [sI_1, if_neg (by omega), sI_1, if_neg (by omega)]; exact c1
      · exact ⟨by rw [sI_1, if_neg (by omega), sI_1, if_neg (by omega)]; exact (c2 k q hq).1, by rw [sI_1, if_neg (by omega), sI_1, if_neg (by omega)]; exact (c2 k q hq).2⟩
      · rw [sI_1, if_neg (by omega), sI_1, if_neg (by omega)]; exact d1
      · rw [sI_1, if_neg (by omega), sI_1, if_neg (by omega)]; exact d2 k x hx
      · rw [sI_1, if_neg (by omega), sI_1, if_neg (by omega)]; exact d3
    have hlt : (old + 1) % 20 < 20 := Nat.mod_lt _ (by decide)
    obtain ⟨μ', r1, r2⟩ := c_keep0 ok2 hc2 N (old := (old + 1) % 20) (len := 19) hlt (by decide) (by rw [sI_1, if_neg (by omega), sI_1, if_pos ⟨rfl, rfl⟩]) (by rw [sI_1, if_pos ⟨rfl, rfl⟩]) (fun i a hi hil => by
        obtain ⟨q1, q2⟩ := hget i a hi
        have h3 := b4 i a q2
        rw [show ((old + 1) % 20 + 19 - 1 - i) % 20 = (old + (sPast A).length - 1 - i) % 20 by rw [h20]; omega]
        exact cN_of h3 (fun o j h1 h2 => by rw [sI_1, if_neg (by omega), sI_1, if_neg (by omega)])) (by
        show ((sN A :: (sPast A).take 19).take 20).length = 20
        rw [List.length_take, List.length_cons, hl19]
        decide)
    rw [hA2] at r2
    exact ⟨μ', r1, r2⟩
  · have hne : ¬ μ.1 0 17 = (20 : Int32) := fun q => h20 ((nI_eq (a := (sPast A).length) (b := 20) (by omega) (by decide)).mp (by rw [← b1]; exact q))
    rw [if_neg hne]
    exact c_keep0 ok h N b2 (by omega) b3 b1 (fun i a hi _ => b4 i a hi) (by rw [List.length_take, List.length_cons]; omega)
/-- the reference copies a stretch of 32 from one row to another -/
theorem m_keepL (N : Nat) (e47 : z_S → Option (Unit × z_S)) {ν : z_S} {w : Nat} (hw : w < 20) (h69 : ν.1 253 69 = nI w) : ∀ n k ν1, k ≤ 32 → 32 - k < n → (∀ o j, ν1.1 o j = if o = 306 ∧ 32 * w ≤ j ∧ j < 32 * w + k then ν.1 296 (j - 32 * w) else ν.1 o j) → ν1.2 = ν.2 → ∃ ν2, f_X12_keeps_L15 N e47 n (nI k) ν1 = e47 ν2 ∧ (∀ o j, ν2.1 o j = if o = 306 ∧ 32 * w ≤ j ∧ j < 32 * w + 32 then ν.1 296 (j - 32 * w) else ν.1 o j) ∧ ν2.2 = ν.2 := by
  intro n
  induction n with
  | zero => intro k ν1 h1 h2; omega
  | succ n ih =>
    intro k ν1 h1 h2 hv hv2
    show ∃ ν2, b_X12_keeps_L15 N (f_X12_keeps_L15 N e47 n) e47 (nI k) ν1 = e47 ν2 ∧ _
    unfold b_X12_keeps_L15
    by_cases hlt : k < 32
    · have e69 : ν1.1 253 69 = nI w := by rw [hv, if_neg (by omega)]; exact h69
      have ei : (32 : Int32) * nI w + nI k = nI (32 * w + k) := by show nI 32 * nI w + nI k = _; rw [pk_mul, nI_add]
      have ek : nI k + 1 = nI (k + 1) := nI_1 k
      rw [if_pos (show nI k < (32 : Int32) from nI_lt (b := 32) hlt (by decide)), z_in_nI hlt (by decide), e69, ei, z_in_nI (by omega) (by decide), nI_toNat (by omega), nI_toNat (by omega), z_bd_eq, ek, z_bd_eq]
      refine ih (k + 1) _ (by omega) (by omega) (fun o j => ?_) hv2
      rw [sI_1]
      by_cases c : o = 306 ∧ j = 32 * w + k
      · rw [if_pos c, if_pos (by omega), hv, if_neg (by omega), show j - 32 * w = k by omega]
      · rw [if_neg c, hv]
        by_cases c2 : o = 306 ∧ 32 * w ≤ j ∧ j < 32 * w + k
        · rw [if_pos c2, if_pos (by omega)]
        · rw [if_neg c2, if_neg (by omega)]
    · have : k = 32 := by omega
      subst this
      rw [if_neg (by decide)]
      exact ⟨ν1, rfl, hv, hv2⟩
theorem mN_copy {o o' b b' : Nat} {a : aN} {ν ν' : z_S} (h : mN o b a ν) (e : ∀ j, j < 32 → ν'.1 o' (b' + j) = ν.1 o (b + j)) : mN o' b' a ν' := by
  obtain ⟨h1, h2, h3, h4⟩ := h
  refine ⟨?_, fun k hk => ?_, fun k hk => ?_, fun k hk => ⟨?_, ?_, ?_⟩⟩
  · have := e 0 (by decide); rw [Nat.add_zero, Nat.add_zero] at this; rw [this]; exact h1
  · have := e (1 + k) (by omega); rw [← Nat.add_assoc, ← Nat.add_assoc] at this; rw [this]; exact h2 k hk
  · have := e (4 + k) (by omega); rw [← Nat.add_assoc, ← Nat.add_assoc] at this; rw [this]; exact h3 k hk
  · have := e (8 + 3 * k) (by omega); rw [← Nat.add_assoc, ← Nat.add_assoc] at this; rw [this]; exact (h4 k hk).1
  · have := e (9 + 3 * k) (by omega); rw [← Nat.add_assoc, ← Nat.add_assoc] at this; rw [this]; exact (h4 k hk).2.1
  · have := e (10 + 3 * k) (by omega); rw [← Nat.add_assoc, ← Nat.add_assoc] at this; rw [this]; exact (h4 k hk).2.2
theorem m_keeps {A : aS} {ν : z_S} (ok : okS A) (h : mS A ν) (N : Nat) (hN : 40 ≤ N) : ∃ ν', f_X12_keeps N ν = some ((), ν') ∧ mS (aKeep A) ν' := by
  have hp5 := ok.2.2.2.2.1
  have h' := h
  obtain ⟨a1, a2, a3, a4, a5, a6, a7, a8, b1, ⟨nw, b2, b3, b4⟩, c1, c2, d1, d2, d3⟩ := h'
  unfold f_X12_keeps
  have e1 : nI nw + (1 : Int32) = nI (nw + 1) := nI_1 nw
  have hw : (nw + 1) % 20 < 20 := Nat.mod_lt _ (by decide)
  rw [z_nz_ok (by decide), b3, e1, m20 (by omega), z_bd_eq]
  obtain ⟨ν2, r1, r2, r3⟩ := m_keepL N (fun μ47 => if (μ47.1 253 68) < (20 : Int32) then (z_bd (z_setI μ47 253 68 ((μ47.1 253 68) + (1 : Int32))) fun μ_3 => some ((), μ_3)) else some ((), μ47)) (ν := z_setI ν 253 69 (nI ((nw + 1) % 20))) hw (by rw [sI_1, if_pos ⟨rfl, rfl⟩]) N 0 _ (by decide) (by omega) (fun o j => by rw [if_neg (by omega)]) rfl
  have r1' : f_X12_keeps_L15 N (fun μ47 => if (μ47.1 253 68) < (20 : Int32) then (z_bd (z_setI μ47 253 68 ((μ47.1 253 68) + (1 : Int32))) fun μ_3 => some ((), μ_3)) else some ((), μ47)) N 0 (z_setI ν 253 69 (nI ((nw + 1) % 20))) = _ := r1
  rw [r1']
  have e68 : ν2.1 253 68 = nI (sPast A).length := by rw [r2, if_neg (by omega), sI_1, if_neg (by omega)]; exact b1
  have hlen : ((sN A :: sPast A).take 20).length = min 20 ((sPast A).length + 1) := by rw [List.length_take, List.length_cons]
  -- what is kept, wherever the count of it stands
  have key : ∀ ν3 : z_S, (∀ o j, ¬ (o = 253 ∧ j = 68) → ν3.1 o j = ν2.1 o j) → ν3.2 = ν2.2 → ν3.1 253 68 = nI ((sN A :: sPast A).take 20).length → mS (aKeep A) ν3 := by
    intro ν3 hv hv2 hv3
    have R : ∀ o j, ¬ (o = 253 ∧ j = 68) → ¬ (o = 253 ∧ j = 69) → o ≠ 306 → ν3.1 o j = ν.1 o j := fun o j q1 q2 q3 => by rw [hv o j q1, r2, if_neg (by omega), sI_1, if_neg q2]
    refine mS_of h rfl (fun q j h1 h2 => R _ _ (by omega) (by omega) (by omega)) (fun j => by rw [hv2, r3, sI_2]) (fun q j hq => R _ _ (by omega) (by omega) (by omega)) ?_ (fun k => ?_) (fun k hk => ?_) ?_ ?_ ?_ hv3 ⟨(nw + 1) % 20, hw, ?_, fun i a hi => ?_⟩ ?_ (fun k q hq => ?_) ?_ (fun k x hx => ?_) ?_
    · rw [R _ _ (by omega) (by omega) (by omega)]; exact a1
    · rw [R _ _ (by omega) (by omega) (by omega)]; exact a2 k
    · rw [R _ _ (by omega) (by omega) (by omega)]; exact a4 k hk
    · rw [R _ _ (by omega) (by omega) (by omega)]; exact a5
    · rw [R _ _ (by omega) (by omega) (by omega)]; exact a6
    · exact mN_of a8 (fun j h1 h2 => R _ _ (by omega) (by omega) (by omega))
    · rw [hv _ _ (by omega), r2, if_neg (by omega), sI_1, if_pos ⟨rfl, rfl⟩]
    · have hi' : ((sN A :: sPast A).take 20)[i]? = some a := hi
      have hi2 : i < 20 ∧ (sN A :: sPast A)[i]? = some a := by
        rw [List.getElem?_take] at hi'
        split at hi'
        · next q => exact ⟨q, hi'⟩
        · cases hi'
      cases i with
      | zero =>
        have : sN A = a := Option.some.inj hi2.2
        subst this
        rw [show ((nw + 1) % 20 + 20 - 0) % 20 = (nw + 1) % 20 by omega]
        refine mN_copy a8 (fun j hj => ?_)
        rw [hv _ _ (by omega), r2, if_pos (by omega), sI_1, if_neg (by omega), show 32 * ((nw + 1) % 20) + j - 32 * ((nw + 1) % 20) = 0 + j by omega]
      | succ i =>
        have h3 := b4 i a hi2.2
        rw [show ((nw + 1) % 20 + 20 - (i + 1)) % 20 = (nw + 20 - i) % 20 by omega]
        refine mN_of h3 (fun j h1 h2 => ?_)
        rw [hv _ _ (by omega), r2, if_neg (by omega), sI_1, if_neg (by omega)]
    · rw [R _ _ (by omega) (by omega) (by omega)]; exact c1
    · exact ⟨by rw [R _ _ (by omega) (by omega) (by omega)]; exact (c2 k q hq).1, by obtain ⟨-, x, y, q1, q2, q3, q4, q5⟩ := c2 k q hq; exact ⟨x, y, q1, q2, q3, by rw [R _ _ (by omega) (by omega) (by omega)]; exact q4, by rw [R _ _ (by omega) (by omega) (by omega)]; exact q5⟩⟩
    · rw [R _ _ (by omega) (by omega) (by omega)]; exact d1
    · rw [R _ _ (by omega) (by omega) (by omega)]; exact d2 k x hx
    · rw [hv2, r3, sI_2]; exact d3
  rw [e68]
  by_cases h20 : (sPast A).length < 20
  · have e : nI (sPast A).length + (1 : Int32) = nI ((sPast A).length + 1) := nI_1 _
    rw [if_pos (show nI (sPast A).length < (20 : Int32) from nI_lt (b := 20) h20 (by decide)), e, z_bd_eq]
    exact ⟨_, rfl, key _ (fun o j q => by rw [sI_1, if_neg q]) rfl (by rw [sI_1, if_pos ⟨rfl, rfl⟩, hlen, show min 20 ((sPast A).length + 1) = (sPast A).length + 1 by omega])⟩
  · rw [if_neg (show ¬ nI (sPast A).length < (20 : Int32) from nI_nlt (a := (sPast A).length) (b := 20) (by omega) (by omega))]
    exact ⟨_, rfl, key _ (fun _ _ _ => rfl) rfl (by rw [e68, hlen, show min 20 ((sPast A).length + 1) = (sPast A).length by omega])⟩
