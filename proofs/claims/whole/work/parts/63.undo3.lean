theorem ok_past {A : aS} (ok : okS A) {a : aN} {l : List aN} (ha : okN (sH A) a) (hl : l.length ≤ 20) (hall : ∀ x ∈ l, okN (sH A) x) : okS (aPast A a l) := by
  obtain ⟨o1, o2, o3, o4, o5, o6, o7⟩ := ok
  exact ⟨o1, o2, o3, ha, hl, hall, o7⟩
theorem c_undo {A : aS} {μ : z_S} (ok : okS A) (h : cS A μ) (N : Nat) {a : aN} {l : List aN} (hp : sPast A = a :: l) : ∃ μ', f_X11_undo N μ = some (1, μ') ∧ cS (aPast A a l) μ' := by
  have hp5 := ok.2.2.2.2.1
  rw [hp, List.length_cons] at hp5
  have h' := h
  obtain ⟨a1, a2, a3, a4, a5, a6, a7, a8, a9, b1, ⟨old, b2, b3, b4⟩, c1, c2, d1, d2, d3⟩ := h'
  rw [hp] at b1 b4
  rw [List.length_cons] at b1 b4
  have hidx : (old + l.length) % 20 < 20 := Nat.mod_lt _ (by decide)
  obtain ⟨μ1, e1, k1, k2, k3⟩ := c_copy N kd_39 (z_state_k hidx) (by omega) (z_setI μ 0 17 (nI l.length))
  refine ⟨μ1, ?_, ?_⟩
  · unfold f_X11_undo
    have hne : ¬ nI (l.length + 1) = (0 : Int32) := fun q => by have := (nI_z (by omega)).mp q; omega
    have e : nI (l.length + 1) - (1 : Int32) = nI l.length := nI_pred _
    rw [b1, if_neg hne, e, z_bd_eq, z_nz_ok (by decide)]
    have r18 : (z_setI μ 0 17 (nI l.length)).1 0 18 = nI old := by rw [sI_1, if_neg (by omega)]; exact b3
    have r17 : (z_setI μ 0 17 (nI l.length)).1 0 17 = nI l.length := by rw [sI_1, if_pos ⟨rfl, rfl⟩]
    rw [r18, r17, nI_add, m20 (by omega), z_in_nI hidx (by decide), nI_toNat (by omega), e1, z_bn_sm]
  · have hb : μ1.2.2 = μ.2.2 := by rw [k3]; rfl
    have R : ∀ o j, ¬ (o = 0 ∧ j = 17) → (o < 39 ∨ 45 ≤ o) → μ1.1 o j = μ.1 o j := fun o j q1 q2 => by rw [k2 o j (by omega), sI_1, if_neg q1]
    have h0 := b4 0 a rfl
    rw [show old + (l.length + 1) - 1 - 0 = old + l.length by omega] at h0
    refine cS_of ok h hb rfl (fun q j h1 h2 g1 g2 g3 g4 => R _ _ (by omega) (by omega)) (fun j => R _ _ (by omega) (by omega)) ?_ (fun k => ?_) (fun k hk => ?_) ?_ ?_ ?_ ?_ ⟨old, b2, ?_, fun i x hi => ?_⟩ ?_ (fun k q hq => ?_) ?_ (fun k x hx => ?_) ?_
    · rw [R _ _ (by omega) (by omega)]; exact a1
    · rw [R _ _ (by omega) (by omega)]; exact a2 k
    · rw [R _ _ (by omega) (by omega)]; exact a4 k hk
    · rw [R _ _ (by omega) (by omega)]; exact a5
    · rw [R _ _ (by omega) (by omega)]; exact a6
    · exact k1 a (cN_of h0 (fun o j h1 h2 => by rw [sI_1, if_neg (by omega)]))
    · rw [k2 _ _ (by omega), sI_1, if_pos ⟨rfl, rfl⟩]; rfl
    · rw [R _ _ (by omega) (by omega)]; exact b3
    · have hi' : l[i]? = some x := hi
      have h3 := b4 (i + 1) x hi'
      show cN (133 + 6 * ((old + l.length - 1 - i) % 20)) x μ1
      rw [show old + (l.length + 1) - 1 - (i + 1) = old + l.length - 1 - i by omega] at h3
      exact cN_of h3 (fun o j h1 h2 => R _ _ (by omega) (by omega))
    · rw [R _ _ (by omega) (by omega)]; exact c1
    · exact ⟨by rw [R _ _ (by omega) (by omega)]; exact (c2 k q hq).1, by rw [R _ _ (by omega) (by omega)]; exact (c2 k q hq).2⟩
    · rw [R _ _ (by omega) (by omega)]; exact d1
    · rw [R _ _ (by omega) (by omega)]; exact d2 k x hx
    · rw [R _ _ (by omega) (by omega)]; exact d3
theorem m_undoL (N : Nat) (e53 : z_S → Option (Int32 × z_S)) {ν : z_S} {w : Nat} (hw : w < 20) (h69 : ν.1 253 69 = nI w) : ∀ n k ν1, k ≤ 32 → 32 - k < n → (∀ o j, ν1.1 o j = if o = 296 ∧ j < k then ν.1 306 (32 * w + j) else ν.1 o j) → ν1.2 = ν.2 → ∃ ν2, f_X12_undo_L21 N e53 n (nI k) ν1 = e53 ν2 ∧ (∀ o j, ν2.1 o j = if o = 296 ∧ j < 32 then ν.1 306 (32 * w + j) else ν.1 o j) ∧ ν2.2 = ν.2 := by
  intro n
  induction n with
  | zero => intro k ν1 h1 h2; omega
  | succ n ih =>
    intro k ν1 h1 h2 hv hv2
    show ∃ ν2, b_X12_undo_L21 N (f_X12_undo_L21 N e53 n) e53 (nI k) ν1 = e53 ν2 ∧ _
    unfold b_X12_undo_L21
    by_cases hlt : k < 32
    · have e69 : ν1.1 253 69 = nI w := by rw [hv, if_neg (by omega)]; exact h69
      have ei : (32 : Int32) * nI w + nI k = nI (32 * w + k) := by show nI 32 * nI w + nI k = _; rw [pk_mul, nI_add]
      have ek : nI k + 1 = nI (k + 1) := nI_1 k
      rw [if_pos (show nI k < (32 : Int32) from nI_lt (b := 32) hlt (by decide)), e69, ei, z_in_nI (by omega) (by decide), z_in_nI hlt (by decide), nI_toNat (by omega), nI_toNat (by omega), z_bd_eq, ek, z_bd_eq]
      refine ih (k + 1) _ (by omega) (by omega) (fun o j => ?_) hv2
      rw [sI_1]
      by_cases c : o = 296 ∧ j = k
      · rw [if_pos c, if_pos (by omega), hv, if_neg (by omega), c.2]
      · rw [if_neg c, hv]
        by_cases c2 : o = 296 ∧ j < k
        · rw [if_pos c2, if_pos (by omega)]
        · rw [if_neg c2, if_neg (by omega)]
    · have : k = 32 := by omega
      subst this
      rw [if_neg (by decide)]
      exact ⟨ν1, rfl, hv, hv2⟩
theorem m_undo {A : aS} {ν : z_S} (ok : okS A) (h : mS A ν) (N : Nat) (hN : 40 ≤ N) {a : aN} {l : List aN} (hp : sPast A = a :: l) : ∃ ν', f_X12_undo N ν = some (1, ν') ∧ mS (aPast A a l) ν' := by
  have hp5 := ok.2.2.2.2.1
  rw [hp, List.length_cons] at hp5
  have h' := h
  obtain ⟨a1, a2, a3, a4, a5, a6, a7, a8, b1, ⟨nw, b2, b3, b4⟩, c1, c2, d1, d2, d3⟩ := h'
  rw [hp] at b1 b4
  rw [List.length_cons] at b1
  have hne : ¬ nI (l.length + 1) = (0 : Int32) := fun q => by have := (nI_z (by omega)).mp q; omega
  obtain ⟨ν2, r1, r2, r3⟩ := m_undoL N (fun μ53 => z_nz (20 : Int32) <| z_bd (z_setI μ53 253 69 ((((μ53.1 253 69) + (20 : Int32)) - (1 : Int32)) - (((μ53.1 253 69) + (20 : Int32)) - (1 : Int32)) / (20 : Int32) * (20 : Int32))) fun μ_3 => z_bd (z_setI μ_3 253 68 ((μ_3.1 253 68) - (1 : Int32))) fun μ_4 => some ((1 : Int32), μ_4)) b2 b3 N 0 ν (by decide) (by omega) (fun o j => by rw [if_neg (by omega)]) rfl
  have e69 : ν2.1 253 69 = nI nw := by rw [r2, if_neg (by omega)]; exact b3
  have e68 : ν2.1 253 68 = nI (l.length + 1) := by rw [r2, if_neg (by omega)]; exact b1
  have eA : nI nw + (20 : Int32) - (1 : Int32) = nI (nw + 19) := by
    show nI nw + nI 20 - nI 1 = _
    rw [nI_add, pk_sub (by omega)]
    rfl
  have e : nI (l.length + 1) - (1 : Int32) = nI l.length := nI_pred _
  refine ⟨z_setI (z_setI ν2 253 69 (nI ((nw + 19) % 20))) 253 68 (nI l.length), ?_, ?_⟩
  · unfold f_X12_undo
    rw [b1, if_neg hne]
    have r1' : f_X12_undo_L21 N _ N 0 ν = _ := r1
    rw [r1', z_nz_ok (by decide), e69, eA, m20 (by omega), z_bd_eq, sI_1, if_neg (by omega), e68, e, z_bd_eq]
  · have R : ∀ o j, ¬ (o = 253 ∧ j = 68) → ¬ (o = 253 ∧ j = 69) → o ≠ 296 → (z_setI (z_setI ν2 253 69 (nI ((nw + 19) % 20))) 253 68 (nI l.length)).1 o j = ν.1 o j := fun o j q1 q2 q3 => by rw [sI_1, if_neg q1, sI_1, if_neg q2, r2, if_neg (by omega)]
    have h0 := b4 0 a rfl
    rw [show (nw + 20 - 0) % 20 = nw by omega] at h0
    refine mS_of h rfl (fun q j h1 h2 => R _ _ (by omega) (by omega) (by omega)) (fun j => by rw [sI_2, sI_2, r3]) (fun q j hq => R _ _ (by omega) (by omega) (by omega)) ?_ (fun k => ?_) (fun k hk => ?_) ?_ ?_ ?_ ?_ ⟨(nw + 19) % 20, Nat.mod_lt _ (by decide), ?_, fun i x hi => ?_⟩ ?_ (fun k q hq => ?_) ?_ (fun k x hx => ?_) ?_
    · rw [R _ _ (by omega) (by omega) (by omega)]; exact a1
    · rw [R _ _ (by omega) (by omega) (by omega)]; exact a2 k
    · rw [R _ _ (by omega) (by omega) (by omega)]; exact a4 k hk
    · rw [R _ _ (by omega) (by omega) (by omega)]; exact a5
    · rw [R _ _ (by omega) (by omega) (by omega)]; exact a6
    · refine mN_copy h0 (fun j hj => ?_)
      rw [sI_1, if_neg (by omega), sI_1, if_neg (by omega), r2, if_pos (by omega), Nat.zero_add]
    · rw [sI_1, if_pos ⟨rfl, rfl⟩]; rfl
    · rw [sI_1, if_neg (by omega), sI_1, if_pos ⟨rfl, rfl⟩]
    · have hi' : l[i]? = some x := hi
      have h3 := b4 (i + 1) x hi'
      have hil := (List.getElem?_eq_some_iff.mp hi').1
      rw [show ((nw + 19) % 20 + 20 - i) % 20 = (nw + 20 - (i + 1)) % 20 by omega]
      exact mN_of h3 (fun j h1 h2 => R _ _ (by omega) (by omega) (by omega))
    · rw [R _ _ (by omega) (by omega) (by omega)]; exact c1
    · exact ⟨by rw [R _ _ (by omega) (by omega) (by omega)]; exact (c2 k q hq).1, by obtain ⟨-, x, y, q1, q2, q3, q4, q5⟩ := c2 k q hq; exact ⟨x, y, q1, q2, q3, by rw [R _ _ (by omega) (by omega) (by omega)]; exact q4, by rw [R _ _ (by omega) (by omega) (by omega)]; exact q5⟩⟩
    · rw [R _ _ (by omega) (by omega) (by omega)]; exact d1
    · rw [R _ _ (by omega) (by omega) (by omega)]; exact d2 k x hx
    · rw [sI_2, sI_2, r3]; exact d3
theorem op_undo {A : aS} {μ ν : z_S} (ok : okS A) (hc : cS A μ) (hm : mS A ν) (N : Nat) (hN : 40 ≤ N) : z_Op (f_X11_undo N μ) (f_X12_undo N ν) := by
  cases hp : sPast A with
  | nil =>
    have e1 : μ.1 0 17 = 0 := by have := hc.2.2.2.2.2.2.2.2.2.1; rw [hp] at this; exact this
    have e2 : ν.1 253 68 = 0 := by have := hm.2.2.2.2.2.2.2.2.1; rw [hp] at this; exact this
    unfold f_X11_undo f_X12_undo
    rw [e1, e2, if_pos rfl, if_pos rfl]
    obtain ⟨μ', h1, h2⟩ := c_refZ ok hc N (k := 4) (by decide)
    have h1' : f_X11_refuse N 4 μ = some (0, μ') := h1
    rw [h1', z_bn_sm, z_zb_0]
    exact ⟨0, μ', _, rfl, rfl, _, ok_ref ok 4, h2, m_refs hm (by decide)⟩
  | cons a l =>
    obtain ⟨μ', h1, h2⟩ := c_undo ok hc N hp
    obtain ⟨ν', g1, g2⟩ := m_undo ok hm N hN hp
    have h6 := ok.2.2.2.2.2.1
    have h5 := ok.2.2.2.2.1
    rw [hp] at h6 h5
    rw [List.length_cons] at h5
    exact ⟨1, μ', ν', h1, g1, _, ok_past ok (h6 a List.mem_cons_self) (by omega) (fun x hx => h6 x (List.mem_cons_of_mem _ hx)), h2, g2⟩
