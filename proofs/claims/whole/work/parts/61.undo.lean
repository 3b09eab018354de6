/-! acts kept, and undone -/
theorem z_state_k {i : Nat} (hi : i < 20) : z_kw true (133 + 6 * i) = (8, 0) := by
  have h1 : ∀ j, j < 20 → z_kw true (133 + 6 * j) = (8, 0) := by decide +kernel
  exact h1 i hi
theorem c_copy (N : Nat) {s0 s1 : Nat} (h0 : z_kw true s0 = (8, 0)) (h1 : z_kw true s1 = (8, 0)) (hd : s0 + 6 ≤ s1 ∨ s1 + 6 ≤ s0) (μ : z_S) : ∃ μ', f_X8_copyFrom N s0 s1 μ = some ((), μ') ∧ (∀ a, cN s1 a μ → cN s0 a μ') ∧ (∀ o j, o < s0 ∨ s0 + 6 ≤ o → μ'.1 o j = μ.1 o j) ∧ μ'.2 = μ.2 := by
  refine ⟨z_cpS (z_cpS (z_cpS (z_cpS (z_cpS (z_setI μ s0 0 (μ.1 s1 0)) (s1 + 1) 0 (s0 + 1) 0 3) (s1 + 2) 0 (s0 + 2) 0 4) (s1 + 3) 0 (s0 + 3) 0 8) (s1 + 4) 0 (s0 + 4) 0 8) (s1 + 5) 0 (s0 + 5) 0 8, ?_, ?_, ?_, rfl⟩
  · unfold f_X8_copyFrom
    rw [z_ko_ok h0, z_ko_ok h1]
    simp only [z_bd_eq]
    rw [z_cpin_ok (by decide), z_cpin_ok (by decide), z_cpin_ok (by decide), z_cpin_ok (by decide), z_cpin_ok (by decide)]
    rfl
  · intro a ha
    obtain ⟨g1, g2, g3, g4, g5, g6⟩ := ha
    refine ⟨?_, fun k hk => ?_, fun k hk => ?_, fun k hk => ?_, fun k hk => ?_, fun k hk => ?_⟩
    · rw [cpS_1, if_neg (by omega), cpS_1, if_neg (by omega), cpS_1, if_neg (by omega), cpS_1, if_neg (by omega), cpS_1, if_neg (by omega), sI_1, if_pos ⟨rfl, rfl⟩]; exact g1
    · rw [cpS_1, if_neg (by omega), cpS_1, if_neg (by omega), cpS_1, if_neg (by omega), cpS_1, if_neg (by omega), cpS_1, if_pos (by omega), sI_1, if_neg (by omega), show 0 + (k - 0) = k by omega]; exact g2 k hk
    · rw [cpS_1, if_neg (by omega), cpS_1, if_neg (by omega), cpS_1, if_neg (by omega), cpS_1, if_pos (by omega), cpS_1, if_neg (by omega), sI_1, if_neg (by omega), show 0 + (k - 0) = k by omega]; exact g3 k hk
    · rw [cpS_1, if_neg (by omega), cpS_1, if_neg (by omega), cpS_1, if_pos (by omega), cpS_1, if_neg (by omega), cpS_1, if_neg (by omega), sI_1, if_neg (by omega), show 0 + (k - 0) = k by omega]; exact g4 k hk
    · rw [cpS_1, if_neg (by omega), cpS_1, if_pos (by omega), cpS_1, if_neg (by omega), cpS_1, if_neg (by omega), cpS_1, if_neg (by omega), sI_1, if_neg (by omega), show 0 + (k - 0) = k by omega]; exact g5 k hk
    · rw [cpS_1, if_pos (by omega), cpS_1, if_neg (by omega), cpS_1, if_neg (by omega), cpS_1, if_neg (by omega), cpS_1, if_neg (by omega), sI_1, if_neg (by omega), show 0 + (k - 0) = k by omega]; exact g6 k hk
  · intro o j ho
    rw [cpS_1, if_neg (by omega), cpS_1, if_neg (by omega), cpS_1, if_neg (by omega), cpS_1, if_neg (by omega), cpS_1, if_neg (by omega), sI_1, if_neg (by omega)]
def aPast (A : aS) (n : aN) (l : List aN) : aS := (A.1, A.2.1, A.2.2.1, A.2.2.2.1, n, l, A.2.2.2.2.2.2)
def aKeep (A : aS) : aS := aPast A (sN A) ((sN A :: sPast A).take 20)
theorem ok_keep {A : aS} (ok : okS A) : okS (aKeep A) := by
  obtain ⟨o1, o2, o3, o4, o5, o6, o7⟩ := ok
  refine ⟨o1, o2, o3, o4, ?_, fun a ha => ?_, o7⟩
  · show ((sN A :: sPast A).take 20).length ≤ 20
    rw [List.length_take]; omega
  · have := List.mem_of_mem_take ha
    rcases List.mem_cons.mp this with h | h
    · rw [h]; exact o4
    · exact o6 a h
theorem m20 {a : Nat} (ha : a < 2 ^ 31) : nI a - nI a / (20 : Int32) * (20 : Int32) = nI (a % 20) := pk_rem (a := a) (d := 20) ha (by decide) (by decide)
/-- the class keeps the state now in its row of twenty -/
theorem c_keep0 {A : aS} {μ : z_S} (ok : okS A) (h : cS A μ) (N : Nat) {old len : Nat} (ho : old < 20) (hl : len < 20) (e18 : μ.1 0 18 = nI old) (e17 : μ.1 0 17 = nI len) (hp : ∀ i a, (sPast A)[i]? = some a → i < len → cN (133 + 6 * ((old + len - 1 - i) % 20)) a μ) (hlen : ((sN A :: sPast A).take 20).length = len + 1) : ∃ μ', f_X11_remember_B32 N μ = some ((), μ') ∧ cS (aKeep A) μ' := by
  have hidx : (old + len) % 20 < 20 := Nat.mod_lt _ (by decide)
  obtain ⟨μ1, e1, k1, k2, k3⟩ := c_copy N (z_state_k hidx) kd_39 (by omega) μ
  refine ⟨z_setI μ1 0 17 (nI (len + 1)), ?_, ?_⟩
  · unfold f_X11_remember_B32
    have e : nI len + (1 : Int32) = nI (len + 1) := nI_1 len
    rw [z_nz_ok (by decide), e18, e17, nI_add, m20 (by omega), z_in_nI hidx (by decide), nI_toNat (by omega), e1, z_bn_sm, k2 0 17 (by omega), e17, e]
    rfl
  · have e17' : (z_setI μ1 0 17 (nI (len + 1))).1 0 17 = nI ((sN A :: sPast A).take 20).length := by rw [sI_1, if_pos ⟨rfl, rfl⟩, hlen]
    have h' := h
    obtain ⟨a1, a2, a3, a4, a5, a6, a7, a8, a9, b1, -, c1, c2, d1, d2, d3⟩ := h'
    have hb : (z_setI μ1 0 17 (nI (len + 1))).2.2 = μ.2.2 := by rw [sI_22, k3]
    refine cS_of ok h hb rfl (fun q j h1 h2 g1 g2 g3 g4 => by rw [sI_1, if_neg (by omega), k2 _ _ (by omega)]) (fun j => by rw [sI_1, if_neg (by omega), k2 _ _ (by omega)]) ?_ (fun k => ?_) (fun k hk => ?_) ?_ ?_ ?_ e17' ⟨old, ho, ?_, fun i a hi => ?_⟩ ?_ (fun k q hq => ?_) ?_ (fun k x hx => ?_) ?_
    · rw [sI_1, if_neg (by omega), k2 _ _ (by omega)]; exact a1
    · rw [sI_1, if_neg (by omega), k2 _ _ (by omega)]; exact a2 k
    · rw [sI_1, if_neg (by omega), k2 _ _ (by omega)]; exact a4 k hk
    · rw [sI_1, if_neg (by omega), k2 _ _ (by omega)]; exact a5
    · rw [sI_1, if_neg (by omega), k2 _ _ (by omega)]; exact a6
    · exact cN_of a9 (fun o j h1 h2 => by rw [sI_1, if_neg (by omega), k2 _ _ (by omega)])
    · rw [sI_1, if_neg (by omega), k2 _ _ (by omega)]; exact e18
    · have hi' : ((sN A :: sPast A).take 20)[i]? = some a := hi
      have hil : i < len + 1 := by rw [← hlen]; exact (List.getElem?_eq_some_iff.mp hi').1
      have hi2 : (sN A :: sPast A)[i]? = some a := by
        rw [List.getElem?_take] at hi'
        split at hi'
        · exact hi'
        · cases hi'
      show cN (133 + 6 * ((old + ((sN A :: sPast A).take 20).length - 1 - i) % 20)) a _
      rw [hlen]
      cases i with
      | zero =>
        have : sN A = a := Option.some.inj hi2
        subst this
        rw [show old + (len + 1) - 1 - 0 = old + len by omega]
        exact cN_of (k1 _ a9) (fun o j h1 h2 => by rw [sI_1, if_neg (by omega)])
      | succ i =>
        have h3 := hp i a hi2 (by omega)
        rw [show old + (len + 1) - 1 - (i + 1) = old + len - 1 - i by omega]
        exact cN_of h3 (fun o j h1 h2 => by rw [sI_1, if_neg (by omega), k2 _ _ (by omega)])
    · rw [sI_1, if_neg (by omega), k2 _ _ (by omega)]; exact c1
    · exact ⟨by rw [sI_1, if_neg (by omega), k2 _ _ (by omega)]; exact (c2 k q hq).1, by rw [sI_1, if_neg (by omega), k2 _ _ (by omega)]; exact (c2 k q hq).2⟩
    · rw [sI_1, if_neg (by omega), k2 _ _ (by omega)]; exact d1
    · rw [sI_1, if_neg (by omega), k2 _ _ (by omega)]; exact d2 k x hx
    · rw [sI_1, if_neg (by omega), k2 _ _ (by omega)]; exact d3
