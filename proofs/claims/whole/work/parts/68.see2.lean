/-- rows of minutes out of the tape -/
def seenOf (t : Nat → Nat) (r : Nat) : List (Nat × Nat) := (List.range r).map (fun k => (t (3 * k), 256 * t (3 * k + 1) + t (3 * k + 2)))
def aSeen (A : aS) (l : List (Nat × Nat)) : aS := (A.1, A.2.1, A.2.2.1, A.2.2.2.1, A.2.2.2.2.1, A.2.2.2.2.2.1, l, A.2.2.2.2.2.2.2)
theorem c_seeL {A : aS} {μ : z_S} (ok : okS A) (h2t : ∀ k, μ.1 2 k = nI (sTape A k)) (N : Nat) {r : Nat} (hr : r ≤ 16) (e113 : z_S → Option (Int32 × z_S)) : ∀ n k μ1, k ≤ r → r - k < n → (∀ o j, μ1.1 o j = if o = 52 ∧ j < k then nI (sTape A (3 * j)) else if o = 53 ∧ j < k then nI (256 * sTape A (3 * j + 1) + sTape A (3 * j + 2)) else μ.1 o j) → μ1.2 = μ.2 → ∃ μ2, f_X11_see_L67 N (nI r) e113 n (nI k) μ1 = e113 μ2 ∧ (∀ o j, μ2.1 o j = if o = 52 ∧ j < r then nI (sTape A (3 * j)) else if o = 53 ∧ j < r then nI (256 * sTape A (3 * j + 1) + sTape A (3 * j + 2)) else μ.1 o j) ∧ μ2.2 = μ.2 := by
  intro n
  induction n with
  | zero => intro k μ1 h1 h2; omega
  | succ n ih =>
    intro k μ1 h1 h2 hv hv2
    show ∃ μ2, b_X11_see_L67 N (nI r) (f_X11_see_L67 N (nI r) e113 n) e113 (nI k) μ1 = e113 μ2 ∧ _
    unfold b_X11_see_L67
    by_cases hlt : k < r
    · have e3 : (3 : Int32) * nI k = nI (3 * k) := pk_mul 3 k
      have e4 : nI (3 * k) + (1 : Int32) = nI (3 * k + 1) := nI_1 _
      have e5 : nI (3 * k + 1) + (1 : Int32) = nI (3 * k + 2) := nI_1 _
      have ek : nI k + 1 = nI (k + 1) := nI_1 k
      have t1 : ∀ j, μ1.1 2 j = nI (sTape A j) := fun j => by rw [hv, if_neg (by omega), if_neg (by omega)]; exact h2t j
      have hp : ∀ μ3 : z_S, (∀ j, μ3.1 2 j = nI (sTape A j)) → f_X10_pairAt N (nI (3 * k + 1)) μ3 = some (nI (256 * sTape A (3 * k + 1) + sTape A (3 * k + 2)), μ3) := fun μ3 h3 => by
        unfold f_X10_pairAt
        have e256 : (256 : Int32) * nI (sTape A (3 * k + 1)) = nI (256 * sTape A (3 * k + 1)) := pk_mul 256 _
        rw [e5, z_in_nI (by omega) (by decide), z_in_nI (by omega) (by decide), nI_toNat (by omega), nI_toNat (by omega), h3, h3, e256, nI_add]
      rw [if_pos (nI_lt hlt (by omega)), e3, z_in_nI (show 3 * k < 1600 by omega) (by decide), z_in_nI (show k < 16 by omega) (by decide), nI_toNat (by omega), nI_toNat (by omega), t1, z_bd_eq, e4, hp _ (fun j => by rw [sI_1, if_neg (by omega)]; exact t1 j), z_bn_sm, z_in_nI (show k < 16 by omega) (by decide), z_bd_eq, ek, z_bd_eq]
      refine ih (k + 1) _ (by omega) (by omega) (fun o j => ?_) hv2
      rw [sI_1]
      by_cases c : o = 53 ∧ j = k
      · rw [if_pos c, if_neg (by omega), if_pos (by omega), c.2]
      · rw [if_neg c, sI_1]
        by_cases c2 : o = 52 ∧ j = k
        · rw [if_pos c2, if_pos (by omega), c2.2]
        · rw [if_neg c2, hv]
          by_cases c3 : o = 52 ∧ j < k
          · rw [if_pos c3, if_pos (by omega)]
          · rw [if_neg c3, if_neg (show ¬ (o = 52 ∧ j < k + 1) by omega)]
            by_cases c4 : o = 53 ∧ j < k
            · rw [if_pos c4, if_pos (show o = 53 ∧ j < k + 1 by omega)]
            · rw [if_neg c4, if_neg (show ¬ (o = 53 ∧ j < k + 1) by omega)]
    · have : k = r := by omega
      subst this
      rw [if_neg (nI_nlt (Nat.le_refl _) (by omega))]
      exact ⟨μ1, rfl, hv, hv2⟩
theorem m_seeL {A : aS} {ν : z_S} (h2t : ∀ k, ν.1 254 k = nI (sTape A k)) (N : Nat) {m : Nat} (hm : m ≤ 48) (e97 : z_S → Option (Int32 × z_S)) : ∀ n k ν1, k ≤ m → m - k < n → (∀ o j, ν1.1 o j = if o = 305 ∧ j < k then nI (sTape A j) else ν.1 o j) → ν1.2 = ν.2 → ∃ ν2, f_X12_see_L74 N (nI m) e97 n (nI k) ν1 = e97 ν2 ∧ (∀ o j, ν2.1 o j = if o = 305 ∧ j < m then nI (sTape A j) else ν.1 o j) ∧ ν2.2 = ν.2 := by
  intro n
  induction n with
  | zero => intro k ν1 h1 h2; omega
  | succ n ih =>
    intro k ν1 h1 h2 hv hv2
    show ∃ ν2, b_X12_see_L74 N (nI m) (f_X12_see_L74 N (nI m) e97 n) e97 (nI k) ν1 = e97 ν2 ∧ _
    unfold b_X12_see_L74
    by_cases hlt : k < m
    · have ek : nI k + 1 = nI (k + 1) := nI_1 k
      have t1 : ν1.1 254 k = nI (sTape A k) := by rw [hv, if_neg (by omega)]; exact h2t k
      rw [if_pos (nI_lt hlt (by omega)), z_in_nI (show k < 1600 by omega) (by decide), z_in_nI (show k < 48 by omega) (by decide), nI_toNat (by omega), t1, z_bd_eq, ek, z_bd_eq]
      refine ih (k + 1) _ (by omega) (by omega) (fun o j => ?_) hv2
      rw [sI_1]
      by_cases c : o = 305 ∧ j = k
      · rw [if_pos c, if_pos (by omega), c.2]
      · rw [if_neg c, hv]
        by_cases c3 : o = 305 ∧ j < k
        · rw [if_pos c3, if_pos (by omega)]
        · rw [if_neg c3, if_neg (by omega)]
    · have : k = m := by omega
      subst this
      rw [if_neg (nI_nlt (Nat.le_refl _) (by omega))]
      exact ⟨ν1, rfl, hv, hv2⟩
theorem seenOf_at {t : Nat → Nat} {r k : Nat} {q : Nat × Nat} (h : (seenOf t r)[k]? = some q) : k < r ∧ q = (t (3 * k), 256 * t (3 * k + 1) + t (3 * k + 2)) := by
  unfold seenOf at h
  rw [List.getElem?_map] at h
  by_cases hk : k < r
  · rw [List.getElem?_range hk] at h
    exact ⟨hk, (Option.some.inj h).symm⟩
  · rw [List.getElem?_eq_none (by rw [List.length_range]; omega)] at h
    cases h
theorem c_seen {A : aS} {μ μ2 : z_S} (ok : okS A) (h : cS A μ) {r : Nat} (hv : ∀ o j, μ2.1 o j = if o = 52 ∧ j < r then nI (sTape A (3 * j)) else if o = 53 ∧ j < r then nI (256 * sTape A (3 * j + 1) + sTape A (3 * j + 2)) else μ.1 o j) (hv2 : μ2.2 = μ.2) : cS (aSeen A (seenOf (sTape A) r)) (z_setI μ2 0 15 (nI r)) := by
  have R : ∀ o j, ¬ (o = 0 ∧ j = 15) → o ≠ 52 → o ≠ 53 → (z_setI μ2 0 15 (nI r)).1 o j = μ.1 o j := fun o j q1 q2 q3 => by rw [sI_1, if_neg q1, hv, if_neg (fun q => q2 q.1), if_neg (fun q => q3 q.1)]
  have hb : (z_setI μ2 0 15 (nI r)).2.2 = μ.2.2 := by rw [sI_22, hv2]
  have hlen : (seenOf (sTape A) r).length = r := by unfold seenOf; rw [List.length_map, List.length_range]
  have h' := h
  obtain ⟨a1, a2, a3, a4, a5, a6, a7, a8, a9, b1, ⟨old, b2, b3, b4⟩, c1, c2, d1, d2, d3⟩ := h'
  refine cS_of ok h hb rfl (fun q j h1 h2 g1 g2 g3 g4 => by exact R _ _ (by omega) (by omega) (by omega)) (fun j => by exact R _ _ (by omega) (by omega) (by omega)) ?_ (fun k => ?_) (fun k hk => ?_) ?_ ?_ ?_ ?_ ?_ ?_ (fun k q hq => ?_) ?_ (fun k x hx => ?_) ?_
  · rw [R _ _ (by omega) (by omega) (by omega)]; exact a1
  · rw [R _ _ (by omega) (by omega) (by omega)]; exact a2 k
  · rw [R _ _ (by omega) (by omega) (by omega)]; exact a4 k hk
  · rw [R _ _ (by omega) (by omega) (by omega)]; exact a5
  · rw [R _ _ (by omega) (by omega) (by omega)]; exact a6
  · exact cN_of a9 (fun o j h1 h2 => by exact R _ _ (by omega) (by omega) (by omega))
  · rw [R _ _ (by omega) (by omega) (by omega)]; exact b1
  · exact ⟨old, b2, by rw [R _ _ (by omega) (by omega) (by omega)]; exact b3, fun i a hi => cN_of (b4 i a hi) (fun o j h1 h2 => by exact R _ _ (by omega) (by omega) (by omega))⟩
  · rw [sI_1, if_pos ⟨rfl, rfl⟩]; show nI r = nI (seenOf (sTape A) r).length; rw [hlen]
  · obtain ⟨hk, rfl⟩ := seenOf_at hq; exact ⟨by rw [sI_1, if_neg (by omega), hv, if_pos ⟨rfl, hk⟩], by rw [sI_1, if_neg (by omega), hv, if_neg (by omega), if_pos ⟨rfl, hk⟩]⟩
  · rw [R _ _ (by omega) (by omega) (by omega)]; exact d1
  · rw [R _ _ (by omega) (by omega) (by omega)]; exact d2 k x hx
  · rw [R _ _ (by omega) (by omega) (by omega)]; exact d3
theorem m_seen {A : aS} {ν ν2 : z_S} (ok : okS A) (h : mS A ν) {r : Nat} (hv : ∀ o j, ν2.1 o j = if o = 305 ∧ j < 3 * r then nI (sTape A j) else ν.1 o j) (hv2 : ν2.2 = ν.2) : mS (aSeen A (seenOf (sTape A) r)) (z_setI ν2 253 65 (nI r)) := by
  have R : ∀ o j, ¬ (o = 253 ∧ j = 65) → o ≠ 305 → (z_setI ν2 253 65 (nI r)).1 o j = ν.1 o j := fun o j q1 q2 => by rw [sI_1, if_neg q1, hv, if_neg (fun q => q2 q.1)]
  have hlen : (seenOf (sTape A) r).length = r := by unfold seenOf; rw [List.length_map, List.length_range]
  have h' := h
  obtain ⟨a1, a2, a3, a4, a5, a6, a7, a8, b1, ⟨nw, b2, b3, b4⟩, c1, c2, d1, d2, d3⟩ := h'
  refine mS_of h rfl (fun q j h1 h2 => by exact R _ _ (by omega) (by omega)) (fun _ => by rw [sI_2, hv2]) (fun q j hq => by exact R _ _ (by omega) (by omega)) ?_ (fun k => ?_) (fun k hk => ?_) ?_ ?_ ?_ ?_ ?_ ?_ (fun k q hq => ?_) ?_ (fun k x hx => ?_) ?_
  · rw [R _ _ (by omega) (by omega)]; exact a1
  · rw [R _ _ (by omega) (by omega)]; exact a2 k
  · rw [R _ _ (by omega) (by omega)]; exact a4 k hk
  · rw [R _ _ (by omega) (by omega)]; exact a5
  · rw [R _ _ (by omega) (by omega)]; exact a6
  · exact mN_of a8 (fun j h1 h2 => by exact R _ _ (by omega) (by omega))
  · rw [R _ _ (by omega) (by omega)]; exact b1
  · exact ⟨nw, b2, by rw [R _ _ (by omega) (by omega)]; exact b3, fun i a hi => mN_of (b4 i a hi) (fun j h1 h2 => by exact R _ _ (by omega) (by omega))⟩
  · rw [sI_1, if_pos ⟨rfl, rfl⟩]; show nI r = nI (seenOf (sTape A) r).length; rw [hlen]
  · obtain ⟨hk, rfl⟩ := seenOf_at hq; exact ⟨by rw [sI_1, if_neg (by omega), hv, if_pos ⟨rfl, by omega⟩], sTape A (3 * k + 1), sTape A (3 * k + 2), ok.2.1 _, ok.2.1 _, rfl, by rw [sI_1, if_neg (by omega), hv, if_pos ⟨rfl, by omega⟩], by rw [sI_1, if_neg (by omega), hv, if_pos ⟨rfl, by omega⟩]⟩
  · rw [R _ _ (by omega) (by omega)]; exact d1
  · rw [R _ _ (by omega) (by omega)]; exact d2 k x hx
  · rw [sI_2, hv2]; exact d3
theorem ok_seen {A : aS} (ok : okS A) {r : Nat} (hr : r ≤ 16) (hall : okRows (sTape A) (hCnt (sH A) 0) r = true) : okS (aSeen A (seenOf (sTape A) r)) := by
  have hlen : (seenOf (sTape A) r).length = r := by unfold seenOf; rw [List.length_map, List.length_range]
  obtain ⟨o1, o2, o3, o4, o5, o6, o7, o8, o9⟩ := ok
  refine ⟨o1, o2, o3, o4, o5, o6, by show (seenOf (sTape A) r).length ≤ 16; rw [hlen]; exact hr, fun q hq => ?_, o9⟩
  obtain ⟨k, hk⟩ := List.getElem?_of_mem (show q ∈ seenOf (sTape A) r from hq)
  obtain ⟨h1, rfl⟩ := seenOf_at hk
  refine ⟨okRows_all r hall k h1, ?_⟩
  have a1 := o2 (3 * k + 1)
  have a2 := o2 (3 * k + 2)
  show 256 * sTape A (3 * k + 1) + sTape A (3 * k + 2) < 65536
  omega
theorem op_see {A : aS} {μ ν : z_S} (ok : okS A) (hc : cS A μ) (hm : mS A ν) (N : Nat) (hN : 60 ≤ N) : z_Op (f_X11_see N μ) (f_X12_see N ν) := by
  have hl := ok.1
  have hc0 := c_len ok hc 0
  have hm0 := m_len hm 0
  have ok0 := ok_len ok (n := 0) (by decide)
  have h10 : ¬ (1 : Int32) = 0 := by decide
  obtain ⟨μ', r1, r2⟩ := c_refN ok0 hc0 N (k := 1) (by decide)
  have r1' : f_X11_refuseNumber N 1 (z_setI μ 1 1 0) = some (-1, μ') := r1
  obtain ⟨ν', s1, s2⟩ := m_refuses hm0 N (k := 1) (by decide)
  have s1' : f_X12_refuses N 1 (z_setI ν 253 1 0) = some (-1, ν') := s1
  -- refused on either side
  have cno : ∀ x, f_X11_see_B46 N x 0 μ = some (-1, μ') := fun x => by
    unfold f_X11_see_B46
    rw [z_bd_eq, if_pos rfl, r1', z_bn_sm]
  have mno0 : ∀ x, f_X12_see_B62 N x 0 (z_setI ν 253 1 0) = some (-1, ν') := fun x => by
    unfold f_X12_see_B62
    rw [if_pos rfl, s1', z_bn_sm]
  have mno : ∀ x, f_X12_see_B33 N x 0 (z_setI ν 253 1 0) = some (-1, ν') := fun x => by
    unfold f_X12_see_B33
    obtain ⟨m, hm'⟩ : ∃ m, N = m + 1 := ⟨N - 1, by omega⟩
    have : ∀ n0, n0 = m + 1 → f_X12_see_L36 N x (fun y62_2 μ62 => f_X12_see_B62 N x y62_2 μ62) n0 0 0 (z_setI ν 253 1 0) = some (-1, ν') := by
      intro n0 h0
      subst h0
      show b_X12_see_L36 N x _ _ 0 0 (z_setI ν 253 1 0) = _
      unfold b_X12_see_L36
      split
      · rw [if_pos rfl]; exact mno0 x
      · exact mno0 x
    exact this N hm'
  have hno : ∀ x y, z_Op (f_X11_see_B46 N x 0 μ) (f_X12_see_B33 N y 0 (z_setI ν 253 1 0)) := fun x y => by
    rw [cno, mno]
    exact ⟨-1, μ', ν', rfl, rfl, _, ok_ref ok0 1, r2, s2⟩
  unfold f_X11_see f_X12_see f_X11_see_B45 f_X12_see_B32
  have ed : nI (sLen A) / (3 : Int32) = nI (sLen A / 3) := pk_div (d := 3) (by omega) (by decide) (by decide)
  have er : nI (sLen A) - nI (sLen A / 3) * (3 : Int32) = nI (sLen A % 3) := by
    rw [← ed]
    exact pk_rem (d := 3) (by omega) (by decide) (by decide)
  have z3 : ¬ (3 : Int32) = 0 := by decide
  rw [hc.1, hm.1, z_nz_ok z3, ed, er, z_bd_eq, z_nz_ok z3, z_bd_eq, z_bd_eq, ed, er, z_nz_ok z3, z_nz_ok z3]
  have q3 : nI (sLen A % 3) = 0 ↔ sLen A % 3 = 0 := nI_z (by omega)
  have q0 : (0 : Int32) < nI (sLen A) ↔ 0 < sLen A := nI_ltI (a := 0) (by decide) (by omega)
  have q1 : nI (sLen A / 3) < (1 : Int32) ↔ sLen A / 3 < 1 := nI_ltI (b := 1) (by omega) (by decide)
  have q16 : (16 : Int32) < nI (sLen A / 3) ↔ 16 < sLen A / 3 := nI_ltI (a := 16) (by decide) (by omega)
  by_cases c1 : sLen A % 3 = 0
  · rw [if_pos (q3.mpr c1), if_pos (q3.mpr c1)]
    by_cases c2 : sLen A / 3 < 1
    · rw [if_pos (q1.mpr c2), if_neg (fun q => by have := q0.mp q; omega)]
      exact hno _ _
    · rw [if_neg (fun q => c2 (q1.mp q)), if_pos (q0.mpr (by omega))]
      by_cases c3 : 16 < sLen A / 3
      · rw [if_pos (q16.mpr c3), if_pos (q16.mpr c3)]
        exact hno _ _
      · rw [if_neg (fun q => c3 (q16.mp q)), if_neg (fun q => c3 (q16.mp q)), c_tells ok hc N (by omega) (by omega), z_bn_sm]
        have h3r : sLen A = 3 * (sLen A / 3) := by omega
        generalize hr : sLen A / 3 = r at *
        rw [h3r]
        have hmt : f_X12_see_B33 N (nI (3 * r)) 1 (z_setI ν 253 1 0) = f_X12_see_B62 N (nI (3 * r)) (if okRows (sTape A) (hCnt (sH A) 0) r then 1 else 0) (z_setI ν 253 1 0) := by
          unfold f_X12_see_B33
          obtain ⟨m, hm'⟩ : ∃ m, N = m + 1 := ⟨N - 1, by omega⟩
          have key : ∀ n0, n0 = m + 1 → f_X12_see_L36 N (nI (3 * r)) (fun y62_2 μ62 => f_X12_see_B62 N (nI (3 * r)) y62_2 μ62) n0 1 0 (z_setI ν 253 1 0) = f_X12_see_B62 N (nI (3 * r)) (if okRows (sTape A) (hCnt (sH A) 0) r then 1 else 0) (z_setI ν 253 1 0) := by
            intro n0 h0
            subst h0
            exact m_tells ok0 hm0 N (by omega) (fun y62_2 μ62 => f_X12_see_B62 N (nI (3 * r)) y62_2 μ62) m 0 (Nat.zero_le _) (by omega) (fun j hj => absurd hj (Nat.not_lt_zero _))
          exact key N hm'
        rw [hmt]
        by_cases hall : okRows (sTape A) (hCnt (sH A) 0) r = true
        · rw [if_pos hall, if_neg h10]
          unfold f_X11_see_B46 f_X12_see_B62
          rw [z_bd_eq, if_neg h10, if_neg h10]
          obtain ⟨μ2, e1, v1, v2⟩ := c_seeL ok0 hc0.2.1 N (r := r) (by omega) (fun μ113 => z_bd (z_setI μ113 0 15 (nI r)) fun μ_6 => some (nI r, μ_6)) N 0 (z_setI μ 1 1 0) (Nat.zero_le _) (by omega) (fun o j => by rw [if_neg (by omega), if_neg (by omega)]; rfl) rfl
          obtain ⟨ν2, f1, w1, w2⟩ := m_seeL (A := aLen A 0) hm0.2.1 N (m := 3 * r) (by omega) (fun μ97 => z_nz (3 : Int32) <| z_bd (z_setI μ97 253 65 (nI (3 * r) / (3 : Int32))) fun μ_5 => some ((μ_5.1 253 65), μ_5)) N 0 (z_setI ν 253 1 0) (Nat.zero_le _) (by omega) (fun o j => by rw [if_neg (by omega)]; rfl) rfl
          have e1' : f_X11_see_L67 N (nI r) _ N 0 (z_setI μ 1 1 0) = _ := e1
          have f1' : f_X12_see_L74 N (nI (3 * r)) _ N 0 (z_setI ν 253 1 0) = _ := f1
          have e3r : nI (3 * r) / (3 : Int32) = nI r := by
            rw [show nI (3 * r) / (3 : Int32) = nI (3 * r / 3) from pk_div (d := 3) (by omega) (by decide) (by decide)]
            congr 1
            omega
          rw [e1', f1', z_nz_ok z3, e3r, z_bd_eq, z_bd_eq, sI_1, if_pos ⟨rfl, rfl⟩]
          exact ⟨nI r, _, _, rfl, rfl, _, ok_seen ok0 (by omega) hall, c_seen ok0 hc0 v1 v2, m_seen ok0 hm0 w1 w2⟩
        · rw [if_neg hall, if_pos rfl, cno, mno0]
          exact ⟨-1, μ', ν', rfl, rfl, _, ok_ref ok0 1, r2, s2⟩
  · rw [if_neg (fun q => c1 (q3.mp q)), if_neg (fun q => c1 (q3.mp q))]
    split
    · exact hno _ _
    · exact hno _ _
