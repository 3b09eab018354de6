/-! codes kept -/
def kpFr (o : Nat) (μ μ' : z_S) : Prop := μ'.2 = μ.2 ∧ ∀ a j, ¬ (a = o ∧ j = 1) → a ≠ o + 1 → μ'.1 a j = μ.1 a j
theorem c_addS {N s o : Nat} (hk : z_kw true o = (0, 0)) (hs : s < 1600) {μ : z_S} (h : μ.1 o 1 = nI s) (x : Int32) : f_X0_add N o x μ = some ((), z_setI (z_setI μ o 1 (nI (s + 1))) (o + 1) s x) := by
  unfold f_X0_add
  rw [z_ko_ok hk, h, if_pos (show nI s < (1600 : Int32) from nI_lt (b := 1600) hs (by decide)), z_bd_eq, show nI s + (1 : Int32) = nI (s + 1) from nI_1 _, z_bd_eq, z_in_nI hs (by decide), nI_toNat (by omega), z_bd_eq]
theorem c_addN {N s o : Nat} (hk : z_kw true o = (0, 0)) (hs : s ≤ 1600) {μ : z_S} (h : μ.1 o 1 = nI s) (x : Int32) : ∃ s' μ', s' ≤ 1600 ∧ f_X0_add N o x μ = some ((), μ') ∧ kpFr o μ μ' ∧ μ'.1 o 1 = nI s' := by
  rcases Nat.lt_or_ge s 1600 with c | c
  · refine ⟨s + 1, _, by omega, c_addS hk c h x, ⟨rfl, fun a j z1 z2 => by rw [sI_1, if_neg (fun z => z2 z.1), sI_1, if_neg z1]⟩, ?_⟩
    rw [sI_1, if_neg (by omega), sI_1, if_pos ⟨rfl, rfl⟩]
  · refine ⟨s, μ, hs, ?_, ⟨rfl, fun _ _ _ _ => rfl⟩, h⟩
    unfold f_X0_add
    rw [z_ko_ok hk, h, if_neg (show ¬ nI s < (1600 : Int32) from nI_nlt (b := 1600) (by omega) (by omega))]
theorem c_allL {N o : Nat} (hk : z_kw true o = (0, 0)) (ho : o ≠ 93 ∧ o ≠ 94 ∧ o + 1 ≠ 93 ∧ o + 1 ≠ 94) {C : List Int32} (hC : C.length ≤ 1600) : ∀ f i s μ, i ≤ C.length → C.length - i < f → s + (C.length - i) ≤ 1600 → cC C μ → μ.1 o 1 = nI s → ∃ μ', f_X0_addAll_L2 N o 93 f (nI i) μ = some ((), μ') ∧ kpFr o μ μ' ∧ μ'.1 o 1 = nI (s + (C.length - i)) ∧ (∀ k c, C[i + k]? = some c → μ'.1 (o + 1) (s + k) = c) ∧ ∀ j, j < s → μ'.1 (o + 1) j = μ.1 (o + 1) j := by
  intro f
  induction f with
  | zero => intro i s μ _ h; omega
  | succ f ih =>
    intro i s μ h1 h2 h3 hc hs
    show ∃ μ', b_X0_addAll_L2 N o 93 _ (nI i) μ = _ ∧ _
    unfold b_X0_addAll_L2
    rw [hc.1]
    by_cases c : i < C.length
    · rw [if_pos (nI_lt c (by omega)), z_in_nI (show i < 1600 by omega) (by decide), nI_toNat (by omega), c_addS hk (by omega) hs, z_bn_sm, z_bd_eq, show nI i + 1 = nI (i + 1) from nI_1 _]
      obtain ⟨x, hx⟩ : ∃ x, C[i]? = some x := ⟨C[i], List.getElem?_eq_getElem c⟩
      rw [hc.2 i x hx]
      obtain ⟨μ', r1, r2, r3, r4, r5⟩ := ih (i + 1) (s + 1) (z_setI (z_setI μ o 1 (nI (s + 1))) (o + 1) s x) (by omega) (by omega) (by omega) ⟨by rw [sI_1, if_neg (by omega), sI_1, if_neg (by omega)]; exact hc.1, fun k c hkc => by rw [sI_1, if_neg (by omega), sI_1, if_neg (by omega)]; exact hc.2 k c hkc⟩ (by rw [sI_1, if_neg (by omega), sI_1, if_pos ⟨rfl, rfl⟩])
      refine ⟨μ', r1, ⟨r2.1, fun a j z1 z2 => by rw [r2.2 a j z1 z2, sI_1, if_neg (fun z => z2 z.1), sI_1, if_neg z1]⟩, by rw [r3]; congr 1; omega, fun k c hkc => ?_, fun j hj => ?_⟩
      · rcases k with _ | k
        · rw [Nat.add_zero, hx] at hkc
          cases hkc
          show μ'.1 (o + 1) s = x
          rw [r5 s (by omega), sI_1, if_pos ⟨rfl, rfl⟩]
        · rw [show i + (k + 1) = i + 1 + k by omega] at hkc
          rw [show s + (k + 1) = s + 1 + k by omega]
          exact r4 k c hkc
      · rw [r5 j (by omega), sI_1, if_neg (by omega), sI_1, if_neg (by omega)]
    · have e : i = C.length := by omega
      rw [if_neg (nI_nlt (by omega) (by omega))]
      refine ⟨μ, rfl, ⟨rfl, fun _ _ _ _ => rfl⟩, by rw [hs]; congr 1; omega, fun k c hkc => ?_, fun _ _ => rfl⟩
      have := (List.getElem?_eq_some_iff.mp hkc).1
      omega
theorem c_allB {N o : Nat} (hk : z_kw true o = (0, 0)) (ho : o ≠ 93 ∧ o + 1 ≠ 93) {m : Nat} (hm : m ≤ 1600) : ∀ f i s μ, i ≤ m → m - i < f → s ≤ 1600 → μ.1 93 1 = nI m → μ.1 o 1 = nI s → ∃ μ' s', f_X0_addAll_L2 N o 93 f (nI i) μ = some ((), μ') ∧ kpFr o μ μ' ∧ s' ≤ 1600 ∧ μ'.1 o 1 = nI s' := by
  intro f
  induction f with
  | zero => intro i s μ _ h; omega
  | succ f ih =>
    intro i s μ h1 h2 h3 hc hs
    show ∃ μ' s', b_X0_addAll_L2 N o 93 _ (nI i) μ = _ ∧ _
    unfold b_X0_addAll_L2
    rw [hc]
    by_cases c : i < m
    · obtain ⟨s2, μ2, r0, r1, r2, r3⟩ := c_addN (N := N) hk h3 hs (μ.1 (93 + 1) (nI i).toNatClampNeg)
      rw [if_pos (nI_lt c (by omega)), z_in_nI (show i < 1600 by omega) (by decide), r1, z_bn_sm, z_bd_eq, show nI i + 1 = nI (i + 1) from nI_1 _]
      obtain ⟨μ', s', t1, t2, t3, t4⟩ := ih (i + 1) s2 μ2 (by omega) (by omega) r0 (by rw [r2.2 _ _ (by omega) (by omega)]; exact hc) r3
      exact ⟨μ', s', t1, ⟨t2.1.trans r2.1, fun a j z1 z2 => (t2.2 a j z1 z2).trans (r2.2 a j z1 z2)⟩, t3, t4⟩
    · rw [if_neg (nI_nlt (by omega) (by omega))]
      exact ⟨μ, s, rfl, ⟨rfl, fun _ _ _ _ => rfl⟩, h3, hs⟩
/-- the reference copies its codes -/
theorem m_copyL {N : Nat} (c1 : Int32) (e : z_S → Option (Unit × z_S)) {Q : List Int32} {cd : Nat} (hQ : cd + Q.length ≤ 1600) : ∀ f i ν, i ≤ Q.length → Q.length - i < f → ν.1 253 95 = nI Q.length → (∀ k c, Q[k]? = some c → ν.1 330 k = c) → ν.1 253 51 = nI (cd + i) → ∃ ν', f_X12_codesTold_L80 N c1 e f (nI i) ν = e ν' ∧ ν'.2 = ν.2 ∧ (∀ a j, ¬ (a = 253 ∧ j = 51) → ¬ (a = 295 ∧ cd + i ≤ j ∧ j < cd + Q.length) → ν'.1 a j = ν.1 a j) ∧ ν'.1 253 51 = nI (cd + Q.length) ∧ ∀ k c, i ≤ k → Q[k]? = some c → ν'.1 295 (cd + k) = c := by
  intro f
  induction f with
  | zero => intro i ν _ h; omega
  | succ f ih =>
    intro i ν h1 h2 h95 h330 h51
    show ∃ ν', b_X12_codesTold_L80 N c1 _ e (nI i) ν = _ ∧ _
    unfold b_X12_codesTold_L80
    rw [h95, h51]
    by_cases c : i < Q.length
    · rw [if_pos (nI_lt c (by omega)), z_in_nI (show i < 1700 by omega) (by decide), z_in_nI (show cd + i < 3200 by omega) (by decide), nI_toNat (show i < 2 ^ 31 by omega), nI_toNat (show cd + i < 2 ^ 31 by omega), z_bd_eq, z_bd_eq, z_bd_eq, sI_1, if_neg (by omega), h51, show nI i + 1 = nI (i + 1) from nI_1 _, nI_1]
      obtain ⟨x, hx⟩ : ∃ x, Q[i]? = some x := ⟨Q[i], List.getElem?_eq_getElem c⟩
      rw [h330 i x hx]
      obtain ⟨ν', r1, r2, r3, r4, r5⟩ := ih (i + 1) (z_setI (z_setI ν 295 (cd + i) x) 253 51 (nI (cd + i + 1))) (by omega) (by omega) (by rw [sI_1, if_neg (by omega), sI_1, if_neg (by omega)]; exact h95) (fun k c hkc => by rw [sI_1, if_neg (by omega), sI_1, if_neg (by omega)]; exact h330 k c hkc) (by rw [sI_1, if_pos ⟨rfl, rfl⟩]; rfl)
      refine ⟨ν', r1, r2, fun a j z1 z2 => by rw [r3 a j z1 (by omega), sI_1, if_neg z1, sI_1, if_neg (by omega)], r4, fun k c hk hkc => ?_⟩
      by_cases d : k = i
      · subst d
        rw [hx] at hkc
        cases hkc
        rw [r3 _ _ (by omega) (by omega), sI_1, if_neg (by omega), sI_1, if_pos ⟨rfl, rfl⟩]
      · exact r5 k c (by omega) hkc
    · have e : i = Q.length := by omega
      rw [if_neg (nI_nlt (by omega) (by omega))]
      refine ⟨ν, rfl, rfl, fun _ _ _ _ => rfl, by rw [h51, e], fun k c hk hkc => ?_⟩
      have := (List.getElem?_eq_some_iff.mp hkc).1
      omega
