/-! the reference's numbers and names -/
theorem tkK_2 {t : Nat → Nat} {n q : Nat} {g : Bool} : tkK t n q g = 2 ↔ q < n ∧ dgB t q = true ∧ g = false := by
  unfold tkK
  by_cases y : n ≤ q
  · rw [if_pos y]
    exact ⟨fun z => by omega, fun z => by omega⟩
  · rw [if_neg y]
    by_cases c : ltB t q = true
    · rw [if_pos c]
      refine ⟨fun z => by split at z <;> omega, fun z => ?_⟩
      have a := ltB_t.mp c
      have b := dgB_t.mp z.2.1
      omega
    · rw [if_neg c]
      by_cases d : dgB t q = true
      · rw [if_pos d]
        cases g with
        | true => exact ⟨fun z => absurd z (by decide), fun z => absurd z.2.2 (by decide)⟩
        | false => exact ⟨fun _ => ⟨by omega, d, rfl⟩, fun _ => rfl⟩
      · rw [if_neg d]
        exact ⟨fun z => by omega, fun z => absurd z.2.1 d⟩
theorem tkK_1 {t : Nat → Nat} {n q : Nat} {g : Bool} : tkK t n q g = 1 ↔ q < n ∧ ltB t q = true ∧ g = false := by
  unfold tkK
  by_cases y : n ≤ q
  · rw [if_pos y]
    exact ⟨fun z => by omega, fun z => by omega⟩
  · rw [if_neg y]
    by_cases c : ltB t q = true
    · rw [if_pos c]
      cases g with
      | true => exact ⟨fun z => absurd z (by decide), fun z => absurd z.2.2 (by decide)⟩
      | false => exact ⟨fun _ => ⟨by omega, c, rfl⟩, fun _ => rfl⟩
    · rw [if_neg c]
      refine ⟨fun z => ?_, fun z => absurd z.2.1 c⟩
      split at z
      · split at z <;> omega
      · omega
theorem m_digL {t : Nat → Nat} {n q : Nat} (N : Nat) (c1 c2 : Int32) (e : Int32 → z_S → Option (Int32 × z_S)) (e85 : z_S → Option (Int32 × z_S)) : ∀ f i ν, q ≤ i → i ≤ n → i ≤ q + 4 → n - i < f → mX t n ν → ν.1 253 2 = nI i → (endE n (dgB t) i ≤ q + 4 ∧ ∃ ν', f_X12_number_L49 N c1 c2 (nI q) e e85 f (nI (numV t q (i - q))) ν = e (nI (numV t q (endE n (dgB t) i - q))) ν' ∧ yFr ν ν' ∧ ν'.1 253 2 = nI (endE n (dgB t) i) ∧ ∀ j, j ≠ 2 → ν'.1 253 j = ν.1 253 j) ∨ (q + 4 < endE n (dgB t) i ∧ ∃ ν', f_X12_number_L49 N c1 c2 (nI q) e e85 f (nI (numV t q (i - q))) ν = e85 ν' ∧ yFr ν ν' ∧ ν'.1 253 2 = nI (q + 4) ∧ ∀ j, j ≠ 2 → ν'.1 253 j = ν.1 253 j) := by
  intro f
  induction f with
  | zero => intro i ν h0 h1 h2 h3; omega
  | succ f ih =>
    intro i ν h0 h1 h2 h3 hx e2
    have hn := hx.1
    have eS : ∀ v, f_X12_number_L49 N c1 c2 (nI q) e e85 (f + 1) v ν = b_X12_number_L49 N c1 c2 (nI q) (f_X12_number_L49 N c1 c2 (nI q) e e85 f) e e85 v ν := fun _ => rfl
    rw [eS]
    unfold b_X12_number_L49
    rw [e2, hx.2.1]
    by_cases hlt : i < n
    · have ek : nI i + (1 : Int32) = nI (i + 1) := nI_1 i
      have hb := hx.2.2.2.1 i
      rw [if_pos (nI_lt hlt (by omega)), z_in_nI (show i < 1600 by omega) (by decide), nI_toNat (show i < 2 ^ 31 by omega), hx.2.2.1 i, m_isDg N hb, z_bn_sm, e2, endE_lt hlt]
      by_cases c : dgB t i = true
      · have hd := dgB_t.mp c
        rw [if_pos hd, if_neg (show ¬ (1 : Int32) = 0 by decide), if_pos c, show nI i - nI q = nI (i - q) from pk_sub (by omega)]
        have b := (endE_b (P := dgB t) (show i + 1 ≤ n by omega)).1
        by_cases c4 : i - q = 4
        · rw [if_pos (show nI (i - q) = (4 : Int32) by rw [c4]; rfl)]
          exact Or.inr ⟨by omega, ν, rfl, yFr.rf ν, by rw [e2, show i = q + 4 by omega], fun _ _ => rfl⟩
        · rw [if_neg (show ¬ nI (i - q) = (4 : Int32) from fun z => c4 ((nI_eq (b := 4) (by omega) (by decide)).mp z)), z_in_nI (show i < 1600 by omega) (by decide), nI_toNat (show i < 2 ^ 31 by omega), hx.2.2.1 i, ek, z_bd_eq, z_bd_eq]
          have ev : ((10 : Int32) * nI (numV t q (i - q)) + nI (t i)) - (48 : Int32) = nI (numV t q (i + 1 - q)) := by
            rw [show i + 1 - q = (i - q) + 1 by omega]
            show _ = nI (10 * numV t q (i - q) + (t (q + (i - q)) - 48))
            rw [show q + (i - q) = i by omega, show (10 : Int32) * nI (numV t q (i - q)) = nI (10 * numV t q (i - q)) from pk_mul 10 _, nI_add, show nI (10 * numV t q (i - q) + t i) - (48 : Int32) = nI (10 * numV t q (i - q) + t i - 48) from pk_sub (b := 48) (by omega), show 10 * numV t q (i - q) + t i - 48 = 10 * numV t q (i - q) + (t i - 48) by omega]
          rw [ev]
          have fr := yFr.set ν (j := 2) (nI (i + 1)) (by omega)
          rcases ih (i + 1) (z_setI ν 253 2 (nI (i + 1))) (by omega) (by omega) (by omega) (by omega) (fr.mX hx) (by rw [sI_1, if_pos ⟨rfl, rfl⟩]) with ⟨y, ν', r1, r2, r3, r4⟩ | ⟨y, ν', r1, r2, r3, r4⟩
          · exact Or.inl ⟨y, ν', r1, fr.tr r2, r3, fun j hj => by rw [r4 j hj, sI_1, if_neg (fun z => hj z.2)]⟩
          · exact Or.inr ⟨y, ν', r1, fr.tr r2, r3, fun j hj => by rw [r4 j hj, sI_1, if_neg (fun z => hj z.2)]⟩
      · rw [if_neg (fun z => c (dgB_t.mpr z)), if_pos rfl, if_neg c]
        exact Or.inl ⟨h2, ν, rfl, yFr.rf ν, e2, fun _ _ => rfl⟩
    · rw [if_neg (nI_nlt (by omega) (by omega)), endE_ge (by omega)]
      exact Or.inl ⟨h2, ν, rfl, yFr.rf ν, e2, fun _ _ => rfl⟩
theorem m_number {t : Nat → Nat} {n q : Nat} {g : Bool} (N : Nat) (hN : 1700 ≤ N) {ν : z_S} (h : mG t n q g ν) {a b : Nat} (ha : a ≤ 9999) (hb : b ≤ 9999) : ∃ x ν', f_X12_number N (nI a) (nI b) ν = some (x, ν') ∧ yFr ν ν' ∧
    ((tkK t n q g = 2 ∧ tkE t n q ≤ q + 4 ∧ a ≤ numV t q (tkE t n q - q) ∧ numV t q (tkE t n q - q) ≤ b ∧ x = nI (numV t q (tkE t n q - q)) ∧ mG t n (nxQ t n q) (nxG t n q g) ν') ∨
     (¬ tkK t n q g = 2 ∧ mB 1 q ν') ∨ (tkK t n q g = 2 ∧ q + 4 < tkE t n q ∧ mB 1 (q + 4) ν') ∨
     (tkK t n q g = 2 ∧ tkE t n q ≤ q + 4 ∧ ¬ (a ≤ numV t q (tkE t n q - q) ∧ numV t q (tkE t n q - q) ≤ b) ∧ mB 2 q ν')) := by
  obtain ⟨ν1, r1, r2, r3⟩ := m_look N hN h
  have hA := r3
  obtain ⟨hx, h5', h2, hq, hs, d, hd, hdq, hg⟩ := r3
  have hn := hx.1
  obtain ⟨a1, a2, a3⟩ := tkE_b (t := t) hq
  unfold f_X12_number f_X12_number_B30
  rw [if_pos h.2.1, r1, z_bn_sm, lk_dg N hx.2.2.2.1, z_bn_sm]
  have bad : ¬ tkK t n q g = 2 → ∃ x ν', (z_bn (f_X12_fail N (1 : Int32) (nI q) ν1) fun _ μ_3 => some ((0 : Int32), μ_3)) = some (x, ν') ∧ yFr ν ν' ∧ mB 1 q ν' := fun _ => by
    obtain ⟨ν2, s1, s2, s3⟩ := m_failAt N 1 q h5'
    have s1' : f_X12_fail N (1 : Int32) (nI q) ν1 = some ((), ν2) := s1
    rw [s1', z_bn_sm]
    exact ⟨0, ν2, rfl, r2.tr s2, s3⟩
  by_cases c : q < n ∧ dgB t q = true
  · rw [if_pos c, if_neg (show ¬ (1 : Int32) = 0 by decide), h2, hd]
    by_cases cg : g = true
    · have hd1 := hg.mp cg
      have e1 : nI d - 1 = nI q := by rw [hd1]; exact pk_sub (b := 1) (by omega)
      rw [if_pos e1.symm]
      have nk : ¬ tkK t n q g = 2 := fun z => by rw [(tkK_2.mp z).2.2] at cg; exact absurd cg (by decide)
      obtain ⟨x, ν', s1, s2, s3⟩ := bad nk
      exact ⟨x, ν', s1, s2, Or.inr (Or.inl ⟨nk, s3⟩)⟩
    · have hd1 : ¬ d = q + 1 := fun z => cg (hg.mpr z)
      have gf : g = false := by cases g; rfl; exact absurd rfl cg
      have hk : tkK t n q g = 2 := tkK_2.mpr ⟨c.1, c.2, gf⟩
      have nl : ¬ ltB t q = true := fun z => by
        have w1 := ltB_t.mp z
        have w2 := dgB_t.mp c.2
        omega
      have eE : tkE t n q = endE n (dgB t) q := by unfold tkE; rw [if_neg (by omega), if_neg nl, if_pos c.2]
      rw [if_neg (fun z => hd1 ((nI_dec (by omega) (by omega)).mp z.symm)), z_bd_eq]
      obtain ⟨b1, b2, b3, b4⟩ := endE_b (P := dgB t) hq
      have L := m_digL (t := t) (n := n) (q := q) N (nI a) (nI b) (fun y129_4 μ129 => f_X12_number_B129 N (nI a) (nI b) (nI q) y129_4 μ129) (fun μ85 => z_bn (f_X12_fail N (1 : Int32) (μ85.1 253 2) μ85) fun _ μ_9 => some ((0 : Int32), μ_9)) N q ν1 (Nat.le_refl _) hq (by omega) (by omega) hx h2
      rw [← eE, Nat.sub_self] at L
      rcases L with ⟨y, ν2, s1, s2, s3, s4⟩ | ⟨y, ν2, s1, s2, s3, s4⟩
      · have s1' : f_X12_number_L49 N (nI a) (nI b) (nI q) (fun y129_4 μ129 => f_X12_number_B129 N (nI a) (nI b) (nI q) y129_4 μ129) (fun μ85 => z_bn (f_X12_fail N (1 : Int32) (μ85.1 253 2) μ85) fun _ μ_9 => some ((0 : Int32), μ_9)) N (0 : Int32) ν1 = f_X12_number_B129 N (nI a) (nI b) (nI q) (nI (numV t q (tkE t n q - q))) ν2 := s1
        have hv := numV_lt (t := t) (q := q) (tkE t n q - q) (fun k k1 k2 => b3 k k1 (by omega))
        have hp := Nat.pow_le_pow_right (show 0 < 10 by decide) (show tkE t n q - q ≤ 4 by omega)
        have p4 : 10 ^ 4 = 10000 := by decide
        rw [s1']
        unfold f_X12_number_B129 f_X12_isIn
        rw [s3, z_bd_eq, nI_l (by omega), nI_l (by omega), nI_l (by omega)]
        generalize hν3 : z_setI ν2 253 4 (nI (tkE t n q)) = ν3
        have fr3 : yFr ν2 ν3 := by rw [← hν3]; exact yFr.set ν2 (j := 4) _ (by omega)
        have m3 : ν3.1 253 5 = 0 := by rw [← hν3, sI_1, if_neg (by omega), s4 5 (by decide)]; exact h5'
        have frA := r2.tr (s2.tr fr3)
        have out : ¬ (a ≤ numV t q (tkE t n q - q) ∧ numV t q (tkE t n q - q) ≤ b) → ∃ ν', (z_bn (f_X12_fail N (2 : Int32) (nI q) ν3) fun _ μ_8 => some (nI (numV t q (tkE t n q - q)), μ_8)) = some (nI (numV t q (tkE t n q - q)), ν') ∧ yFr ν ν' ∧ mB 2 q ν' := fun _ => by
          obtain ⟨ν4, u1, u2, u3⟩ := m_failAt N 2 q m3
          have u1' : f_X12_fail N (2 : Int32) (nI q) ν3 = some ((), ν4) := u1
          rw [u1', z_bn_sm]
          exact ⟨ν4, rfl, frA.tr u2, u3⟩
        by_cases c3 : numV t q (tkE t n q - q) < a
        · rw [if_pos ((lN_lt (by omega) (by omega)).mpr c3), z_bn_sm, if_pos rfl]
          obtain ⟨ν', w1, w2, w3⟩ := out (by omega)
          exact ⟨_, ν', w1, w2, Or.inr (Or.inr (Or.inr ⟨hk, y, by omega, w3⟩))⟩
        · rw [if_neg (fun z => c3 ((lN_lt (by omega) (by omega)).mp z))]
          by_cases c4 : b < numV t q (tkE t n q - q)
          · rw [if_pos ((lN_lt (by omega) (by omega)).mpr c4), z_bn_sm, if_pos rfl]
            obtain ⟨ν', w1, w2, w3⟩ := out (by omega)
            exact ⟨_, ν', w1, w2, Or.inr (Or.inr (Or.inr ⟨hk, y, by omega, w3⟩))⟩
          · rw [if_neg (fun z => c4 ((lN_lt (by omega) (by omega)).mp z)), z_bn_sm, if_neg (show ¬ (1 : Int32) = 0 by decide)]
            refine ⟨_, ν3, rfl, frA, Or.inl ⟨hk, y, by omega, by omega, rfl, (s2.tr fr3).mX hx, m3, tkE t n q, tkE t n q + 1, ?_, a2, rfl, ?_, Nat.le_refl _, ?_⟩⟩
            · rw [← hν3, sI_1, if_neg (by omega)]; exact s3
            · rw [← hν3, sI_1, if_pos ⟨rfl, rfl⟩]
              exact (pk_sub (a := tkE t n q + 1) (b := 1) (by omega)).symm
            · have eg : nxG t n q g = decide (nxQ t n q = tkE t n q) := by
                unfold nxG
                exact decide_eq_decide.mpr ⟨fun z => z.2, fun z => ⟨Or.inr hk, z⟩⟩
              rw [eg]
              exact ⟨fun z => by have := of_decide_eq_true z; omega, fun z => decide_eq_true (by omega)⟩
      · have s1' : f_X12_number_L49 N (nI a) (nI b) (nI q) (fun y129_4 μ129 => f_X12_number_B129 N (nI a) (nI b) (nI q) y129_4 μ129) (fun μ85 => z_bn (f_X12_fail N (1 : Int32) (μ85.1 253 2) μ85) fun _ μ_9 => some ((0 : Int32), μ_9)) N (0 : Int32) ν1 = z_bn (f_X12_fail N (1 : Int32) (ν2.1 253 2) ν2) fun _ μ_9 => some ((0 : Int32), μ_9) := s1
        obtain ⟨ν3, u1, u2, u3⟩ := m_failAt N 1 (q + 4) (show ν2.1 253 5 = 0 by rw [s4 5 (by decide)]; exact h5')
        have u1' : f_X12_fail N (1 : Int32) (nI (q + 4)) ν2 = some ((), ν3) := u1
        rw [s1', s3, u1', z_bn_sm]
        exact ⟨0, ν3, rfl, r2.tr (s2.tr u2), Or.inr (Or.inr (Or.inl ⟨hk, y, u3⟩))⟩
  · have nk : ¬ tkK t n q g = 2 := fun z => c ⟨(tkK_2.mp z).1, (tkK_2.mp z).2.1⟩
    rw [if_neg c, if_pos rfl, h2]
    obtain ⟨x, ν', s1, s2, s3⟩ := bad nk
    exact ⟨x, ν', s1, s2, Or.inr (Or.inl ⟨nk, s3⟩)⟩
theorem pk27_succ (t : Nat → Nat) (q m : Nat) : pk27 (lts t q (m + 1)) = 27 * pk27 (lts t q m) + (t (q + m) - 96) := by
  unfold pk27
  rw [lts_succ, List.foldl_append]
  rfl
theorem m_namL {t : Nat → Nat} {n q : Nat} (N : Nat) (e : Int64 → z_S → Option (Int64 × z_S)) (e98 : z_S → Option (Int64 × z_S)) : ∀ f i ν, q ≤ i → i ≤ n → i ≤ q + 6 → n - i < f → mX t n ν → ν.1 253 2 = nI i → ν.1 253 38 = nI q → (endE n (ltB t) i ≤ q + 6 ∧ ∃ ν', f_X12_name_L58 N e e98 f (lN (pk27 (lts t q (i - q)))) ν = e (lN (pk27 (lts t q (endE n (ltB t) i - q)))) ν' ∧ yFr ν ν' ∧ ν'.1 253 2 = nI (endE n (ltB t) i) ∧ ∀ j, j ≠ 2 → ν'.1 253 j = ν.1 253 j) ∨ (q + 6 < endE n (ltB t) i ∧ ∃ ν', f_X12_name_L58 N e e98 f (lN (pk27 (lts t q (i - q)))) ν = e98 ν' ∧ yFr ν ν' ∧ ν'.1 253 2 = nI (q + 6) ∧ ∀ j, j ≠ 2 → ν'.1 253 j = ν.1 253 j) := by
  intro f
  induction f with
  | zero => intro i ν h0 h1 h2 h3; omega
  | succ f ih =>
    intro i ν h0 h1 h2 h3 hx e2 e38
    have hn := hx.1
    have eS : ∀ v, f_X12_name_L58 N e e98 (f + 1) v ν = b_X12_name_L58 N (f_X12_name_L58 N e e98 f) e e98 v ν := fun _ => rfl
    rw [eS]
    unfold b_X12_name_L58
    rw [e2, hx.2.1]
    by_cases hlt : i < n
    · have ek : nI i + (1 : Int32) = nI (i + 1) := nI_1 i
      have hb := hx.2.2.2.1 i
      rw [if_pos (nI_lt hlt (by omega)), z_in_nI (show i < 1600 by omega) (by decide), nI_toNat (show i < 2 ^ 31 by omega), hx.2.2.1 i, m_isLt N hb, z_bn_sm, e2, e38, endE_lt hlt]
      by_cases c : ltB t i = true
      · have hd := ltB_t.mp c
        rw [if_pos hd, if_neg (show ¬ (1 : Int32) = 0 by decide), if_pos c, show nI i - nI q = nI (i - q) from pk_sub (by omega)]
        have b := (endE_b (P := ltB t) (show i + 1 ≤ n by omega)).1
        by_cases c4 : i - q = 6
        · rw [if_pos (show nI (i - q) = (6 : Int32) by rw [c4]; rfl)]
          exact Or.inr ⟨by omega, ν, rfl, yFr.rf ν, by rw [e2, show i = q + 6 by omega], fun _ _ => rfl⟩
        · rw [if_neg (show ¬ nI (i - q) = (6 : Int32) from fun z => c4 ((nI_eq (b := 6) (by omega) (by decide)).mp z)), z_in_nI (show i < 1600 by omega) (by decide), nI_toNat (show i < 2 ^ 31 by omega), hx.2.2.1 i, ek, z_bd_eq, z_bd_eq]
          have ev : (((27 : Int64) * lN (pk27 (lts t q (i - q))) + (nI (t i)).toInt64) - (97 : Int64)) + (1 : Int64) = lN (pk27 (lts t q (i + 1 - q))) := by
            rw [show i + 1 - q = (i - q) + 1 by omega, pk27_succ, show q + (i - q) = i by omega, nI_l (by omega), show (27 : Int64) * lN (pk27 (lts t q (i - q))) = lN (27 * pk27 (lts t q (i - q))) from lN_mul 27 _, lN_add, show lN (27 * pk27 (lts t q (i - q)) + t i) - (97 : Int64) = lN (27 * pk27 (lts t q (i - q)) + t i - 97) from lN_sub (b := 97) (by omega), show ∀ x, lN x + (1 : Int64) = lN (x + 1) from lN_1, show 27 * pk27 (lts t q (i - q)) + t i - 97 + 1 = 27 * pk27 (lts t q (i - q)) + (t i - 96) by omega]
          rw [ev]
          have fr := yFr.set ν (j := 2) (nI (i + 1)) (by omega)
          rcases ih (i + 1) (z_setI ν 253 2 (nI (i + 1))) (by omega) (by omega) (by omega) (by omega) (fr.mX hx) (by rw [sI_1, if_pos ⟨rfl, rfl⟩]) (by rw [sI_1, if_neg (by omega)]; exact e38) with ⟨y, ν', r1, r2, r3, r4⟩ | ⟨y, ν', r1, r2, r3, r4⟩
          · exact Or.inl ⟨y, ν', r1, fr.tr r2, r3, fun j hj => by rw [r4 j hj, sI_1, if_neg (fun z => hj z.2)]⟩
          · exact Or.inr ⟨y, ν', r1, fr.tr r2, r3, fun j hj => by rw [r4 j hj, sI_1, if_neg (fun z => hj z.2)]⟩
      · rw [if_neg (fun z => c (ltB_t.mpr z)), if_pos rfl, if_neg c]
        exact Or.inl ⟨h2, ν, rfl, yFr.rf ν, e2, fun _ _ => rfl⟩
    · rw [if_neg (nI_nlt (by omega) (by omega)), endE_ge (by omega)]
      exact Or.inl ⟨h2, ν, rfl, yFr.rf ν, e2, fun _ _ => rfl⟩
theorem m_name {t : Nat → Nat} {n q : Nat} {g : Bool} (N : Nat) (hN : 1700 ≤ N) {ν : z_S} (h : mG t n q g ν) : ∃ x ν', f_X12_name N ν = some (x, ν') ∧ yFr ν ν' ∧
    ((tkK t n q g = 1 ∧ ¬ isOwn (tkW t n q g) ∧ tkE t n q ≤ q + 6 ∧ x = lN (pk27 (lts t q (tkE t n q - q))) ∧ mG t n (nxQ t n q) (nxG t n q g) ν' ∧ ν'.1 253 38 = nI q) ∨ (¬ (tkK t n q g = 1 ∧ ¬ isOwn (tkW t n q g)) ∧ mB 1 q ν') ∨ (tkK t n q g = 1 ∧ ¬ isOwn (tkW t n q g) ∧ q + 6 < tkE t n q ∧ mB 1 (q + 6) ν')) := by
  obtain ⟨ν1, r1, r2, r3⟩ := m_look N hN h
  have hA := r3
  obtain ⟨hx, h5', h2, hq, hs, d, hd, hdq, hg⟩ := r3
  have hn := hx.1
  obtain ⟨a1, a2, a3⟩ := tkE_b (t := t) hq
  unfold f_X12_name f_X12_name_B37
  rw [if_pos h.2.1, r1, z_bn_sm, lk_lt N hx.2.2.2.1, z_bn_sm]
  have bad : ∃ x ν', (z_bn (f_X12_fail N (1 : Int32) (nI q) ν1) fun _ μ_3 => some ((0 : Int64), μ_3)) = some (x, ν') ∧ yFr ν ν' ∧ mB 1 q ν' := by
    obtain ⟨ν2, s1, s2, s3⟩ := m_failAt N 1 q h5'
    have s1' : f_X12_fail N (1 : Int32) (nI q) ν1 = some ((), ν2) := s1
    rw [s1', z_bn_sm]
    exact ⟨0, ν2, rfl, r2.tr s2, s3⟩
  by_cases c : q < n ∧ ltB t q = true
  · rw [if_pos c, if_neg (show ¬ (1 : Int32) = 0 by decide), h2, hd]
    by_cases cg : g = true
    · have hd1 := hg.mp cg
      have e1 : nI d - 1 = nI q := by rw [hd1]; exact pk_sub (b := 1) (by omega)
      rw [if_pos e1.symm]
      obtain ⟨x, ν', s1, s2, s3⟩ := bad
      exact ⟨x, ν', s1, s2, Or.inr (Or.inl ⟨fun z => by rw [(tkK_1.mp z.1).2.2] at cg; exact absurd cg (by decide), s3⟩)⟩
    · have hd1 : ¬ d = q + 1 := fun z => cg (hg.mpr z)
      have gf : g = false := by cases g; rfl; exact absurd rfl cg
      have hk : tkK t n q g = 1 := tkK_1.mpr ⟨c.1, c.2, gf⟩
      have eE : tkE t n q = endE n (ltB t) q := by unfold tkE; rw [if_neg (by omega), if_pos c.2]
      obtain ⟨b, w1, w2⟩ := m_own N hN hA
      rw [if_neg (fun z => hd1 ((nI_dec (by omega) (by omega)).mp z.symm)), w1, z_bn_sm]
      rcases w2 with ⟨rfl, w2⟩ | ⟨rfl, w2⟩
      · rw [if_neg (show ¬ (1 : Int32) = 0 by decide), h2]
        obtain ⟨x, ν', s1, s2, s3⟩ := bad
        exact ⟨x, ν', s1, s2, Or.inr (Or.inl ⟨fun z => z.2 w2, s3⟩)⟩
      · rw [if_pos rfl, h2, z_bd_eq]
        have fr := yFr.set ν1 (j := 38) (nI q) (by omega)
        have L := m_namL (t := t) (n := n) (q := q) N (fun y145_1 μ145 => f_X12_name_B145 N y145_1 μ145) (fun μ98 => z_bn (f_X12_fail N (1 : Int32) (μ98.1 253 2) μ98) fun _ μ_9 => some ((0 : Int64), μ_9)) N q (z_setI ν1 253 38 (nI q)) (Nat.le_refl _) hq (by omega) (by omega) (fr.mX hx) (by rw [sI_1, if_neg (by omega)]; exact h2) (by rw [sI_1, if_pos ⟨rfl, rfl⟩])
        rw [← eE, Nat.sub_self] at L
        rcases L with ⟨y, ν2, s1, s2, s3, s4⟩ | ⟨y, ν2, s1, s2, s3, s4⟩
        · have s1' : f_X12_name_L58 N (fun y145_1 μ145 => f_X12_name_B145 N y145_1 μ145) (fun μ98 => z_bn (f_X12_fail N (1 : Int32) (μ98.1 253 2) μ98) fun _ μ_9 => some ((0 : Int64), μ_9)) N (0 : Int64) (z_setI ν1 253 38 (nI q)) = f_X12_name_B145 N (lN (pk27 (lts t q (tkE t n q - q)))) ν2 := s1
          rw [s1']
          unfold f_X12_name_B145
          rw [s3, z_bd_eq]
          have fr3 := yFr.set ν2 (j := 4) (nI (tkE t n q)) (by omega)
          have frA := fr.tr (s2.tr fr3)
          refine ⟨_, _, rfl, r2.tr frA, Or.inl ⟨hk, w2, y, rfl, ⟨frA.mX hx, ?_, tkE t n q, tkE t n q + 1, ?_, a2, rfl, ?_, Nat.le_refl _, ?_⟩, ?_⟩⟩
          · rw [sI_1, if_neg (by omega), s4 5 (by decide), sI_1, if_neg (by omega)]; exact h5'
          · rw [sI_1, if_neg (by omega)]; exact s3
          · rw [sI_1, if_pos ⟨rfl, rfl⟩]
            exact (pk_sub (a := tkE t n q + 1) (b := 1) (by omega)).symm
          · have eg : nxG t n q g = decide (nxQ t n q = tkE t n q) := by
              unfold nxG
              exact decide_eq_decide.mpr ⟨fun z => z.2, fun z => ⟨Or.inl hk, z⟩⟩
            rw [eg]
            exact ⟨fun z => by have := of_decide_eq_true z; omega, fun z => decide_eq_true (by omega)⟩
          · rw [sI_1, if_neg (by omega), s4 38 (by decide), sI_1, if_pos ⟨rfl, rfl⟩]
        · have s1' : f_X12_name_L58 N (fun y145_1 μ145 => f_X12_name_B145 N y145_1 μ145) (fun μ98 => z_bn (f_X12_fail N (1 : Int32) (μ98.1 253 2) μ98) fun _ μ_9 => some ((0 : Int64), μ_9)) N (0 : Int64) (z_setI ν1 253 38 (nI q)) = z_bn (f_X12_fail N (1 : Int32) (ν2.1 253 2) ν2) fun _ μ_9 => some ((0 : Int64), μ_9) := s1
          obtain ⟨ν3, u1, u2, u3⟩ := m_failAt N 1 (q + 6) (show ν2.1 253 5 = 0 by rw [s4 5 (by decide), sI_1, if_neg (by omega)]; exact h5')
          have u1' : f_X12_fail N (1 : Int32) (nI (q + 6)) ν2 = some ((), ν3) := u1
          rw [s1', s3, u1', z_bn_sm]
          exact ⟨0, ν3, rfl, r2.tr (fr.tr (s2.tr u2)), Or.inr (Or.inr ⟨hk, w2, y, u3⟩)⟩
  · rw [if_neg c, if_pos rfl, h2]
    obtain ⟨x, ν', s1, s2, s3⟩ := bad
    exact ⟨x, ν', s1, s2, Or.inr (Or.inl ⟨fun z => c ⟨(tkK_1.mp z.1).1, (tkK_1.mp z.1).2.1⟩, s3⟩)⟩
