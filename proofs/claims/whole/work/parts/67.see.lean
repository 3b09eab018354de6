/-! see -/
theorem c_len {A : aS} {μ : z_S} (ok : okS A) (h : cS A μ) (n : Nat) : cS (aLen A n) (z_setI μ 1 1 (nI n)) := by
  have h' := h
  obtain ⟨a1, a2, a3, a4, a5, a6, a7, a8, a9, b1, ⟨old, b2, b3, b4⟩, c1, c2, d1, d2, d3⟩ := h'
  refine cS_of ok h rfl rfl (fun q j h1 h2 g1 g2 g3 g4 => by rw [sI_1, if_neg (by omega)]) (fun j => by rw [sI_1, if_neg (by omega)]) ?_ (fun k => ?_) (fun k hk => ?_) ?_ ?_ ?_ ?_ ?_ ?_ (fun k q hq => ?_) ?_ (fun k x hx => ?_) ?_
  · rw [sI_1, if_pos ⟨rfl, rfl⟩]; rfl
  · rw [sI_1, if_neg (by omega)]; exact a2 k
  · rw [sI_1, if_neg (by omega)]; exact a4 k hk
  · rw [sI_1, if_neg (by omega)]; exact a5
  · rw [sI_1, if_neg (by omega)]; exact a6
  · exact cN_of a9 (fun o j h1 h2 => by rw [sI_1, if_neg (by omega)])
  · rw [sI_1, if_neg (by omega)]; exact b1
  · exact ⟨old, b2, by rw [sI_1, if_neg (by omega)]; exact b3, fun i a hi => cN_of (b4 i a hi) (fun o j h1 h2 => by rw [sI_1, if_neg (by omega)])⟩
  · rw [sI_1, if_neg (by omega)]; exact c1
  · exact ⟨by rw [sI_1, if_neg (by omega)]; exact (c2 k q hq).1, by rw [sI_1, if_neg (by omega)]; exact (c2 k q hq).2⟩
  · rw [sI_1, if_neg (by omega)]; exact d1
  · rw [sI_1, if_neg (by omega)]; exact d2 k x hx
  · rw [sI_1, if_neg (by omega)]; exact d3
theorem m_len {A : aS} {ν : z_S} (h : mS A ν) (n : Nat) : mS (aLen A n) (z_setI ν 253 1 (nI n)) := by
  have h' := h
  obtain ⟨a1, a2, a3, a4, a5, a6, a7, a8, b1, ⟨nw, b2, b3, b4⟩, c1, c2, d1, d2, d3⟩ := h'
  refine mS_of h rfl (fun q j h1 h2 => by rw [sI_1, if_neg (by omega)]) (fun _ => rfl) (fun q j hq => by rw [sI_1, if_neg (by omega)]) ?_ (fun k => ?_) (fun k hk => ?_) ?_ ?_ ?_ ?_ ?_ ?_ (fun k q hq => ?_) ?_ (fun k x hx => ?_) ?_
  · rw [sI_1, if_pos ⟨rfl, rfl⟩]; rfl
  · rw [sI_1, if_neg (by omega)]; exact a2 k
  · rw [sI_1, if_neg (by omega)]; exact a4 k hk
  · rw [sI_1, if_neg (by omega)]; exact a5
  · rw [sI_1, if_neg (by omega)]; exact a6
  · exact mN_of a8 (fun j h1 h2 => by rw [sI_1, if_neg (by omega)])
  · rw [sI_1, if_neg (by omega)]; exact b1
  · exact ⟨nw, b2, by rw [sI_1, if_neg (by omega)]; exact b3, fun i a hi => mN_of (b4 i a hi) (fun j h1 h2 => by rw [sI_1, if_neg (by omega)])⟩
  · rw [sI_1, if_neg (by omega)]; exact c1
  · exact ⟨by rw [sI_1, if_neg (by omega)]; exact (c2 k q hq).1, by obtain ⟨-, x, y, q1, q2, q3, q4, q5⟩ := c2 k q hq; exact ⟨x, y, q1, q2, q3, by rw [sI_1, if_neg (by omega)]; exact q4, by rw [sI_1, if_neg (by omega)]; exact q5⟩⟩
  · rw [sI_1, if_neg (by omega)]; exact d1
  · rw [sI_1, if_neg (by omega)]; exact d2 k x hx
  · exact d3
theorem ok_len {A : aS} (ok : okS A) {n : Nat} (hn : n ≤ 1600) : okS (aLen A n) := by
  obtain ⟨o1, o2⟩ := ok
  exact ⟨hn, o2⟩
/-- the first k rows tell letters that there are -/
def okRows (t : Nat → Nat) (c : Nat) : Nat → Bool
  | 0 => true
  | k + 1 => okRows t c k && decide (t (3 * k) < c)
theorem okRows_true {t : Nat → Nat} {c : Nat} : ∀ n, (∀ k, k < n → t (3 * k) < c) → okRows t c n = true
  | 0, _ => rfl
  | n + 1, h => by
    show (okRows t c n && decide (t (3 * n) < c)) = true
    rw [okRows_true n (fun k hk => h k (by omega)), decide_eq_true (h n (by omega))]
    rfl
theorem okRows_false {t : Nat → Nat} {c k : Nat} (h : ¬ t (3 * k) < c) : ∀ n, k < n → okRows t c n = false
  | 0, hk => absurd hk (Nat.not_lt_zero _)
  | n + 1, hk => by
    show (okRows t c n && decide (t (3 * n) < c)) = false
    by_cases e : k = n
    · subst e
      rw [decide_eq_false h, Bool.and_false]
    · rw [okRows_false h n (by omega)]
      rfl
theorem okRows_all {t : Nat → Nat} {c : Nat} : ∀ n, okRows t c n = true → ∀ k, k < n → t (3 * k) < c := by
  intro n h k hk
  rcases Nat.lt_or_ge (t (3 * k)) c with q | q
  · exact q
  · rw [okRows_false (Nat.not_lt.mpr q) n hk] at h
    cases h
theorem c_isLb {A : aS} {μ : z_S} (ok : okS A) (h : cS A μ) (N : Nat) (x : Nat) (hx : x < 256) : f_X11_isLetter N (nI x) μ = some (if x < hCnt (sH A) 0 then 1 else 0, μ) := by
  rw [c_isL ok h, nI_toInt (by omega)]
  by_cases e : x < hCnt (sH A) 0
  · rw [if_pos e, if_pos (by omega)]
  · rw [if_neg e, if_neg (by omega)]
theorem m_isLb {A : aS} {ν : z_S} (ok : okS A) (h : mS A ν) (N : Nat) (x : Nat) (hx : x < 256) : f_X12_isMail N (nI x) ν = some (if x < hCnt (sH A) 0 then 1 else 0, ν) := by
  rw [m_isL ok h, nI_toInt (by omega)]
  by_cases e : x < hCnt (sH A) 0
  · rw [if_pos e, if_pos (by omega)]
  · rw [if_neg e, if_neg (by omega)]
theorem c_tells {A : aS} {μ : z_S} (ok : okS A) (h : cS A μ) (N : Nat) (hN : 20 ≤ N) {r : Nat} (hr : r ≤ 16) : f_X11_tellsLetters N (nI r) μ = some (if okRows (sTape A) (hCnt (sH A) 0) r then 1 else 0, μ) := by
  have h10 : ¬ (1 : Int32) = 0 := by decide
  have key : ∀ n k, k ≤ r → r - k < n → (∀ j, j < k → sTape A (3 * j) < hCnt (sH A) 0) → f_X11_tellsLetters_L2 N (nI r) n (nI k) μ = some (if okRows (sTape A) (hCnt (sH A) 0) r then 1 else 0, μ) := by
    intro n
    induction n with
    | zero => intro k h1 h2; omega
    | succ n ih =>
      intro k h1 h2 hall
      show b_X11_tellsLetters_L2 N (nI r) (f_X11_tellsLetters_L2 N (nI r) n) (nI k) μ = _
      unfold b_X11_tellsLetters_L2
      by_cases hlt : k < r
      · have e3 : (3 : Int32) * nI k = nI (3 * k) := pk_mul 3 k
        have ek : nI k + 1 = nI (k + 1) := nI_1 k
        rw [if_pos (nI_lt hlt (by omega)), e3, z_in_nI (show 3 * k < 1600 by omega) (by decide), nI_toNat (by omega), h.2.1, c_isLb ok h N _ (ok.2.1 _), z_bn_sm]
        by_cases hq : sTape A (3 * k) < hCnt (sH A) 0
        · rw [if_pos hq, if_neg h10, z_bd_eq, ek]
          refine ih (k + 1) (by omega) (by omega) (fun j hj => ?_)
          by_cases e : j = k
          · subst e; exact hq
          · exact hall j (by omega)
        · rw [if_neg hq, if_pos rfl, okRows_false hq r hlt]
          rfl
      · have : k = r := by omega
        subst this
        rw [if_neg (nI_nlt (Nat.le_refl _) (by omega)), okRows_true _ hall]
        rfl
  unfold f_X11_tellsLetters
  exact key N 0 (Nat.zero_le _) (by omega) (fun j hj => absurd hj (Nat.not_lt_zero _))
theorem m_tells {A : aS} {ν : z_S} (ok : okS A) (h : mS A ν) (N : Nat) {r : Nat} (hr : r ≤ 16) (e62 : Int32 → z_S → Option (Int32 × z_S)) : ∀ n k, k ≤ r → r - k < n → (∀ j, j < k → sTape A (3 * j) < hCnt (sH A) 0) → f_X12_see_L36 N (nI (3 * r)) e62 (n + 1) 1 (nI (3 * k)) ν = e62 (if okRows (sTape A) (hCnt (sH A) 0) r then 1 else 0) ν := by
  have h10 : ¬ (1 : Int32) = 0 := by decide
  intro n
  induction n with
  | zero => intro k h1 h2; omega
  | succ n ih =>
    intro k h1 h2 hall
    show b_X12_see_L36 N (nI (3 * r)) (f_X12_see_L36 N (nI (3 * r)) e62 (n + 1)) e62 1 (nI (3 * k)) ν = _
    unfold b_X12_see_L36
    by_cases hlt : k < r
    · have ek : nI (3 * k) + 3 = nI (3 * (k + 1)) := by show nI (3 * k) + nI 3 = _; rw [nI_add]; rfl
      rw [if_pos (nI_lt (by omega) (by omega)), if_neg h10, z_in_nI (show 3 * k < 1600 by omega) (by decide), nI_toNat (by omega), h.2.1, m_isLb ok h N _ (ok.2.1 _), z_bn_sm, z_bd_eq, ek]
      by_cases hq : sTape A (3 * k) < hCnt (sH A) 0
      · rw [if_pos hq]
        refine ih (k + 1) (by omega) (by omega) (fun j hj => ?_)
        by_cases e : j = k
        · subst e; exact hq
        · exact hall j (by omega)
      · rw [if_neg hq, okRows_false hq r hlt]
        show b_X12_see_L36 N (nI (3 * r)) (f_X12_see_L36 N (nI (3 * r)) e62 n) e62 0 (nI (3 * (k + 1))) ν = _
        unfold b_X12_see_L36
        split
        · rw [if_pos rfl]; rfl
        · rfl
    · have : k = r := by omega
      subst this
      rw [if_neg (nI_nlt (Nat.le_refl _) (by omega)), okRows_true _ hall]
      rfl
